/-! ===== what hangs and falls; forge ===== -/
theorem bitR : ∀ k, k < 256 → ∀ m, m < 8 → ((nI k >>> (nI m &&& 31)) &&& nI 1 = nI 1 ↔ k.testBit m = true) := by decide +kernel
theorem bitO : ∀ k, k < 256 → ∀ m, m < 8 → nI k ||| (nI 1 <<< (nI m &&& 31)) = nI (k ||| 2 ^ m) := by decide +kernel
theorem bit0 : ∀ k, k < 256 → nI k ||| nI 0 = nI k := by decide +kernel
def c8 (s : Nat) : Nat := s % 2 + s / 2 % 2 + s / 4 % 2 + s / 8 % 2 + s / 16 % 2 + s / 32 % 2 + s / 64 % 2 + s / 128 % 2
theorem c8_le {s : Nat} : c8 s ≤ 8 := by
  unfold c8
  omega
theorem c8_or : ∀ k, k < 256 → ∀ m, m < 8 → k.testBit m = false → c8 (k ||| 2 ^ m) = c8 k + 1 := by decide +kernel
theorem c8_one : ∀ m, m < 8 → c8 (2 ^ m) = 1 := by decide +kernel
theorem or_lt {k m : Nat} (h : k < 256) (hm : m < 8) : k ||| 2 ^ m < 256 := Nat.or_lt_two_pow (n := 8) h (Nat.pow_lt_pow_right (by decide) hm)
theorem tb_or {k m u : Nat} : (k ||| 2 ^ m).testBit u = true ↔ k.testBit u = true ∨ m = u := by
  rw [Nat.testBit_or, Nat.testBit_two_pow, Bool.or_eq_true, decide_eq_true_iff]
theorem tb_lt {k m : Nat} (h : k < 256) (hm : k.testBit m = true) : m < 8 := by
  refine Nat.lt_of_not_le fun g => ?_
  rw [Nat.testBit_lt_two_pow (Nat.lt_of_lt_of_le h (show 256 ≤ 2 ^ m from Nat.pow_le_pow_right (n := 2) (i := 8) (by decide) g))] at hm
  exact Bool.false_ne_true hm
/-- those of the first n of which P holds, as a set -/
noncomputable def wS (P : Nat → Prop) : Nat → Nat
  | 0 => 0
  | n + 1 => wS P n ||| @ite _ (P n) (Classical.propDecidable _) (2 ^ n) 0
section WS
variable {P : Nat → Prop} {n : Nat}
theorem wS_t (h : P n) : wS P (n + 1) = wS P n ||| 2 ^ n := by
  show wS P n ||| @ite _ (P n) (Classical.propDecidable _) (2 ^ n) 0 = _
  rw [if_pos h]
theorem wS_f (h : ¬ P n) : wS P (n + 1) = wS P n := by
  show wS P n ||| @ite _ (P n) (Classical.propDecidable _) (2 ^ n) 0 = _
  rw [if_neg h, Nat.or_zero]
theorem wS_tb {u : Nat} : (wS P n).testBit u = true ↔ u < n ∧ P u := by
  induction n with
  | zero =>
    show (0 : Nat).testBit u = true ↔ _
    rw [Nat.zero_testBit]
    exact ⟨fun h => absurd h Bool.false_ne_true, fun h => absurd h.1 (Nat.not_lt_zero _)⟩
  | succ n ih =>
    by_cases h : P n
    · rw [wS_t h, tb_or, ih]
      refine ⟨fun g => g.elim (fun g => ⟨by omega, g.2⟩) (fun g => ⟨by omega, g ▸ h⟩), fun g => ?_⟩
      by_cases e : n = u
      · exact Or.inr e
      · exact Or.inl ⟨by omega, g.2⟩
    · rw [wS_f h, ih]
      refine ⟨fun g => ⟨by omega, g.2⟩, fun g => ⟨?_, g.2⟩⟩
      have : ¬ u = n := fun e => h (e ▸ g.2)
      omega
theorem wS_lt (h : n ≤ 8) : wS P n < 256 := by
  induction n with
  | zero => exact (by decide : 0 < 256)
  | succ n ih =>
    by_cases g : P n
    · rw [wS_t g]
      exact or_lt (ih (by omega)) (by omega)
    · rw [wS_f g]
      exact ih (by omega)
theorem wS_eq {s : Nat} (h : ∀ u, s.testBit u = true ↔ u < n ∧ P u) : s = wS P n := by
  refine Nat.eq_of_testBit_eq fun u => ?_
  have e : s.testBit u = true ↔ (wS P n).testBit u = true := (h u).trans wS_tb.symm
  rcases hs : s.testBit u with _ | _
  · rcases hw : (wS P n).testBit u with _ | _
    · rfl
    · rw [e.mpr hw] at hs
      exact absurd hs.symm Bool.false_ne_true
  · exact (e.mp hs).symm
end WS
section RC
variable {r : Nat → Int32} {o u w : Nat}
theorem Rch.self : Rch r o o := ⟨1, Or.inl rfl⟩
theorem Rch.step (hw : w ≤ 7) (e : r (14 + 6 * u + 5) = nI w) (h : Rch r o w) : Rch r o u := by
  obtain ⟨f, hf⟩ := h
  exact ⟨f + 1, Or.inr ⟨w, hw, e, hf⟩⟩
theorem Rch.ind {P : Nat → Prop} (h0 : P o) (hs : ∀ u w, w ≤ 7 → r (14 + 6 * u + 5) = nI w → P w → P u) (h : Rch r o u) : P u := by
  obtain ⟨f, hf⟩ := h
  induction f generalizing u with
  | zero => exact absurd hf id
  | succ f ih =>
    rcases hf with e | ⟨w, hw, e, g⟩
    · rw [e]; exact h0
    · exact hs u w hw e (ih g)
theorem Rch.no (h : ¬ u = o) (g : ∀ w, w ≤ 7 → r (14 + 6 * u + 5) = nI w → ¬ Rch r o w) : ¬ Rch r o u := by
  rintro ⟨f, hf⟩
  cases f with
  | zero => exact hf
  | succ f =>
    rcases hf with e | ⟨w, hw, e, hf⟩
    · exact h e
    · exact g w hw e ⟨f, hf⟩
end RC
section FO
variable {X : mSc} {Q : Option Value → mHp → Prop} {M : mM}
theorem m154 {t0 o : Nat} (ho : o < 8) {nt : Nat} {rk : Nat → Nat} (hW : Wf M) (h8 : nt ≤ 8) (hrk : ∀ t u, t < nt → u ≤ 7 → M 67 (14 + 6 * t + 5) = nI u → u < nt ∧ rk u < rk t) : ∀ (n : Nat) (x : Int32), (x < 0 ∨ ∃ k, k < nt ∧ x = nI k ∧ rk k + 1 < n) → 0 < n → mEv X (QE M (fun v => (x < 0 → v = nI 0) ∧ ∀ k, k < nt → x = nI k → ((Rch (M 67) o k ∧ v = nI 1) ∨ (¬ Rch (M 67) o k ∧ v = nI 0)))) 154 2 [some (.ref 66), some (.int (nI t0)), some (.int (nI o)), some (.int x)] [] (con M) := by
  have hm : mMet 154 = some _ := rfl
  intro n
  induction n with
  | zero =>
    intro x hx hn
    exact absurd hn (by omega)
  | succ n ih =>
    intro x hx hn
    refine x_iload_n hm rfl rfl ?_
    refine x_if_lt hm rfl (t := 21) rfl (fun h1 => ?_) (fun h1 => ?_)
    · have hneg := h1
      refine x_iload_n hm rfl rfl ?_
      refine x_if_lt hm rfl (t := 29) rfl (fun h2 => ?_) (fun h2 => ?_)
      · refine x_iconst hm rfl (v := nI 0) (by decide) ?_
        refine x_iret hm rfl rfl (by first | rfl | exact bI_nar | decide) ?_
        first
          | exact absurd hneg (by assumption)
          | exact absurd (by assumption) hpos
          | exact ⟨_, rfl, rfl, fun _ => rfl, (fun k hk he => by subst he; exact absurd (by assumption : nI k < 0) (jI_nn (by omega)))⟩
          | exact ⟨_, rfl, rfl, fun h => absurd h hpos, fun k hk he => Or.inl ⟨by rw [jI_inj (by omega) (by omega) (he.symm.trans heq)]; exact Rch.self, rfl⟩⟩
      · refine x_iconst hm rfl (v := nI 1) (by decide) ?_
        refine x_goto hm rfl (t := 30) rfl ?_
        refine x_iret hm rfl rfl (by first | rfl | exact bI_nar | decide) ?_
        first
          | exact absurd hneg (by assumption)
          | exact absurd (by assumption) hpos
          | exact ⟨_, rfl, rfl, fun _ => rfl, (fun k hk he => by subst he; exact absurd (by assumption : nI k < 0) (jI_nn (by omega)))⟩
          | exact ⟨_, rfl, rfl, fun h => absurd h hpos, fun k hk he => Or.inl ⟨by rw [jI_inj (by omega) (by omega) (he.symm.trans heq)]; exact Rch.self, rfl⟩⟩
    · have hpos := h1
      refine x_iload_n hm rfl rfl ?_
      refine x_iload_n hm rfl rfl ?_
      refine x_icmp_eq hm rfl (t := 21) rfl (fun h3 => ?_) (fun h3 => ?_)
      · have heq := h3
        refine x_iload_n hm rfl rfl ?_
        refine x_if_lt hm rfl (t := 29) rfl (fun h4 => ?_) (fun h4 => ?_)
        · refine x_iconst hm rfl (v := nI 0) (by decide) ?_
          refine x_iret hm rfl rfl (by first | rfl | exact bI_nar | decide) ?_
          first
            | exact absurd hneg (by assumption)
            | exact absurd (by assumption) hpos
            | exact ⟨_, rfl, rfl, fun _ => rfl, (fun k hk he => by subst he; exact absurd (by assumption : nI k < 0) (jI_nn (by omega)))⟩
            | exact ⟨_, rfl, rfl, fun h => absurd h hpos, fun k hk he => Or.inl ⟨by rw [jI_inj (by omega) (by omega) (he.symm.trans heq)]; exact Rch.self, rfl⟩⟩
        · refine x_iconst hm rfl (v := nI 1) (by decide) ?_
          refine x_goto hm rfl (t := 30) rfl ?_
          refine x_iret hm rfl rfl (by first | rfl | exact bI_nar | decide) ?_
          first
            | exact absurd hneg (by assumption)
            | exact absurd (by assumption) hpos
            | exact ⟨_, rfl, rfl, fun _ => rfl, (fun k hk he => by subst he; exact absurd (by assumption : nI k < 0) (jI_nn (by omega)))⟩
            | exact ⟨_, rfl, rfl, fun h => absurd h hpos, fun k hk he => Or.inl ⟨by rw [jI_inj (by omega) (by omega) (he.symm.trans heq)]; exact Rch.self, rfl⟩⟩
      · obtain ⟨k, hk, rfl, hm2⟩ := hx.resolve_left hpos
        have hno := h3
        refine x_aload_n hm rfl rfl ?_
        refine x_iload_n hm rfl rfl ?_
        refine x_iconst hm rfl (v := nI 5) (by decide) ?_
        refine x_callV hm rfl rfl (t143 (by omega) (by omega)) ?_
        refine x_istore_n hm rfl rfl ?_
        refine x_goto hm rfl (t := 2) rfl ?_
        have hx2 := hang_next hW h8 hrk hk hm2
        refine ev_mono (ih _ hx2 (by omega)) ?_
        rintro r D ⟨v, e1, e2, e3, e4⟩
        refine ⟨v, e1, e2, fun h => absurd h hpos, fun j hj he => ?_⟩
        obtain rfl := jI_inj (by omega) (by omega) he
        have hne : ¬ k = o := fun e => hno (by rw [e])
        rcases hx2 with g | ⟨w, hw, g, -⟩
        · exact Or.inr ⟨Rch.no hne fun w hw e _ => by rw [e] at g; exact absurd g (jI_nn (by omega)), e3 g⟩
        · rcases e4 w hw g with ⟨a, b⟩ | ⟨a, b⟩
          · exact Or.inl ⟨Rch.step (by omega) g a, b⟩
          · exact Or.inr ⟨Rch.no hne fun w2 hw2 e => by rw [jI_inj (by omega) (by omega) (e.symm.trans g)]; exact a, b⟩
theorem e154 {t o nt : Nat} (hI : Inv M) (hnt : M 67 1 = nI nt) (h8 : nt ≤ 8) (ht : t < nt) (ho : o < 8) : ∃ v, mT X 154 [.ref 66, .int (nI t), .int (nI o)] (con M) (some (.int v)) (con M) ∧ ((Rch (M 67) o t ∧ v = nI 1) ∨ (¬ Rch (M 67) o t ∧ v = nI 0)) := by
  refine te_of (row := _) rfl (Nat.le_of_ble_eq_true rfl) ?_
  have hm : mMet 154 = some _ := rfl
  obtain ⟨rk, hrk⟩ := hI.2.1 nt h8 hnt
  refine x_iload_n hm rfl rfl ?_
  refine x_istore_n hm rfl rfl ?_
  refine ev_mono (m154 ho hI.1 h8 hrk (rk t + 2) _ (Or.inr ⟨t, ht, rfl, by omega⟩) (by omega)) ?_
  rintro r D ⟨v, e1, e2, e3, e4⟩
  exact ⟨v, e1, e2, e4 t ht rfl⟩
theorem m194 {t : Nat} (hI : Inv M) (ht : t < 8) {nb : Nat} (hnb : M 67 1 = nI nb) (h8 : nb ≤ 8) : ∀ (n k : Nat), nb - k < n → k ≤ nb → mEv X (fun z D => z = some (.int (nI (wS (Rch (M 67) t) nb))) ∧ D = con M) 194 4 [some (.ref 66), some (.int (nI t)), some (.int (nI (wS (Rch (M 67) t) k))), some (.int (nI k))] [] (con M) := by
  have hm : mMet 194 = some _ := rfl
  intro n
  induction n with
  | zero =>
    intro k hkn hkb
    omega
  | succ n ih =>
    intro k hkn hkb
    refine x_iload_n hm rfl rfl ?_
    refine x_aload_n hm rfl rfl ?_
    refine x_getf hm rfl (gR rfl rfl) ?_
    refine x_iconst hm rfl (v := nI 1) (by decide) ?_
    refine x_iald hm rfl (lI rfl (by omega) (by decide)) ?_
    rw [hnb]
    refine x_icmp_ge hm rfl (t := 39) rfl (fun h1 => ?_) (fun h1 => ?_)
    · obtain rfl : k = nb := Nat.le_antisymm hkb ((jI_le (by omega) (by omega)).mp h1)
      refine x_iload_n hm rfl rfl ?_
      refine x_iret hm rfl rfl (by first | rfl | exact bI_nar | decide) ?_
      exact ⟨rfl, rfl⟩
    · have hk : k < nb := Nat.lt_of_not_le fun h => h1 (nI_le h (by omega))
      have hw8 : wS (Rch (M 67) t) k < 256 := wS_lt (by omega)
      refine x_iload_n hm rfl rfl ?_
      refine x_aload_n hm rfl rfl ?_
      refine x_iload_n hm rfl rfl ?_
      refine x_iload_n hm rfl rfl ?_
      refine x_cVe hm rfl rfl (e154 hI hnb h8 hk (by omega)) (fun v2 r2 => ?_)
      refine x_if_eq hm rfl (t := 30) rfl (fun h3 => ?_) (fun h3 => ?_)
      · have hq : nI (wS (Rch (M 67) t) k) ||| nI 0 = nI (wS (Rch (M 67) t) (k + 1)) := by
          rcases r2 with ⟨-, g⟩ | ⟨g, -⟩
          · exact absurd (g.symm.trans h3) (by decide)
          · rw [wS_f g]; exact bit0 _ hw8
        refine x_iconst hm rfl (v := nI 0) (by decide) ?_
        refine x_ior hm rfl ?_
        rw [hq]
        refine x_istore_n hm rfl rfl ?_
        refine x_iinc hm rfl rfl (v := nI 1) (by decide) rfl ?_
        rw [jI_add]
        refine x_goto hm rfl (t := 4) rfl ?_
        exact ih _ (by omega) (by omega)
      · have hq : nI (wS (Rch (M 67) t) k) ||| (nI 1 <<< (nI k &&& 31)) = nI (wS (Rch (M 67) t) (k + 1)) := by
          rcases r2 with ⟨g, -⟩ | ⟨-, g⟩
          · rw [wS_t g]; exact bitO _ hw8 _ (by omega)
          · exact absurd g h3
        refine x_iconst hm rfl (v := nI 1) (by decide) ?_
        refine x_iload_n hm rfl rfl ?_
        refine x_ishl hm rfl ?_
        refine x_goto hm rfl (t := 31) rfl ?_
        refine x_ior hm rfl ?_
        rw [hq]
        refine x_istore_n hm rfl rfl ?_
        refine x_iinc hm rfl rfl (v := nI 1) (by decide) rfl ?_
        rw [jI_add]
        refine x_goto hm rfl (t := 4) rfl ?_
        exact ih _ (by omega) (by omega)
theorem e194 {t : Nat} (hI : Inv M) (ht : t < 8) {nb : Nat} (hnb : M 67 1 = nI nb) (h8 : nb ≤ 8) : mT X 194 [.ref 66, .int (nI t)] (con M) (some (.int (nI (wS (Rch (M 67) t) nb)))) (con M) := by
  refine mT.of (row := _) rfl (Nat.le_of_ble_eq_true rfl) ?_
  have hm : mMet 194 = some _ := rfl
  refine x_iconst hm rfl (v := nI 0) (by decide) ?_
  refine x_istore_n hm rfl rfl ?_
  refine x_iconst hm rfl (v := nI 0) (by decide) ?_
  refine x_istore_n hm rfl rfl ?_
  exact m194 hI ht hnb h8 _ 0 (Nat.lt_succ_self _) (Nat.zero_le _)
theorem g21 {s m : Nat} (hs : s < 256) (hm8 : m < 8) : mT X 21 [.int (nI s), .int (nI m)] (con M) (some (.int (bI (s.testBit m = true)))) (con M) := by
  refine mT.of (row := _) rfl (Nat.le_of_ble_eq_true rfl) ?_
  have hm : mMet 21 = some _ := rfl
  refine x_iload_n hm rfl rfl ?_
  refine x_iload_n hm rfl rfl ?_
  refine x_ishr hm rfl ?_
  refine x_iconst hm rfl (v := nI 1) (by decide) ?_
  refine x_iand hm rfl ?_
  refine x_iconst hm rfl (v := nI 1) (by decide) ?_
  refine x_icmp_ne hm rfl (t := 13) rfl (fun h1 => ?_) (fun h1 => ?_)
  · refine x_iconst hm rfl (v := nI 0) (by decide) ?_
    refine x_iret hm rfl rfl (by first | rfl | exact bI_nar | decide) ?_
    first
      | exact qt (congrArg Value.int (bI_t ((bitR s hs m hm8).mp h1)))
      | exact qt (congrArg Value.int (bI_f fun q => h1 ((bitR s hs m hm8).mpr q)))
  · refine x_iconst hm rfl (v := nI 1) (by decide) ?_
    refine x_goto hm rfl (t := 14) rfl ?_
    refine x_iret hm rfl rfl (by first | rfl | exact bI_nar | decide) ?_
    first
      | exact qt (congrArg Value.int (bI_t ((bitR s hs m hm8).mp h1)))
      | exact qt (congrArg Value.int (bI_f fun q => h1 ((bitR s hs m hm8).mpr q)))
/-- what holds of a set of falling things while it grows -/
def Fs (r : Nat → Int32) (nt t s : Nat) : Prop := s < 256 ∧ s.testBit t = true ∧ ∀ m, s.testBit m = true → m < nt ∧ Rch r t m
def Fcl (r : Nat → Int32) (nt k s : Nat) : Prop := ∀ u, u < k → ∀ w, w < nt → r (14 + 6 * u + 5) = nI w → s.testBit w = true → s.testBit u = true
section FS
variable {r : Nat → Int32} {nt np t s k : Nat}
theorem Fs.one (ht : t < nt) (h8 : nt ≤ 8) : Fs r nt t (2 ^ t) := by
  refine ⟨Nat.pow_lt_pow_right (n := 8) (by decide) (by omega), by rw [Nat.testBit_two_pow_self], fun m hm => ?_⟩
  rw [Nat.testBit_two_pow, decide_eq_true_iff] at hm
  subst hm
  exact ⟨ht, Rch.self⟩
theorem Fs.add {w : Nat} (h : Fs r nt t s) (h8 : nt ≤ 8) (hk : k < nt) (hw : w < nt) (e : r (14 + 6 * k + 5) = nI w) (g : s.testBit w = true) : Fs r nt t (s ||| 2 ^ k) := by
  obtain ⟨h1, h2, h3⟩ := h
  refine ⟨or_lt h1 (by omega), tb_or.mpr (Or.inl h2), fun m hm => ?_⟩
  rcases tb_or.mp hm with a | rfl
  · exact h3 m a
  · exact ⟨hk, Rch.step (by omega) e (h3 w g).2⟩
theorem Fs.done (h : Fs r nt t s) (hV : Vs nt np r) (g : Fcl r nt nt s) : s = wS (Rch r t) nt := by
  obtain ⟨h1, h2, h3⟩ := h
  refine wS_eq fun u => ⟨h3 u, fun hu => ?_⟩
  obtain ⟨hu, hR⟩ := hu
  refine (Rch.ind (P := fun u => u < nt → s.testBit u = true) (fun _ => h2) (fun u w hw e ih hu => ?_) hR) hu
  rcases hV.on hu with e2 | ⟨w2, hw2, e2⟩
  · rw [e] at e2
    exact absurd (show (0 : Int32) ≤ nI w from Int32.not_lt.mp (jI_nn (by omega))) (by rw [e2]; decide)
  · have e3 : w2 = w := jI_inj (by have := hV.1; omega) (by omega) (e2.symm.trans e)
    subst e3
    exact g u hu w2 hw2 e (ih hw2)
theorem Fcl.none (h : Fcl r nt k s) (e : ∀ w, w < nt → ¬ (r (14 + 6 * k + 5) = nI w ∧ s.testBit w = true) ∨ s.testBit k = true) : Fcl r nt (k + 1) s := by
  intro u hu w hw e1 e2
  by_cases hk : u = k
  · subst hk
    exact (e w hw).resolve_left fun z => z ⟨e1, e2⟩
  · exact h u (by omega) w hw e1 e2
end FS
theorem m20b {b nt np t : Nat} {r : Nat → Int32} (hb : b = 1 ∨ b = 18 ∨ b = 35) (hR : Rel b nt np M r) (hV : Vs nt np r) (ht : t < nt) {i : Nat} (hi : i < 8) (hout : ∀ (s : Nat) (g : Int32) (x5 x6 : Option Value), Fs r nt t s → ((g = nI 1 ∧ i + 2 ≤ c8 s) ∨ (g = nI 0 ∧ Fcl r nt nt s)) → mEv X (fun z D => z = some (.int (nI (wS (Rch r t) nt))) ∧ D = con M) 20 9 [some (.ref b), some (.int (nI t)), some (.int (nI s)), some (.int g), some (.int (nI (i + 1))), x5, x6] [] (con M)) : ∀ (n k : Nat) (s : Nat) (g : Int32) (x6 : Option Value), nt - k < n → k ≤ nt → Fs r nt t s → ((g = nI 1 ∧ i + 2 ≤ c8 s) ∨ (g = nI 0 ∧ i + 1 ≤ c8 s ∧ Fcl r nt k s)) → mEv X (fun z D => z = some (.int (nI (wS (Rch r t) nt))) ∧ D = con M) 20 25 [some (.ref b), some (.int (nI t)), some (.int (nI s)), some (.int g), some (.int (nI i)), some (.int (nI k)), x6] [] (con M) := by
  have hm : mMet 20 = some _ := rfl
  intro n
  induction n with
  | zero =>
    intro k s g x6 hkn hkb hF hS
    omega
  | succ n ih =>
    intro k s g x6 hkn hkb hF hS
    have hn8 := hV.1
    have hs8 := hF.1
    refine x_iload hm rfl rfl ?_
    refine x_aload_n hm rfl rfl ?_
    refine x_getf hm rfl (gI (tO hb) rfl) ?_
    rw [hR.1]
    refine x_icmp_ge hm rfl (t := 84) rfl (fun h1 => ?_) (fun h1 => ?_)
    · obtain rfl : k = nt := Nat.le_antisymm hkb ((jI_le (by omega) (by omega)).mp h1)
      refine x_iinc hm rfl rfl (v := nI 1) (by decide) rfl ?_
      rw [jI_add]
      refine x_goto hm rfl (t := 9) rfl ?_
      exact hout _ _ _ _ hF (hS.imp id fun q => ⟨q.1, q.2.2⟩)
    · have hk : k < nt := Nat.lt_of_not_le fun h => h1 (nI_le h (by omega))
      refine x_aload_n hm rfl rfl ?_
      refine x_getf hm rfl (gR (tO hb) rfl) ?_
      refine x_iconst hm rfl (v := nI 5) (by decide) ?_
      refine x_aald hm rfl (by first | exact lQ 3 (Or.inr (Or.inl rfl)) (tI hb) rfl (by omega) (by decide) | exact lQ 3 (Or.inr (Or.inl rfl)) (tF hb) rfl (by omega) (by decide) | exact lQ 3 (Or.inr (Or.inl rfl)) (tI hb) (tIk (by omega)) (by omega) (by decide) | exact lQ 3 (Or.inr (Or.inl rfl)) (tF hb) (tFk (by omega)) (by omega) (by decide)) ?_
      refine x_iload hm rfl rfl ?_
      refine x_iald hm rfl (by first | exact lI (tRow hb (by omega)) (by omega) (by decide) | exact lI (tRowI hb (by omega)) (by omega) (by decide) | exact lI (tRowF hb (by omega)) (by omega) (by decide) | exact lI (tSp hb) (by omega) (by decide) | exact lI rfl (by omega) (by decide)) ?_
      rw [hR.on hk]
      refine x_istore hm rfl rfl ?_
      refine x_iload hm rfl rfl ?_
      refine x_iconst hm rfl (v := (-1 : Int32)) (by decide) ?_
      refine x_icmp_eq hm rfl (t := 78) rfl (fun h2 => ?_) (fun h2 => ?_)
      · have hw0 := h2
        have hcl : ∀ w1, w1 < nt → ¬ (r (14 + 6 * k + 5) = nI w1 ∧ s.testBit w1 = true) ∨ s.testBit k = true := fun w1 hw1 => Or.inl fun z => absurd (hw0.symm.trans z.1) (fun q => absurd (Int32.not_lt.mp (jI_nn (show w1 < 2147483648 by omega))) (by rw [← q]; decide))
        refine x_iinc hm rfl rfl (v := nI 1) (by decide) rfl ?_
        rw [jI_add]
        refine x_goto hm rfl (t := 25) rfl ?_
        first
          | exact ih _ _ _ _ (by omega) (by omega) hF (hS.imp id fun q => ⟨q.1, q.2.1, q.2.2.none hcl⟩)
          | exact ih _ _ _ _ (by omega) (by omega) hF2 (Or.inl ⟨rfl, by rw [hc2]; rcases hS with q | q <;> omega⟩)
      · obtain ⟨w, hw, ew⟩ := (hV.on hk).resolve_left h2
        rw [ew]
        refine x_iload_n hm rfl rfl ?_
        refine x_iload hm rfl rfl ?_
        refine x_callS hm rfl rfl (g21 hs8 (by omega)) ?_
        refine x_if_eq hm rfl (t := 78) rfl (fun h3 => ?_) (fun h3 => ?_)
        · have hcl : ∀ w1, w1 < nt → ¬ (r (14 + 6 * k + 5) = nI w1 ∧ s.testBit w1 = true) ∨ s.testBit k = true := fun w1 hw1 => Or.inl fun z => bI_eq0.mp h3 (by rw [jI_inj (by omega) (by omega) (ew.symm.trans z.1)]; exact z.2)
          refine x_iinc hm rfl rfl (v := nI 1) (by decide) rfl ?_
          rw [jI_add]
          refine x_goto hm rfl (t := 25) rfl ?_
          first
            | exact ih _ _ _ _ (by omega) (by omega) hF (hS.imp id fun q => ⟨q.1, q.2.1, q.2.2.none hcl⟩)
            | exact ih _ _ _ _ (by omega) (by omega) hF2 (Or.inl ⟨rfl, by rw [hc2]; rcases hS with q | q <;> omega⟩)
        · have hin := bI_ne0 h3
          refine x_iload_n hm rfl rfl ?_
          refine x_iload hm rfl rfl ?_
          refine x_callS hm rfl rfl (g21 hs8 (by omega)) ?_
          refine x_if_ne hm rfl (t := 78) rfl (fun h4 => ?_) (fun h4 => ?_)
          · have hcl : ∀ w1, w1 < nt → ¬ (r (14 + 6 * k + 5) = nI w1 ∧ s.testBit w1 = true) ∨ s.testBit k = true := fun w1 hw1 => Or.inr (bI_ne0 h4)
            refine x_iinc hm rfl rfl (v := nI 1) (by decide) rfl ?_
            rw [jI_add]
            refine x_goto hm rfl (t := 25) rfl ?_
            first
              | exact ih _ _ _ _ (by omega) (by omega) hF (hS.imp id fun q => ⟨q.1, q.2.1, q.2.2.none hcl⟩)
              | exact ih _ _ _ _ (by omega) (by omega) hF2 (Or.inl ⟨rfl, by rw [hc2]; rcases hS with q | q <;> omega⟩)
          · have hnk : s.testBit k = false := by
              rcases e : s.testBit k with _ | _
              · rfl
              · exact absurd e (bI_eq0.mp h4)
            have hF2 := hF.add hn8 hk hw ew hin
            have hc2 := c8_or s hs8 k (by omega) hnk
            refine x_iload_n hm rfl rfl ?_
            refine x_iconst hm rfl (v := nI 1) (by decide) ?_
            refine x_iload hm rfl rfl ?_
            refine x_ishl hm rfl ?_
            refine x_ior hm rfl ?_
            rw [bitO s hs8 k (by omega)]
            refine x_istore_n hm rfl rfl ?_
            refine x_iconst hm rfl (v := nI 1) (by decide) ?_
            refine x_istore_n hm rfl rfl ?_
            refine x_iinc hm rfl rfl (v := nI 1) (by decide) rfl ?_
            rw [jI_add]
            refine x_goto hm rfl (t := 25) rfl ?_
            first
              | exact ih _ _ _ _ (by omega) (by omega) hF (hS.imp id fun q => ⟨q.1, q.2.1, q.2.2.none hcl⟩)
              | exact ih _ _ _ _ (by omega) (by omega) hF2 (Or.inl ⟨rfl, by rw [hc2]; rcases hS with q | q <;> omega⟩)
theorem m20a {b nt np t : Nat} {r : Nat → Int32} (hb : b = 1 ∨ b = 18 ∨ b = 35) (hR : Rel b nt np M r) (hV : Vs nt np r) (ht : t < nt) : ∀ (n i : Nat) (s : Nat) (g : Int32) (x5 x6 : Option Value), 8 - i < n → i ≤ 8 → Fs r nt t s → ((g = nI 1 ∧ i + 1 ≤ c8 s) ∨ (g = nI 0 ∧ Fcl r nt nt s)) → mEv X (fun z D => z = some (.int (nI (wS (Rch r t) nt))) ∧ D = con M) 20 9 [some (.ref b), some (.int (nI t)), some (.int (nI s)), some (.int g), some (.int (nI i)), x5, x6] [] (con M) := by
  have hm : mMet 20 = some _ := rfl
  intro n
  induction n with
  | zero =>
    intro i s g x5 x6 hin hi hF hS
    omega
  | succ n ih =>
    intro i s g x5 x6 hin hi hF hS
    refine x_iload hm rfl rfl ?_
    refine x_bipush hm rfl (v := nI 8) (by decide) ?_
    refine x_icmp_ge hm rfl (t := 90) rfl (fun h1 => ?_) (fun h1 => ?_)
    · have h8i := (jI_le (by omega) (by omega)).mp h1
      have hc := hS.resolve_left fun q => by have := c8_le (s := s); omega
      refine x_iload_n hm rfl rfl ?_
      refine x_iret hm rfl rfl (by first | rfl | exact bI_nar | decide) ?_
      rw [hF.done hV hc.2]
      exact ⟨rfl, rfl⟩
    · have hk : i < 8 := Nat.lt_of_not_le fun h => h1 (nI_le h (by omega))
      refine x_iload_n hm rfl rfl ?_
      refine x_if_eq hm rfl (t := 90) rfl (fun h2 => ?_) (fun h2 => ?_)
      · have hc := hS.resolve_left fun q => absurd (q.1.symm.trans h2) (by decide)
        refine x_iload_n hm rfl rfl ?_
        refine x_iret hm rfl rfl (by first | rfl | exact bI_nar | decide) ?_
        rw [hF.done hV hc.2]
        exact ⟨rfl, rfl⟩
      · have hg := hS.resolve_right fun q => h2 q.1
        refine x_iconst hm rfl (v := nI 0) (by decide) ?_
        refine x_istore_n hm rfl rfl ?_
        refine x_iconst hm rfl (v := nI 0) (by decide) ?_
        refine x_istore hm rfl rfl ?_
        exact m20b hb hR hV ht hk (fun s g x5 x6 a c => ih _ _ _ _ _ (by omega) (by omega) a c) _ 0 _ _ _ (Nat.lt_succ_self _) (Nat.zero_le _) hF (Or.inr ⟨rfl, hg.2, fun u hu => absurd hu (Nat.not_lt_zero _)⟩)
theorem g20 {b nt np t : Nat} {r : Nat → Int32} (hb : b = 1 ∨ b = 18 ∨ b = 35) (hR : Rel b nt np M r) (hV : Vs nt np r) (ht : t < nt) : mT X 20 [.ref b, .int (nI t)] (con M) (some (.int (nI (wS (Rch r t) nt)))) (con M) := by
  refine mT.of (row := _) rfl (Nat.le_of_ble_eq_true rfl) ?_
  have hm : mMet 20 = some _ := rfl
  have hn8 := hV.1
  refine x_iconst hm rfl (v := nI 1) (by decide) ?_
  refine x_iload_n hm rfl rfl ?_
  refine x_ishl hm rfl ?_
  rw [shl_k t (by omega)]
  refine x_istore_n hm rfl rfl ?_
  refine x_iconst hm rfl (v := nI 1) (by decide) ?_
  refine x_istore_n hm rfl rfl ?_
  refine x_iconst hm rfl (v := nI 0) (by decide) ?_
  refine x_istore hm rfl rfl ?_
  exact m20a hb hR hV ht _ 0 _ _ _ _ (Nat.lt_succ_self _) (Nat.zero_le _) (Fs.one ht hn8) (Or.inl ⟨rfl, by rw [c8_one t (by omega)]; decide⟩)
abbrev mayF (nt np : Nat) (t a v : Int32) : Prop := if a = 0 then (nI 0 ≤ v ∧ v ≤ nI 3) else if a = nI 1 then (nI 0 ≤ v ∧ v ≤ nI 15) else if a = nI 2 then (nI 0 ≤ v ∧ v ≤ nI 999) else if a = nI 3 then (nI 0 ≤ v ∧ v ≤ nI 9) else if a = nI 4 then (v = -1 ∨ (nI 0 ≤ v ∧ v ≤ nI np - nI 1)) else if a = nI 5 then (v = -1 ∨ ((nI 0 ≤ v ∧ v ≤ nI nt - nI 1) ∧ ¬ v = t)) else False
section MF
variable {nt np : Nat} {t a v : Int32}
theorem mayF_0 (h : a = nI 0) : (nI 0 ≤ v ∧ v ≤ nI 3) ↔ mayF nt np t a v := by
  subst h
  exact (iff_of_eq (if_pos (by decide))).symm
theorem mayF_1 (h : a = nI 1) : (nI 0 ≤ v ∧ v ≤ nI 15) ↔ mayF nt np t a v := by
  subst h
  exact (iff_of_eq ((if_neg (by decide)).trans (if_pos rfl))).symm
theorem mayF_2 (h : a = nI 2) : (nI 0 ≤ v ∧ v ≤ nI 999) ↔ mayF nt np t a v := by
  subst h
  exact (iff_of_eq ((if_neg (by decide)).trans ((if_neg (by decide)).trans (if_pos rfl)))).symm
theorem mayF_3 (h : a = nI 3) : (nI 0 ≤ v ∧ v ≤ nI 9) ↔ mayF nt np t a v := by
  subst h
  exact (iff_of_eq ((if_neg (by decide)).trans ((if_neg (by decide)).trans ((if_neg (by decide)).trans (if_pos rfl))))).symm
theorem mayF_4 (h : a = nI 4) : (v = -1 ∨ (nI 0 ≤ v ∧ v ≤ nI np - nI 1)) ↔ mayF nt np t a v := by
  subst h
  exact (iff_of_eq ((if_neg (by decide)).trans ((if_neg (by decide)).trans ((if_neg (by decide)).trans ((if_neg (by decide)).trans (if_pos rfl)))))).symm
theorem mayF_5 (h : a = nI 5) : (v = -1 ∨ ((nI 0 ≤ v ∧ v ≤ nI nt - nI 1) ∧ ¬ v = t)) ↔ mayF nt np t a v := by
  subst h
  exact (iff_of_eq ((if_neg (by decide)).trans ((if_neg (by decide)).trans ((if_neg (by decide)).trans ((if_neg (by decide)).trans ((if_neg (by decide)).trans (if_pos rfl))))))).symm
theorem mayF_f (h : mayF nt np t a v) : ∃ f, f < 6 ∧ a = nI f := by
  unfold mayF at h
  split at h
  · exact ⟨0, by decide, by assumption⟩
  split at h
  · exact ⟨1, by decide, by assumption⟩
  split at h
  · exact ⟨2, by decide, by assumption⟩
  split at h
  · exact ⟨3, by decide, by assumption⟩
  split at h
  · exact ⟨4, by decide, by assumption⟩
  split at h
  · exact ⟨5, by decide, by assumption⟩
  · exact absurd h id
theorem mayF_e (h : a.toInt < 0 ∨ 5 < a.toInt) : ¬ mayF nt np t a v := by
  intro g
  obtain ⟨f, hf, rfl⟩ := mayF_f g
  rw [jI_int (by omega)] at h
  omega
end MF
abbrev fgC (r : Nat → Int32) (a1 a2 a3 : Int32) : Prop := a2 = nI 5 ∧ ¬ a3 = -1 ∧ Rch r a1.toNatClampNeg a3.toNatClampNeg
noncomputable def fForge (nt np : Nat) (r : Nat → Int32) (a1 a2 a3 : Int32) : Sq4 :=
  if bI (nI 0 ≤ a1 ∧ a1 ≤ nI nt - nI 1) = 0 then (-1000001, nt, np, r) else if bI (mayF nt np a1 a2 a3) = 0 then (-1000001, nt, np, r) else @ite _ (fgC r a1 a2 a3) (Classical.propDecidable _) (-1000005, nt, np, r) (r (14 + 6 * a1.toNatClampNeg + a2.toNatClampNeg), nt, np, put1 r (14 + 6 * a1.toNatClampNeg + a2.toNatClampNeg) a3)
variable {nt np : Nat} {r : Nat → Int32}
theorem g18 {a1 a2 a3 : Int32} (hR : Rel 1 nt np M r) : mT X 18 [.ref 0, .int a1, .int a2, .int a3] (con M) (some (.int (bI (mayF nt np a1 a2 a3)))) (con M) := by
  refine mT.of (row := _) rfl (Nat.le_of_ble_eq_true rfl) ?_
  have hm : mMet 18 = some _ := rfl
  refine x_iload_n hm rfl rfl ?_
  refine x_ts hm rfl (fun h1 => ⟨121, rfl, ?_⟩) (fun i1 h1 g1 => ?_)
  · refine x_iconst hm rfl (v := nI 0) (by decide) ?_
    refine x_iret hm rfl rfl (by first | rfl | exact bI_nar | decide) ?_
    have hv : nI 0 = bI (mayF nt np a1 a2 a3) := bI_f (mayF_e h1)
    exact qt (congrArg Value.int hv)
  · have k1 : i1 = 0 ∨ i1 = 1 ∨ i1 = 2 ∨ i1 = 3 ∨ i1 = 4 ∨ i1 = 5 := by omega
    rcases k1 with rfl | rfl | rfl | rfl | rfl | rfl
    · refine ⟨_, 40, rfl, rfl, ?_⟩
      refine x_iload_n hm rfl rfl ?_
      refine x_iconst hm rfl (v := nI 0) (by decide) ?_
      refine x_iconst hm rfl (v := nI 3) (by decide) ?_
      refine x_callS hm rfl rfl (t6) ?_
      refine x_iret hm rfl rfl (by first | rfl | exact bI_nar | decide) ?_
      exact qt (congrArg Value.int (bIc (mayF_0 (tn h1 (by decide)))))
    · refine ⟨_, 47, rfl, rfl, ?_⟩
      refine x_iload_n hm rfl rfl ?_
      refine x_iconst hm rfl (v := nI 0) (by decide) ?_
      refine x_bipush hm rfl (v := nI 15) (by decide) ?_
      refine x_callS hm rfl rfl (t6) ?_
      refine x_iret hm rfl rfl (by first | rfl | exact bI_nar | decide) ?_
      exact qt (congrArg Value.int (bIc (mayF_1 (tn h1 (by decide)))))
    · refine ⟨_, 55, rfl, rfl, ?_⟩
      refine x_iload_n hm rfl rfl ?_
      refine x_iconst hm rfl (v := nI 0) (by decide) ?_
      refine x_sipush hm rfl (v := nI 999) (by decide) ?_
      refine x_callS hm rfl rfl (t6) ?_
      refine x_iret hm rfl rfl (by first | rfl | exact bI_nar | decide) ?_
      exact qt (congrArg Value.int (bIc (mayF_2 (tn h1 (by decide)))))
    · refine ⟨_, 64, rfl, rfl, ?_⟩
      refine x_iload_n hm rfl rfl ?_
      refine x_iconst hm rfl (v := nI 0) (by decide) ?_
      refine x_bipush hm rfl (v := nI 9) (by decide) ?_
      refine x_callS hm rfl rfl (t6) ?_
      refine x_iret hm rfl rfl (by first | rfl | exact bI_nar | decide) ?_
      exact qt (congrArg Value.int (bIc (mayF_3 (tn h1 (by decide)))))
    · refine ⟨_, 72, rfl, rfl, ?_⟩
      refine x_iload_n hm rfl rfl ?_
      refine x_iconst hm rfl (v := (-1 : Int32)) (by decide) ?_
      refine x_icmp_eq hm rfl (t := 88) rfl (fun h2 => ?_) (fun h2 => ?_)
      · have hv : nI 1 = bI (mayF nt np a1 a2 a3) := bI_t ((mayF_4 (tn h1 (by decide))).mp (Or.inl h2))
        refine x_iconst hm rfl (v := nI 1) (by decide) ?_
        refine x_goto hm rfl (t := 93) rfl ?_
        refine x_iret hm rfl rfl (by first | rfl | exact bI_nar | decide) ?_
        exact qt (congrArg Value.int hv)
      · have n4 := h2
        refine x_aload_n hm rfl rfl ?_
        refine x_getf hm rfl (gR rfl rfl) ?_
        refine x_iload_n hm rfl rfl ?_
        refine x_callV hm rfl rfl (t19 (by decide)) ?_
        rw [hR.2.1]
        refine x_if_eq hm rfl (t := 92) rfl (fun h3 => ?_) (fun h3 => ?_)
        · have hv : nI 0 = bI (mayF nt np a1 a2 a3) := bI_f fun q => ((mayF_4 (tn h1 (by decide))).mpr q).elim n4 (bI_eq0.mp h3)
          refine x_iconst hm rfl (v := nI 0) (by decide) ?_
          refine x_iret hm rfl rfl (by first | rfl | exact bI_nar | decide) ?_
          exact qt (congrArg Value.int hv)
        · have hv : nI 1 = bI (mayF nt np a1 a2 a3) := bI_t ((mayF_4 (tn h1 (by decide))).mp (Or.inr (bI_ne0 h3)))
          refine x_iconst hm rfl (v := nI 1) (by decide) ?_
          refine x_goto hm rfl (t := 93) rfl ?_
          refine x_iret hm rfl rfl (by first | rfl | exact bI_nar | decide) ?_
          exact qt (congrArg Value.int hv)
    · refine ⟨_, 94, rfl, rfl, ?_⟩
      refine x_iload_n hm rfl rfl ?_
      refine x_iconst hm rfl (v := (-1 : Int32)) (by decide) ?_
      refine x_icmp_eq hm rfl (t := 115) rfl (fun h4 => ?_) (fun h4 => ?_)
      · have hv : nI 1 = bI (mayF nt np a1 a2 a3) := bI_t ((mayF_5 (tn h1 (by decide))).mp (Or.inl h4))
        refine x_iconst hm rfl (v := nI 1) (by decide) ?_
        refine x_goto hm rfl (t := 120) rfl ?_
        refine x_iret hm rfl rfl (by first | rfl | exact bI_nar | decide) ?_
        exact qt (congrArg Value.int hv)
      · have n5 := h4
        refine x_aload_n hm rfl rfl ?_
        refine x_getf hm rfl (gR rfl rfl) ?_
        refine x_iload_n hm rfl rfl ?_
        refine x_callV hm rfl rfl (t10 (by decide)) ?_
        rw [hR.1]
        refine x_if_eq hm rfl (t := 119) rfl (fun h5 => ?_) (fun h5 => ?_)
        · have hv : nI 0 = bI (mayF nt np a1 a2 a3) := bI_f fun q => ((mayF_5 (tn h1 (by decide))).mpr q).elim n5 (fun z => bI_eq0.mp h5 z.1)
          refine x_iconst hm rfl (v := nI 0) (by decide) ?_
          refine x_iret hm rfl rfl (by first | rfl | exact bI_nar | decide) ?_
          exact qt (congrArg Value.int hv)
        · have y5 := bI_ne0 h5
          refine x_iload_n hm rfl rfl ?_
          refine x_iload_n hm rfl rfl ?_
          refine x_icmp_eq hm rfl (t := 119) rfl (fun h6 => ?_) (fun h6 => ?_)
          · have hv : nI 0 = bI (mayF nt np a1 a2 a3) := bI_f fun q => ((mayF_5 (tn h1 (by decide))).mpr q).elim n5 (fun z => z.2 h6)
            refine x_iconst hm rfl (v := nI 0) (by decide) ?_
            refine x_iret hm rfl rfl (by first | rfl | exact bI_nar | decide) ?_
            exact qt (congrArg Value.int hv)
          · have hv : nI 1 = bI (mayF nt np a1 a2 a3) := bI_t ((mayF_5 (tn h1 (by decide))).mp (Or.inr ⟨y5, h6⟩))
            refine x_iconst hm rfl (v := nI 1) (by decide) ?_
            refine x_goto hm rfl (t := 120) rfl ?_
            refine x_iret hm rfl rfl (by first | rfl | exact bI_nar | decide) ?_
            exact qt (congrArg Value.int hv)
theorem g150 {a1 a2 a3 : Int32} (hnt : M 67 1 = nI nt) (hnp : M 67 2 = nI np) : mT X 150 [.ref 66, .int a1, .int a2, .int a3] (con M) (some (.int (bI (mayF nt np a1 a2 a3)))) (con M) := by
  refine mT.of (row := _) rfl (Nat.le_of_ble_eq_true rfl) ?_
  have hm : mMet 150 = some _ := rfl
  refine x_iload_n hm rfl rfl ?_
  refine x_ts hm rfl (fun h1 => ⟨105, rfl, ?_⟩) (fun i1 h1 g1 => ?_)
  · refine x_iconst hm rfl (v := nI 0) (by decide) ?_
    refine x_iret hm rfl rfl (by first | rfl | exact bI_nar | decide) ?_
    have hv : nI 0 = bI (mayF nt np a1 a2 a3) := bI_f (mayF_e h1)
    exact qt (congrArg Value.int hv)
  · have k1 : i1 = 0 ∨ i1 = 1 ∨ i1 = 2 ∨ i1 = 3 ∨ i1 = 4 ∨ i1 = 5 := by omega
    rcases k1 with rfl | rfl | rfl | rfl | rfl | rfl
    · refine ⟨_, 40, rfl, rfl, ?_⟩
      refine x_iload_n hm rfl rfl ?_
      refine x_iconst hm rfl (v := nI 0) (by decide) ?_
      refine x_iconst hm rfl (v := nI 3) (by decide) ?_
      refine x_callS hm rfl rfl (t133) ?_
      refine x_iret hm rfl rfl (by first | rfl | exact bI_nar | decide) ?_
      exact qt (congrArg Value.int (bIc (mayF_0 (tn h1 (by decide)))))
    · refine ⟨_, 47, rfl, rfl, ?_⟩
      refine x_iload_n hm rfl rfl ?_
      refine x_callS hm rfl rfl (t134) ?_
      refine x_iret hm rfl rfl (by first | rfl | exact bI_nar | decide) ?_
      exact qt (congrArg Value.int (bIc (mayF_1 (tn h1 (by decide)))))
    · refine ⟨_, 52, rfl, rfl, ?_⟩
      refine x_iload_n hm rfl rfl ?_
      refine x_callS hm rfl rfl (t151) ?_
      refine x_iret hm rfl rfl (by first | rfl | exact bI_nar | decide) ?_
      exact qt (congrArg Value.int (bIc (mayF_2 (tn h1 (by decide)))))
    · refine ⟨_, 57, rfl, rfl, ?_⟩
      refine x_iload_n hm rfl rfl ?_
      refine x_callS hm rfl rfl (t152) ?_
      refine x_iret hm rfl rfl (by first | rfl | exact bI_nar | decide) ?_
      exact qt (congrArg Value.int (bIc (mayF_3 (tn h1 (by decide)))))
    · refine ⟨_, 62, rfl, rfl, ?_⟩
      refine x_iload_n hm rfl rfl ?_
      refine x_iconst hm rfl (v := (-1 : Int32)) (by decide) ?_
      refine x_icmp_eq hm rfl (t := 75) rfl (fun h2 => ?_) (fun h2 => ?_)
      · have hv : nI 1 = bI (mayF nt np a1 a2 a3) := bI_t ((mayF_4 (tn h1 (by decide))).mp (Or.inl h2))
        refine x_iconst hm rfl (v := nI 1) (by decide) ?_
        refine x_goto hm rfl (t := 80) rfl ?_
        refine x_iret hm rfl rfl (by first | rfl | exact bI_nar | decide) ?_
        exact qt (congrArg Value.int hv)
      · have n4 := h2
        refine x_aload_n hm rfl rfl ?_
        refine x_iload_n hm rfl rfl ?_
        refine x_callV hm rfl rfl (t153) ?_
        rw [hnp]
        refine x_if_eq hm rfl (t := 79) rfl (fun h3 => ?_) (fun h3 => ?_)
        · have hv : nI 0 = bI (mayF nt np a1 a2 a3) := bI_f fun q => ((mayF_4 (tn h1 (by decide))).mpr q).elim n4 (bI_eq0.mp h3)
          refine x_iconst hm rfl (v := nI 0) (by decide) ?_
          refine x_iret hm rfl rfl (by first | rfl | exact bI_nar | decide) ?_
          exact qt (congrArg Value.int hv)
        · have hv : nI 1 = bI (mayF nt np a1 a2 a3) := bI_t ((mayF_4 (tn h1 (by decide))).mp (Or.inr (bI_ne0 h3)))
          refine x_iconst hm rfl (v := nI 1) (by decide) ?_
          refine x_goto hm rfl (t := 80) rfl ?_
          refine x_iret hm rfl rfl (by first | rfl | exact bI_nar | decide) ?_
          exact qt (congrArg Value.int hv)
    · refine ⟨_, 81, rfl, rfl, ?_⟩
      refine x_iload_n hm rfl rfl ?_
      refine x_iconst hm rfl (v := (-1 : Int32)) (by decide) ?_
      refine x_icmp_eq hm rfl (t := 99) rfl (fun h4 => ?_) (fun h4 => ?_)
      · have hv : nI 1 = bI (mayF nt np a1 a2 a3) := bI_t ((mayF_5 (tn h1 (by decide))).mp (Or.inl h4))
        refine x_iconst hm rfl (v := nI 1) (by decide) ?_
        refine x_goto hm rfl (t := 104) rfl ?_
        refine x_iret hm rfl rfl (by first | rfl | exact bI_nar | decide) ?_
        exact qt (congrArg Value.int hv)
      · have n5 := h4
        refine x_aload_n hm rfl rfl ?_
        refine x_iload_n hm rfl rfl ?_
        refine x_callV hm rfl rfl (t139) ?_
        rw [hnt]
        refine x_if_eq hm rfl (t := 103) rfl (fun h5 => ?_) (fun h5 => ?_)
        · have hv : nI 0 = bI (mayF nt np a1 a2 a3) := bI_f fun q => ((mayF_5 (tn h1 (by decide))).mpr q).elim n5 (fun z => bI_eq0.mp h5 z.1)
          refine x_iconst hm rfl (v := nI 0) (by decide) ?_
          refine x_iret hm rfl rfl (by first | rfl | exact bI_nar | decide) ?_
          exact qt (congrArg Value.int hv)
        · have y5 := bI_ne0 h5
          refine x_iload_n hm rfl rfl ?_
          refine x_iload_n hm rfl rfl ?_
          refine x_icmp_eq hm rfl (t := 103) rfl (fun h6 => ?_) (fun h6 => ?_)
          · have hv : nI 0 = bI (mayF nt np a1 a2 a3) := bI_f fun q => ((mayF_5 (tn h1 (by decide))).mpr q).elim n5 (fun z => z.2 h6)
            refine x_iconst hm rfl (v := nI 0) (by decide) ?_
            refine x_iret hm rfl rfl (by first | rfl | exact bI_nar | decide) ?_
            exact qt (congrArg Value.int hv)
          · have hv : nI 1 = bI (mayF nt np a1 a2 a3) := bI_t ((mayF_5 (tn h1 (by decide))).mp (Or.inr ⟨y5, h6⟩))
            refine x_iconst hm rfl (v := nI 1) (by decide) ?_
            refine x_goto hm rfl (t := 104) rfl ?_
            refine x_iret hm rfl rfl (by first | rfl | exact bI_nar | decide) ?_
            exact qt (congrArg Value.int hv)
theorem g17 {a1 a2 a3 : Int32} (hR : Rel 1 nt np M r) (hn8 : nt ≤ 8) (hp8 : np ≤ 8) (hV : Vs nt np r) : ∃ v M', mT X 17 [.ref 0, .int a1, .int a2, .int a3] (con M) (some (.int v)) (con M') ∧ Tq (fForge nt np r a1 a2 a3) v M M' := by
  refine ti_of (row := _) rfl (Nat.le_of_ble_eq_true rfl) ?_
  have hm : mMet 17 = some _ := rfl
  refine x_aload_n hm rfl rfl ?_
  refine x_getf hm rfl (gR rfl rfl) ?_
  refine x_iload_n hm rfl rfl ?_
  refine x_callV hm rfl rfl (t10 (by decide)) ?_
  rw [hR.1]
  refine x_if_eq hm rfl (t := 21) rfl (fun h1 => ?_) (fun h1 => ?_)
  · refine x_aload_n hm rfl rfl ?_
    refine x_ldcI hm rfl (v := (-1000001 : Int32)) (by decide +kernel) ?_
    refine x_cVi hm rfl rfl (t7 (by decide +kernel)) (fun v2 M2 r2 => ?_)
    refine x_iret hm rfl rfl (by first | rfl | exact bI_nar | decide) ?_
    first
      | (have hq : fForge nt np r a1 a2 a3 = (-1000001, nt, np, r) := by
           unfold fForge
           rw [if_pos (by assumption)]
         exact ⟨_, _, rfl, rfl, by rw [hq]; exact ⟨r2.1, hR.bq r2.2⟩⟩)
      | (have hq : fForge nt np r (nI t) a2 a3 = (-1000001, nt, np, r) := by
           unfold fForge
           rw [if_neg (by assumption), if_pos (by assumption)]
         exact ⟨_, _, rfl, rfl, by rw [hq]; exact ⟨r2.1, hR.bq r2.2⟩⟩)
      | (have hq : fForge nt np r a1 a2 a3 = (-1000001, nt, np, r) := by
           unfold fForge
           rw [if_pos (by assumption)]
         exact ⟨_, _, rfl, rfl, by rw [hq]; exact ⟨r1.1, hR.bq r1.2⟩⟩)
      | (have hq : fForge nt np r a1 a2 a3 = (-1000001, nt, np, r) := by
           unfold fForge
           rw [if_pos (by assumption)]
         exact ⟨_, _, rfl, rfl, by rw [hq]; exact ⟨r3.1, hR.bq r3.2⟩⟩)
      | (have hq : fForge nt np r a1 a2 a3 = (-1000001, nt, np, r) := by
           unfold fForge
           rw [if_pos (by assumption)]
         exact ⟨_, _, rfl, rfl, by rw [hq]; exact ⟨r4.1, hR.bq r4.2⟩⟩)
      | (have hq : fForge nt np r a1 a2 a3 = (-1000001, nt, np, r) := by
           unfold fForge
           rw [if_pos (by assumption)]
         exact ⟨_, _, rfl, rfl, by rw [hq]; exact ⟨r5.1, hR.bq r5.2⟩⟩)
      | (have hq : fForge nt np r a1 a2 a3 = (-1000001, nt, np, r) := by
           unfold fForge
           rw [if_pos (by assumption)]
         exact ⟨_, _, rfl, rfl, by rw [hq]; exact ⟨r6.1, hR.bq r6.2⟩⟩)
      | (have hq : fForge nt np r a1 a2 a3 = (-1000001, nt, np, r) := by
           unfold fForge
           rw [if_pos (by assumption)]
         exact ⟨_, _, rfl, rfl, by rw [hq]; exact ⟨r7.1, hR.bq r7.2⟩⟩)
      | (have hq : fForge nt np r a1 a2 a3 = (-1000001, nt, np, r) := by
           unfold fForge
           rw [if_pos (by assumption)]
         exact ⟨_, _, rfl, rfl, by rw [hq]; exact ⟨r8.1, hR.bq r8.2⟩⟩)
      | (have hq : fForge nt np r (nI t) a2 a3 = (-1000001, nt, np, r) := by
           unfold fForge
           rw [if_neg (by assumption), if_pos (by assumption)]
         exact ⟨_, _, rfl, rfl, by rw [hq]; exact ⟨r1.1, hR.bq r1.2⟩⟩)
      | (have hq : fForge nt np r (nI t) a2 a3 = (-1000001, nt, np, r) := by
           unfold fForge
           rw [if_neg (by assumption), if_pos (by assumption)]
         exact ⟨_, _, rfl, rfl, by rw [hq]; exact ⟨r3.1, hR.bq r3.2⟩⟩)
      | (have hq : fForge nt np r (nI t) a2 a3 = (-1000001, nt, np, r) := by
           unfold fForge
           rw [if_neg (by assumption), if_pos (by assumption)]
         exact ⟨_, _, rfl, rfl, by rw [hq]; exact ⟨r4.1, hR.bq r4.2⟩⟩)
      | (have hq : fForge nt np r (nI t) a2 a3 = (-1000001, nt, np, r) := by
           unfold fForge
           rw [if_neg (by assumption), if_pos (by assumption)]
         exact ⟨_, _, rfl, rfl, by rw [hq]; exact ⟨r5.1, hR.bq r5.2⟩⟩)
      | (have hq : fForge nt np r (nI t) a2 a3 = (-1000001, nt, np, r) := by
           unfold fForge
           rw [if_neg (by assumption), if_pos (by assumption)]
         exact ⟨_, _, rfl, rfl, by rw [hq]; exact ⟨r6.1, hR.bq r6.2⟩⟩)
      | (have hq : fForge nt np r (nI t) a2 a3 = (-1000001, nt, np, r) := by
           unfold fForge
           rw [if_neg (by assumption), if_pos (by assumption)]
         exact ⟨_, _, rfl, rfl, by rw [hq]; exact ⟨r7.1, hR.bq r7.2⟩⟩)
      | (have hq : fForge nt np r (nI t) a2 a3 = (-1000001, nt, np, r) := by
           unfold fForge
           rw [if_neg (by assumption), if_pos (by assumption)]
         exact ⟨_, _, rfl, rfl, by rw [hq]; exact ⟨r8.1, hR.bq r8.2⟩⟩)
  · obtain ⟨t, ht, rfl⟩ := in_k rfl (by omega) (bI_ne0 h1)
    refine x_aload_n hm rfl rfl ?_
    refine x_iload_n hm rfl rfl ?_
    refine x_iload_n hm rfl rfl ?_
    refine x_iload_n hm rfl rfl ?_
    refine x_callV hm rfl rfl (g18 hR) ?_
    refine x_if_ne hm rfl (t := 28) rfl (fun h3 => ?_) (fun h3 => ?_)
    · have hmf := bI_ne0 h3
      have hz : bI (mayF nt np (nI t) a2 a3) ≠ 0 := h3
      obtain ⟨f, hf, rfl⟩ := mayF_f hmf
      refine x_iload_n hm rfl rfl ?_
      refine x_iconst hm rfl (v := nI 5) (by decide) ?_
      refine x_icmp_ne hm rfl (t := 60) rfl (fun h4 => ?_) (fun h4 => ?_)
      · have hnc : ¬ fgC r (nI t) (nI f) a3 := fun z => h4 z.1
        refine x_aload_n hm rfl rfl ?_
        refine x_getf hm rfl (gR rfl rfl) ?_
        refine x_getf hm rfl (gR rfl rfl) ?_
        refine x_iload_n hm rfl rfl ?_
        refine x_aald hm rfl (lQ 3 (Or.inr (Or.inl rfl)) (tI (b := 1) (by decide)) (tIk (by omega)) (by omega) (by decide)) ?_
        refine x_iload_n hm rfl rfl ?_
        refine x_iald hm rfl (lI (tRowI (b := 1) (by decide) (by omega)) (by omega) (by decide)) ?_
        refine x_istore hm rfl rfl ?_
        refine x_aload_n hm rfl rfl ?_
        refine x_getf hm rfl (gR rfl rfl) ?_
        refine x_getf hm rfl (gR rfl rfl) ?_
        refine x_iload_n hm rfl rfl ?_
        refine x_aald hm rfl (lQ 3 (Or.inr (Or.inl rfl)) (tI (b := 1) (by decide)) (tIk (by omega)) (by omega) (by decide)) ?_
        refine x_iload_n hm rfl rfl ?_
        refine x_iload_n hm rfl rfl ?_
        refine x_iast hm rfl (sI (tRowI (b := 1) (by decide) (by omega)) (by omega) (by decide)) ?_
        refine x_iload hm rfl rfl ?_
        refine x_iret hm rfl rfl (by first | rfl | exact bI_nar | decide) ?_
        first
          | (have hq : fForge nt np r (nI t) (nI f) a3 = (r (14 + 6 * t + f), nt, np, put1 r (14 + 6 * t + f) a3) := by
               unfold fForge
               rw [if_neg (by assumption), if_neg (by assumption), if_neg hnc]
               rw [jI_nat (k := t) (by omega)]
               rw [jI_nat (k := f) (by omega)]
             exact ⟨_, _, rfl, rfl, by rw [hq]; exact ⟨hR.iron hf ht, (hR.pi hn8 hf ht).tm (mpn (by omega)) (fun a ha => mpo (by omega))⟩⟩)
          | (have hq : fForge nt np r (nI t) (nI 5) a3 = (r (14 + 6 * t + 5), nt, np, put1 r (14 + 6 * t + 5) a3) := by
               unfold fForge
               rw [if_neg (by assumption), if_neg (by assumption), if_neg hnc]
               rw [jI_nat (k := t) (by omega)]
               rw [jI_nat (k := 5) (by omega)]
             exact ⟨_, _, rfl, rfl, by rw [hq]; exact ⟨hR.iron hf ht, (hR.pi hn8 hf ht).tm (mpn (by omega)) (fun a ha => mpo (by omega))⟩⟩)
          | (have hq : fForge nt np r (nI t) (nI 5) (nI w) = (r (14 + 6 * t + 5), nt, np, put1 r (14 + 6 * t + 5) (nI w)) := by
               unfold fForge
               rw [if_neg (by assumption), if_neg (by assumption), if_neg hnc]
               rw [jI_nat (k := t) (by omega)]
               rw [jI_nat (k := 5) (by omega)]
             exact ⟨_, _, rfl, rfl, by rw [hq]; exact ⟨hR.iron hf ht, (hR.pi hn8 hf ht).tm (mpn (by omega)) (fun a ha => mpo (by omega))⟩⟩)
      · obtain rfl : f = 5 := jI_inj (by omega) (by decide) h4
        refine x_iload_n hm rfl rfl ?_
        refine x_iconst hm rfl (v := (-1 : Int32)) (by decide) ?_
        refine x_icmp_eq hm rfl (t := 60) rfl (fun h5 => ?_) (fun h5 => ?_)
        · have hnc : ¬ fgC r (nI t) (nI 5) a3 := fun z => z.2.1 h5
          refine x_aload_n hm rfl rfl ?_
          refine x_getf hm rfl (gR rfl rfl) ?_
          refine x_getf hm rfl (gR rfl rfl) ?_
          refine x_iload_n hm rfl rfl ?_
          refine x_aald hm rfl (lQ 3 (Or.inr (Or.inl rfl)) (tI (b := 1) (by decide)) (tIk (by omega)) (by omega) (by decide)) ?_
          refine x_iload_n hm rfl rfl ?_
          refine x_iald hm rfl (lI (tRowI (b := 1) (by decide) (by omega)) (by omega) (by decide)) ?_
          refine x_istore hm rfl rfl ?_
          refine x_aload_n hm rfl rfl ?_
          refine x_getf hm rfl (gR rfl rfl) ?_
          refine x_getf hm rfl (gR rfl rfl) ?_
          refine x_iload_n hm rfl rfl ?_
          refine x_aald hm rfl (lQ 3 (Or.inr (Or.inl rfl)) (tI (b := 1) (by decide)) (tIk (by omega)) (by omega) (by decide)) ?_
          refine x_iload_n hm rfl rfl ?_
          refine x_iload_n hm rfl rfl ?_
          refine x_iast hm rfl (sI (tRowI (b := 1) (by decide) (by omega)) (by omega) (by decide)) ?_
          refine x_iload hm rfl rfl ?_
          refine x_iret hm rfl rfl (by first | rfl | exact bI_nar | decide) ?_
          first
            | (have hq : fForge nt np r (nI t) (nI f) a3 = (r (14 + 6 * t + f), nt, np, put1 r (14 + 6 * t + f) a3) := by
                 unfold fForge
                 rw [if_neg (by assumption), if_neg (by assumption), if_neg hnc]
                 rw [jI_nat (k := t) (by omega)]
                 rw [jI_nat (k := f) (by omega)]
               exact ⟨_, _, rfl, rfl, by rw [hq]; exact ⟨hR.iron hf ht, (hR.pi hn8 hf ht).tm (mpn (by omega)) (fun a ha => mpo (by omega))⟩⟩)
            | (have hq : fForge nt np r (nI t) (nI 5) a3 = (r (14 + 6 * t + 5), nt, np, put1 r (14 + 6 * t + 5) a3) := by
                 unfold fForge
                 rw [if_neg (by assumption), if_neg (by assumption), if_neg hnc]
                 rw [jI_nat (k := t) (by omega)]
                 rw [jI_nat (k := 5) (by omega)]
               exact ⟨_, _, rfl, rfl, by rw [hq]; exact ⟨hR.iron hf ht, (hR.pi hn8 hf ht).tm (mpn (by omega)) (fun a ha => mpo (by omega))⟩⟩)
            | (have hq : fForge nt np r (nI t) (nI 5) (nI w) = (r (14 + 6 * t + 5), nt, np, put1 r (14 + 6 * t + 5) (nI w)) := by
                 unfold fForge
                 rw [if_neg (by assumption), if_neg (by assumption), if_neg hnc]
                 rw [jI_nat (k := t) (by omega)]
                 rw [jI_nat (k := 5) (by omega)]
               exact ⟨_, _, rfl, rfl, by rw [hq]; exact ⟨hR.iron hf ht, (hR.pi hn8 hf ht).tm (mpn (by omega)) (fun a ha => mpo (by omega))⟩⟩)
        · have hv5 := ((mayF_5 rfl).mpr hmf).resolve_left h5
          obtain ⟨w, hw, rfl⟩ := in_k rfl (by omega) hv5.1
          refine x_aload_n hm rfl rfl ?_
          refine x_getf hm rfl (gR rfl rfl) ?_
          refine x_iload_n hm rfl rfl ?_
          refine x_callV hm rfl rfl (g20 (by decide) hR hV ht) ?_
          refine x_iload_n hm rfl rfl ?_
          refine x_callS hm rfl rfl (g21 (wS_lt hn8) (by omega)) ?_
          refine x_if_eq hm rfl (t := 60) rfl (fun h6 => ?_) (fun h6 => ?_)
          · have hnc : ¬ fgC r (nI t) (nI 5) (nI w) := fun z => by
              have z3 := z.2.2
              rw [jI_nat (by omega), jI_nat (by omega)] at z3
              exact bI_eq0.mp h6 (wS_tb.mpr ⟨hw, z3⟩)
            refine x_aload_n hm rfl rfl ?_
            refine x_getf hm rfl (gR rfl rfl) ?_
            refine x_getf hm rfl (gR rfl rfl) ?_
            refine x_iload_n hm rfl rfl ?_
            refine x_aald hm rfl (lQ 3 (Or.inr (Or.inl rfl)) (tI (b := 1) (by decide)) (tIk (by omega)) (by omega) (by decide)) ?_
            refine x_iload_n hm rfl rfl ?_
            refine x_iald hm rfl (lI (tRowI (b := 1) (by decide) (by omega)) (by omega) (by decide)) ?_
            refine x_istore hm rfl rfl ?_
            refine x_aload_n hm rfl rfl ?_
            refine x_getf hm rfl (gR rfl rfl) ?_
            refine x_getf hm rfl (gR rfl rfl) ?_
            refine x_iload_n hm rfl rfl ?_
            refine x_aald hm rfl (lQ 3 (Or.inr (Or.inl rfl)) (tI (b := 1) (by decide)) (tIk (by omega)) (by omega) (by decide)) ?_
            refine x_iload_n hm rfl rfl ?_
            refine x_iload_n hm rfl rfl ?_
            refine x_iast hm rfl (sI (tRowI (b := 1) (by decide) (by omega)) (by omega) (by decide)) ?_
            refine x_iload hm rfl rfl ?_
            refine x_iret hm rfl rfl (by first | rfl | exact bI_nar | decide) ?_
            first
              | (have hq : fForge nt np r (nI t) (nI f) a3 = (r (14 + 6 * t + f), nt, np, put1 r (14 + 6 * t + f) a3) := by
                   unfold fForge
                   rw [if_neg (by assumption), if_neg (by assumption), if_neg hnc]
                   rw [jI_nat (k := t) (by omega)]
                   rw [jI_nat (k := f) (by omega)]
                 exact ⟨_, _, rfl, rfl, by rw [hq]; exact ⟨hR.iron hf ht, (hR.pi hn8 hf ht).tm (mpn (by omega)) (fun a ha => mpo (by omega))⟩⟩)
              | (have hq : fForge nt np r (nI t) (nI 5) a3 = (r (14 + 6 * t + 5), nt, np, put1 r (14 + 6 * t + 5) a3) := by
                   unfold fForge
                   rw [if_neg (by assumption), if_neg (by assumption), if_neg hnc]
                   rw [jI_nat (k := t) (by omega)]
                   rw [jI_nat (k := 5) (by omega)]
                 exact ⟨_, _, rfl, rfl, by rw [hq]; exact ⟨hR.iron hf ht, (hR.pi hn8 hf ht).tm (mpn (by omega)) (fun a ha => mpo (by omega))⟩⟩)
              | (have hq : fForge nt np r (nI t) (nI 5) (nI w) = (r (14 + 6 * t + 5), nt, np, put1 r (14 + 6 * t + 5) (nI w)) := by
                   unfold fForge
                   rw [if_neg (by assumption), if_neg (by assumption), if_neg hnc]
                   rw [jI_nat (k := t) (by omega)]
                   rw [jI_nat (k := 5) (by omega)]
                 exact ⟨_, _, rfl, rfl, by rw [hq]; exact ⟨hR.iron hf ht, (hR.pi hn8 hf ht).tm (mpn (by omega)) (fun a ha => mpo (by omega))⟩⟩)
          · have hcy : fgC r (nI t) (nI 5) (nI w) := ⟨rfl, fun q => absurd (Int32.not_lt.mp (jI_nn (show w < 2147483648 by omega))) (by rw [q]; decide), by rw [jI_nat (by omega), jI_nat (by omega)]; exact (wS_tb.mp (bI_ne0 h6)).2⟩
            refine x_aload_n hm rfl rfl ?_
            refine x_ldcI hm rfl (v := (-1000005 : Int32)) (by decide +kernel) ?_
            refine x_cVi hm rfl rfl (t7 (by decide +kernel)) (fun v7 M7 r7 => ?_)
            refine x_iret hm rfl rfl (by first | rfl | exact bI_nar | decide) ?_
            have hq : fForge nt np r (nI t) (nI 5) (nI w) = (-1000005, nt, np, r) := by
              unfold fForge
              rw [if_neg (by assumption), if_neg (by assumption), if_pos hcy]
            exact ⟨_, _, rfl, rfl, by rw [hq]; exact ⟨r7.1, hR.bq r7.2⟩⟩
    · refine x_aload_n hm rfl rfl ?_
      refine x_ldcI hm rfl (v := (-1000001 : Int32)) (by decide +kernel) ?_
      refine x_cVi hm rfl rfl (t7 (by decide +kernel)) (fun v8 M8 r8 => ?_)
      refine x_iret hm rfl rfl (by first | rfl | exact bI_nar | decide) ?_
      first
        | (have hq : fForge nt np r a1 a2 a3 = (-1000001, nt, np, r) := by
             unfold fForge
             rw [if_pos (by assumption)]
           exact ⟨_, _, rfl, rfl, by rw [hq]; exact ⟨r8.1, hR.bq r8.2⟩⟩)
        | (have hq : fForge nt np r (nI t) a2 a3 = (-1000001, nt, np, r) := by
             unfold fForge
             rw [if_neg (by assumption), if_pos (by assumption)]
           exact ⟨_, _, rfl, rfl, by rw [hq]; exact ⟨r8.1, hR.bq r8.2⟩⟩)
        | (have hq : fForge nt np r a1 a2 a3 = (-1000001, nt, np, r) := by
             unfold fForge
             rw [if_pos (by assumption)]
           exact ⟨_, _, rfl, rfl, by rw [hq]; exact ⟨r1.1, hR.bq r1.2⟩⟩)
        | (have hq : fForge nt np r a1 a2 a3 = (-1000001, nt, np, r) := by
             unfold fForge
             rw [if_pos (by assumption)]
           exact ⟨_, _, rfl, rfl, by rw [hq]; exact ⟨r2.1, hR.bq r2.2⟩⟩)
        | (have hq : fForge nt np r a1 a2 a3 = (-1000001, nt, np, r) := by
             unfold fForge
             rw [if_pos (by assumption)]
           exact ⟨_, _, rfl, rfl, by rw [hq]; exact ⟨r3.1, hR.bq r3.2⟩⟩)
        | (have hq : fForge nt np r a1 a2 a3 = (-1000001, nt, np, r) := by
             unfold fForge
             rw [if_pos (by assumption)]
           exact ⟨_, _, rfl, rfl, by rw [hq]; exact ⟨r4.1, hR.bq r4.2⟩⟩)
        | (have hq : fForge nt np r a1 a2 a3 = (-1000001, nt, np, r) := by
             unfold fForge
             rw [if_pos (by assumption)]
           exact ⟨_, _, rfl, rfl, by rw [hq]; exact ⟨r5.1, hR.bq r5.2⟩⟩)
        | (have hq : fForge nt np r a1 a2 a3 = (-1000001, nt, np, r) := by
             unfold fForge
             rw [if_pos (by assumption)]
           exact ⟨_, _, rfl, rfl, by rw [hq]; exact ⟨r6.1, hR.bq r6.2⟩⟩)
        | (have hq : fForge nt np r a1 a2 a3 = (-1000001, nt, np, r) := by
             unfold fForge
             rw [if_pos (by assumption)]
           exact ⟨_, _, rfl, rfl, by rw [hq]; exact ⟨r7.1, hR.bq r7.2⟩⟩)
        | (have hq : fForge nt np r (nI t) a2 a3 = (-1000001, nt, np, r) := by
             unfold fForge
             rw [if_neg (by assumption), if_pos (by assumption)]
           exact ⟨_, _, rfl, rfl, by rw [hq]; exact ⟨r1.1, hR.bq r1.2⟩⟩)
        | (have hq : fForge nt np r (nI t) a2 a3 = (-1000001, nt, np, r) := by
             unfold fForge
             rw [if_neg (by assumption), if_pos (by assumption)]
           exact ⟨_, _, rfl, rfl, by rw [hq]; exact ⟨r2.1, hR.bq r2.2⟩⟩)
        | (have hq : fForge nt np r (nI t) a2 a3 = (-1000001, nt, np, r) := by
             unfold fForge
             rw [if_neg (by assumption), if_pos (by assumption)]
           exact ⟨_, _, rfl, rfl, by rw [hq]; exact ⟨r3.1, hR.bq r3.2⟩⟩)
        | (have hq : fForge nt np r (nI t) a2 a3 = (-1000001, nt, np, r) := by
             unfold fForge
             rw [if_neg (by assumption), if_pos (by assumption)]
           exact ⟨_, _, rfl, rfl, by rw [hq]; exact ⟨r4.1, hR.bq r4.2⟩⟩)
        | (have hq : fForge nt np r (nI t) a2 a3 = (-1000001, nt, np, r) := by
             unfold fForge
             rw [if_neg (by assumption), if_pos (by assumption)]
           exact ⟨_, _, rfl, rfl, by rw [hq]; exact ⟨r5.1, hR.bq r5.2⟩⟩)
        | (have hq : fForge nt np r (nI t) a2 a3 = (-1000001, nt, np, r) := by
             unfold fForge
             rw [if_neg (by assumption), if_pos (by assumption)]
           exact ⟨_, _, rfl, rfl, by rw [hq]; exact ⟨r6.1, hR.bq r6.2⟩⟩)
        | (have hq : fForge nt np r (nI t) a2 a3 = (-1000001, nt, np, r) := by
             unfold fForge
             rw [if_neg (by assumption), if_pos (by assumption)]
           exact ⟨_, _, rfl, rfl, by rw [hq]; exact ⟨r7.1, hR.bq r7.2⟩⟩)
theorem g149 {a1 a2 a3 : Int32} (h67 : M 67 = r) (hnt : M 67 1 = nI nt) (hn8 : nt ≤ 8) (hnp : M 67 2 = nI np) (hp8 : np ≤ 8) (hI : Inv M) : ∃ v M', mT X 149 [.ref 66, .int a1, .int a2, .int a3] (con M) (some (.int v)) (con M') ∧ Uq (fForge nt np r a1 a2 a3) v M M' := by
  refine ti_of (row := _) rfl (Nat.le_of_ble_eq_true rfl) ?_
  have hm : mMet 149 = some _ := rfl
  refine x_aload_n hm rfl rfl ?_
  refine x_iload_n hm rfl rfl ?_
  refine x_callV hm rfl rfl (t139) ?_
  rw [hnt]
  refine x_if_eq hm rfl (t := 18) rfl (fun h1 => ?_) (fun h1 => ?_)
  · refine x_aload_n hm rfl rfl ?_
    refine x_ldcI hm rfl (v := (-1000001 : Int32)) (by decide +kernel) ?_
    refine x_callV hm rfl rfl (e135 (by decide +kernel)) ?_
    refine x_iret hm rfl rfl (by first | rfl | exact bI_nar | decide) ?_
    first
      | (have hq : fForge nt np r a1 a2 a3 = (-1000001, nt, np, r) := by
           unfold fForge
           rw [if_pos (by assumption)]
         exact ⟨_, _, rfl, rfl, by rw [hq]; exact ⟨rfl, fnd_rm h67⟩⟩)
      | (have hq : fForge nt np r (nI t) a2 a3 = (-1000001, nt, np, r) := by
           unfold fForge
           rw [if_neg (by assumption), if_pos (by assumption)]
         exact ⟨_, _, rfl, rfl, by rw [hq]; exact ⟨rfl, fnd_rm h67⟩⟩)
  · obtain ⟨t, ht, rfl⟩ := in_k rfl (by omega) (bI_ne0 h1)
    refine x_aload_n hm rfl rfl ?_
    refine x_iload_n hm rfl rfl ?_
    refine x_iload_n hm rfl rfl ?_
    refine x_iload_n hm rfl rfl ?_
    refine x_callV hm rfl rfl (g150 hnt hnp) ?_
    refine x_if_ne hm rfl (t := 25) rfl (fun h2 => ?_) (fun h2 => ?_)
    · have hmf := bI_ne0 h2
      have hz : bI (mayF nt np (nI t) a2 a3) ≠ 0 := h2
      obtain ⟨f, hf, rfl⟩ := mayF_f hmf
      refine x_iload_n hm rfl rfl ?_
      refine x_iconst hm rfl (v := nI 5) (by decide) ?_
      refine x_icmp_ne hm rfl (t := 50) rfl (fun h3 => ?_) (fun h3 => ?_)
      · have hnc : ¬ fgC r (nI t) (nI f) a3 := fun z => h3 z.1
        refine x_aload_n hm rfl rfl ?_
        refine x_iload_n hm rfl rfl ?_
        refine x_iload_n hm rfl rfl ?_
        refine x_callS hm rfl rfl (t137) ?_
        refine x_iload_n hm rfl rfl ?_
        refine x_callV hm rfl rfl (t155 (by omega)) ?_
        refine x_iret hm rfl rfl (by first | rfl | exact bI_nar | decide) ?_
        first
          | (have hq : fForge nt np r (nI t) (nI f) a3 = (r (14 + 6 * t + f), nt, np, put1 r (14 + 6 * t + f) a3) := by
               unfold fForge
               rw [if_neg (by assumption), if_neg (by assumption), if_neg hnc]
               rw [jI_nat (k := t) (by omega)]
               rw [jI_nat (k := f) (by omega)]
             exact ⟨_, _, rfl, rfl, by rw [hq]; exact ⟨congrFun h67 _, by rw [← h67]; exact mput67, fun a h _ _ _ => mpo h⟩⟩)
          | (have hq : fForge nt np r (nI t) (nI 5) a3 = (r (14 + 6 * t + 5), nt, np, put1 r (14 + 6 * t + 5) a3) := by
               unfold fForge
               rw [if_neg (by assumption), if_neg (by assumption), if_neg hnc]
               rw [jI_nat (k := t) (by omega)]
               rw [jI_nat (k := 5) (by omega)]
             exact ⟨_, _, rfl, rfl, by rw [hq]; exact ⟨congrFun h67 _, by rw [← h67]; exact mput67, fun a h _ _ _ => mpo h⟩⟩)
          | (have hq : fForge nt np r (nI t) (nI 5) (nI w) = (r (14 + 6 * t + 5), nt, np, put1 r (14 + 6 * t + 5) (nI w)) := by
               unfold fForge
               rw [if_neg (by assumption), if_neg (by assumption), if_neg hnc]
               rw [jI_nat (k := t) (by omega)]
               rw [jI_nat (k := 5) (by omega)]
             exact ⟨_, _, rfl, rfl, by rw [hq]; exact ⟨congrFun h67 _, by rw [← h67]; exact mput67, fun a h _ _ _ => mpo h⟩⟩)
      · obtain rfl : f = 5 := jI_inj (by omega) (by decide) h3
        refine x_iload_n hm rfl rfl ?_
        refine x_if_lt hm rfl (t := 50) rfl (fun h4 => ?_) (fun h4 => ?_)
        · have hnc : ¬ fgC r (nI t) (nI 5) a3 := fun z => (((mayF_5 rfl).mpr hmf).resolve_left z.2.1).1.1 |> fun g => absurd h4 (Int32.not_lt.mpr g)
          refine x_aload_n hm rfl rfl ?_
          refine x_iload_n hm rfl rfl ?_
          refine x_iload_n hm rfl rfl ?_
          refine x_callS hm rfl rfl (t137) ?_
          refine x_iload_n hm rfl rfl ?_
          refine x_callV hm rfl rfl (t155 (by omega)) ?_
          refine x_iret hm rfl rfl (by first | rfl | exact bI_nar | decide) ?_
          first
            | (have hq : fForge nt np r (nI t) (nI f) a3 = (r (14 + 6 * t + f), nt, np, put1 r (14 + 6 * t + f) a3) := by
                 unfold fForge
                 rw [if_neg (by assumption), if_neg (by assumption), if_neg hnc]
                 rw [jI_nat (k := t) (by omega)]
                 rw [jI_nat (k := f) (by omega)]
               exact ⟨_, _, rfl, rfl, by rw [hq]; exact ⟨congrFun h67 _, by rw [← h67]; exact mput67, fun a h _ _ _ => mpo h⟩⟩)
            | (have hq : fForge nt np r (nI t) (nI 5) a3 = (r (14 + 6 * t + 5), nt, np, put1 r (14 + 6 * t + 5) a3) := by
                 unfold fForge
                 rw [if_neg (by assumption), if_neg (by assumption), if_neg hnc]
                 rw [jI_nat (k := t) (by omega)]
                 rw [jI_nat (k := 5) (by omega)]
               exact ⟨_, _, rfl, rfl, by rw [hq]; exact ⟨congrFun h67 _, by rw [← h67]; exact mput67, fun a h _ _ _ => mpo h⟩⟩)
            | (have hq : fForge nt np r (nI t) (nI 5) (nI w) = (r (14 + 6 * t + 5), nt, np, put1 r (14 + 6 * t + 5) (nI w)) := by
                 unfold fForge
                 rw [if_neg (by assumption), if_neg (by assumption), if_neg hnc]
                 rw [jI_nat (k := t) (by omega)]
                 rw [jI_nat (k := 5) (by omega)]
               exact ⟨_, _, rfl, rfl, by rw [hq]; exact ⟨congrFun h67 _, by rw [← h67]; exact mput67, fun a h _ _ _ => mpo h⟩⟩)
        · have hv5 := ((mayF_5 rfl).mpr hmf).resolve_left fun e => h4 (by rw [e]; decide)
          obtain ⟨w, hw, rfl⟩ := in_k rfl (by omega) hv5.1
          refine x_aload_n hm rfl rfl ?_
          refine x_iload_n hm rfl rfl ?_
          refine x_iload_n hm rfl rfl ?_
          refine x_cVe hm rfl rfl (e154 hI hnt hn8 hw (by omega)) (fun v5 r5 => ?_)
          rw [h67] at r5
          refine x_if_eq hm rfl (t := 50) rfl (fun h6 => ?_) (fun h6 => ?_)
          · have hnc : ¬ fgC r (nI t) (nI 5) (nI w) := fun z => by
              have z3 := z.2.2
              rw [jI_nat (by omega), jI_nat (by omega)] at z3
              exact r5.elim (fun q => absurd (q.2.symm.trans h6) (by decide)) (fun q => q.1 z3)
            refine x_aload_n hm rfl rfl ?_
            refine x_iload_n hm rfl rfl ?_
            refine x_iload_n hm rfl rfl ?_
            refine x_callS hm rfl rfl (t137) ?_
            refine x_iload_n hm rfl rfl ?_
            refine x_callV hm rfl rfl (t155 (by omega)) ?_
            refine x_iret hm rfl rfl (by first | rfl | exact bI_nar | decide) ?_
            first
              | (have hq : fForge nt np r (nI t) (nI f) a3 = (r (14 + 6 * t + f), nt, np, put1 r (14 + 6 * t + f) a3) := by
                   unfold fForge
                   rw [if_neg (by assumption), if_neg (by assumption), if_neg hnc]
                   rw [jI_nat (k := t) (by omega)]
                   rw [jI_nat (k := f) (by omega)]
                 exact ⟨_, _, rfl, rfl, by rw [hq]; exact ⟨congrFun h67 _, by rw [← h67]; exact mput67, fun a h _ _ _ => mpo h⟩⟩)
              | (have hq : fForge nt np r (nI t) (nI 5) a3 = (r (14 + 6 * t + 5), nt, np, put1 r (14 + 6 * t + 5) a3) := by
                   unfold fForge
                   rw [if_neg (by assumption), if_neg (by assumption), if_neg hnc]
                   rw [jI_nat (k := t) (by omega)]
                   rw [jI_nat (k := 5) (by omega)]
                 exact ⟨_, _, rfl, rfl, by rw [hq]; exact ⟨congrFun h67 _, by rw [← h67]; exact mput67, fun a h _ _ _ => mpo h⟩⟩)
              | (have hq : fForge nt np r (nI t) (nI 5) (nI w) = (r (14 + 6 * t + 5), nt, np, put1 r (14 + 6 * t + 5) (nI w)) := by
                   unfold fForge
                   rw [if_neg (by assumption), if_neg (by assumption), if_neg hnc]
                   rw [jI_nat (k := t) (by omega)]
                   rw [jI_nat (k := 5) (by omega)]
                 exact ⟨_, _, rfl, rfl, by rw [hq]; exact ⟨congrFun h67 _, by rw [← h67]; exact mput67, fun a h _ _ _ => mpo h⟩⟩)
          · have hcy : fgC r (nI t) (nI 5) (nI w) := ⟨rfl, fun q => absurd (Int32.not_lt.mp (jI_nn (show w < 2147483648 by omega))) (by rw [q]; decide), by rw [jI_nat (by omega), jI_nat (by omega)]; exact (r5.resolve_right fun q => h6 q.2).1⟩
            refine x_aload_n hm rfl rfl ?_
            refine x_ldcI hm rfl (v := (-1000005 : Int32)) (by decide +kernel) ?_
            refine x_callV hm rfl rfl (e135 (by decide +kernel)) ?_
            refine x_iret hm rfl rfl (by first | rfl | exact bI_nar | decide) ?_
            have hq : fForge nt np r (nI t) (nI 5) (nI w) = (-1000005, nt, np, r) := by
              unfold fForge
              rw [if_neg (by assumption), if_neg (by assumption), if_pos hcy]
            exact ⟨_, _, rfl, rfl, by rw [hq]; exact ⟨rfl, fnd_rm h67⟩⟩
    · refine x_aload_n hm rfl rfl ?_
      refine x_ldcI hm rfl (v := (-1000001 : Int32)) (by decide +kernel) ?_
      refine x_callV hm rfl rfl (e135 (by decide +kernel)) ?_
      refine x_iret hm rfl rfl (by first | rfl | exact bI_nar | decide) ?_
      first
        | (have hq : fForge nt np r a1 a2 a3 = (-1000001, nt, np, r) := by
             unfold fForge
             rw [if_pos (by assumption)]
           exact ⟨_, _, rfl, rfl, by rw [hq]; exact ⟨rfl, fnd_rm h67⟩⟩)
        | (have hq : fForge nt np r (nI t) a2 a3 = (-1000001, nt, np, r) := by
             unfold fForge
             rw [if_neg (by assumption), if_pos (by assumption)]
           exact ⟨_, _, rfl, rfl, by rw [hq]; exact ⟨rfl, fnd_rm h67⟩⟩)
theorem Gd.forge {a1 a2 a3 : Int32} (h : Gd nt np r) : Gd (fForge nt np r a1 a2 a3).2.1 (fForge nt np r a1 a2 a3).2.2.1 (fForge nt np r a1 a2 a3).2.2.2 := by
  have ht8 := h.2.2.1.1
  have hp8 := h.2.2.1.2.1
  unfold fForge
  split
  · exact h
  · rename_i h1
    obtain ⟨t, ht, rfl⟩ := in_k rfl (by omega) (bI_ne0 h1)
    split
    · exact h
    · rename_i h2
      have hm := bI_ne0 h2
      obtain ⟨f, hf, rfl⟩ := mayF_f hm
      by_cases hc : fgC r (nI t) (nI f) a3
      · rw [if_pos hc]
        exact h
      · rw [if_neg hc, jI_nat (by omega), jI_nat (by omega)]
        refine h.pt ht hf (fun e => ?_) (fun e => ?_) (fun e => ?_) (fun e => ?_) (fun e => ?_) (fun e => ?_) <;> subst e
        · exact le_k (by decide) ((mayF_0 rfl).mpr hm)
        · exact le_k (by decide) ((mayF_1 rfl).mpr hm)
        · exact le_k (by decide) ((mayF_2 rfl).mpr hm)
        · exact le_k (by decide) ((mayF_3 rfl).mpr hm)
        · exact ((mayF_4 rfl).mpr hm).imp id fun g => in_k rfl (by omega) g
        · exact ((mayF_5 rfl).mpr hm).imp id fun g => in_k rfl (by omega) g.1
theorem j_forge {a1 a2 a3 : Int32} (hJ : J M) : JJ X 17 149 [.ref 0, .int a1, .int a2, .int a3] [.ref 66, .int a1, .int a2, .int a3] M Eq := by
  obtain ⟨nt, np, hR, h1, h2, hV, hr, -⟩ := hJ.2.2.1
  exact J.join hJ (t17 hJ.1.1) (g17 hR hV.1 hV.2.1 hV) (fun M1 i => t149 i) (fun M1 i k => g149 (k 67 (by decide)) (by rw [k 67 (by decide)]; exact h1) hV.1 (by rw [k 67 (by decide)]; exact h2) hV.2.1 i) (Gd.forge ⟨h1, h2, hV, hr⟩)
end FO
