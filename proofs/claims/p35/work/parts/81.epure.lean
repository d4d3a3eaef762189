section
/-! ===== what asking what will be rests on: pure facts ===== -/
section PQ
variable {nt np : Nat} {r q : Nat → Int32} {w : Int32}
/-- alike but for the day -/
def Eq0 (q r : Nat → Int32) : Prop := ∀ j, j ≠ 0 → q j = r j
theorem Eq0.eq (h : Eq0 q r) : q = put1 r 0 (q 0) := by
  funext j
  by_cases e : j = 0
  · subst e; exact put1_s.symm
  · rw [put1_o e]; exact h j e
theorem sEnv_0 {v o : Int32} {p t : Nat} : sEnv (put1 r 0 v) w o p t = sEnv r w o p t := by
  unfold sEnv sPl sRi sPl
  simp (disch := omega) only [put1_o]
theorem sWs_0 {v : Int32} {t : Nat} : ∀ k, sWs (put1 r 0 v) w t k = sWs r w t k := by
  intro k
  unfold sWs
  refine fo_c k _ fun p s _ => ?_
  simp (disch := omega) only [put1_o, sEnv_0]
theorem sWear_0 {v : Int32} {t : Nat} : sWear (put1 r 0 v) w np t = sWear r w np t := by
  unfold sWear
  rw [sWs_0, put1_o (by omega)]
theorem Eq0.put (h : Eq0 q r) {i : Nat} {v v' : Int32} (e : v = v') : Eq0 (put1 q i v) (put1 r i v') := by
  intro j hj
  subst e
  by_cases g : j = i
  · subst g; rw [put1_s, put1_s]
  · rw [put1_o g, put1_o g]; exact h j hj
theorem Eq0.worn (h : Eq0 q r) : ∀ n, Eq0 (sWorn q w np n q) (sWorn r w np n r) := by
  intro n
  induction n with
  | zero => exact h
  | succ n ih =>
    refine ih.put ?_
    have e := ih (14 + 6 * n + 2) (by omega)
    have e2 : sWear q w np n = sWear r w np n := by
      rw [h.eq]
      exact sWear_0
    show sWorn q w np n q (14 + 6 * n + 2) - sWear q w np n = sWorn r w np n r (14 + 6 * n + 2) - sWear r w np n
    rw [e, e2]
theorem Eq0.fp1 {s : Int32} (h : Eq0 q r) (t : Nat) : Eq0 (sFp1 t (q, s)).1 (sFp1 t (r, s)).1 ∧ (sFp1 t (q, s)).2 = (sFp1 t (r, s)).2 := by
  have e2 := h (14 + 6 * t + 2) (by omega)
  have e5 := h (14 + 6 * t + 5) (by omega)
  have e6 := h (14 + 6 * (r (14 + 6 * t + 5)).toNatClampNeg + 2) (by omega)
  by_cases g : ¬ r (14 + 6 * t + 2) = 0 ∧ ¬ r (14 + 6 * t + 5) < 0 ∧ r (14 + 6 * (r (14 + 6 * t + 5)).toNatClampNeg + 2) = 0
  · have g' : ¬ q (14 + 6 * t + 2) = 0 ∧ ¬ q (14 + 6 * t + 5) < 0 ∧ q (14 + 6 * (q (14 + 6 * t + 5)).toNatClampNeg + 2) = 0 := by rw [e2, e5, e6]; exact g
    rw [show sFp1 t (q, s) = (put1 q (14 + 6 * t + 2) (nI 0), nI 1) from if_pos g', show sFp1 t (r, s) = (put1 r (14 + 6 * t + 2) (nI 0), nI 1) from if_pos g]
    exact ⟨h.put rfl, rfl⟩
  · have g' : ¬ (¬ q (14 + 6 * t + 2) = 0 ∧ ¬ q (14 + 6 * t + 5) < 0 ∧ q (14 + 6 * (q (14 + 6 * t + 5)).toNatClampNeg + 2) = 0) := by rw [e2, e5, e6]; exact g
    rw [show sFp1 t (q, s) = (q, s) from if_neg g', show sFp1 t (r, s) = (r, s) from if_neg g]
    exact ⟨h, rfl⟩
theorem Eq0.fp (h : Eq0 q r) : ∀ n, Eq0 (sFp n q).1 (sFp n r).1 ∧ (sFp n q).2 = (sFp n r).2 := by
  intro n
  induction n with
  | zero => exact ⟨h, rfl⟩
  | succ n ih =>
    have e := ih.1.fp1 (s := (sFp n q).2) n
    rw [show ((sFp n r).1, (sFp n q).2) = sFp n r by rw [ih.2]] at e
    exact e
theorem Eq0.fall {n : Nat} : ∀ (f : Nat) {q r : Nat → Int32}, Eq0 q r → Eq0 (sFall n f q) (sFall n f r) := by
  intro f
  induction f with
  | zero => exact fun h => h
  | succ f ih =>
    intro q r h
    obtain ⟨h1, h2⟩ := h.fp n
    by_cases g : (sFp n r).2 = nI 0
    · rw [show sFall n (f + 1) q = (sFp n q).1 from if_pos (h2.trans g), show sFall n (f + 1) r = (sFp n r).1 from if_pos g]
      exact h1
    · rw [show sFall n (f + 1) q = sFall n f (sFp n q).1 from if_neg (fun e => g (h2.symm.trans e)), show sFall n (f + 1) r = sFall n f (sFp n r).1 from if_neg g]
      exact ih h1
theorem Eq0.go (h : Eq0 q r) : ∀ n, Eq0 (sGo n q) (sGo n r) := by
  intro n
  induction n with
  | zero => exact h
  | succ n ih =>
    refine ih.put ?_
    have e := ih (62 + 7 * n + 1) (by omega)
    have e2 := ih (62 + 7 * n + 2) (by omega)
    show rem16 (sGo n q (62 + 7 * n + 1) + sGo n q (62 + 7 * n + 2)) = rem16 (sGo n r (62 + 7 * n + 1) + sGo n r (62 + 7 * n + 2))
    rw [e, e2]
theorem Eq0.day (h : Eq0 q r) : Eq0 (sDay w nt np q) (sDay w nt np r) := by
  intro j hj
  show put1 _ 0 _ j = put1 _ 0 _ j
  rw [put1_o hj, put1_o hj]
  exact (Eq0.fall 8 (h.worn nt)).go np j hj
theorem Eq0.days (h : Eq0 q r) : ∀ n, Eq0 (sDays w nt np n q) (sDays w nt np n r) := by
  intro n
  induction n with
  | zero => exact h
  | succ n ih => exact ih.day
theorem Gd.d0 (h : Gd nt np r) : Gd nt np (put1 r 0 (nI 0)) := by
  obtain ⟨h1, h2, ⟨v1, v2, v3, v4⟩, ⟨w1, w2, w3, w4⟩⟩ := h
  refine ⟨(put1_o (by decide)).trans h1, (put1_o (by decide)).trans h2, ⟨v1, v2, fun t ht => ?_, fun q hq => ?_⟩, ⟨⟨0, by decide, put1_s⟩, fun z hz => ?_, fun t ht => ?_, fun q hq => ?_⟩⟩
  · rw [put1_o (by omega), put1_o (by omega), put1_o (by omega)]; exact v3 t ht
  · rw [put1_o (by omega)]; exact v4 q hq
  · rw [put1_o (by omega)]; exact w2 z hz
  · rw [put1_o (by omega), put1_o (by omega), put1_o (by omega)]; exact w3 t ht
  · obtain ⟨g1, g2, g3⟩ := w4 q hq
    rw [put1_o (by omega), put1_o (by omega)]
    exact ⟨g1, g2, fun z hz => by rw [put1_o (by omega)]; exact g3 z hz⟩
theorem Eq0.rst {v : Int32} : Eq0 r (put1 r 0 v) := fun j hj => (put1_o hj).symm
theorem days_le (h : Gd nt np r) {n t : Nat} (hn : n ≤ 1000) (ht : t < nt) : Le 999 (sDays w nt np n r (14 + 6 * t + 2)) := by
  rw [(Eq0.rst (r := r) (v := nI 0)).days n _ (by omega)]
  exact ((h.d0.days (w := w) (d := 0) put1_s n (by omega)).1.2.2.2.2.2.1 t ht).2.1
theorem thick_le : ∀ n, (∀ t, t < n → Le 999 (r (14 + 6 * t + 2))) → Le (999 * n) (sThick r n) := by
  intro n
  induction n with
  | zero => exact fun _ => ⟨0, Nat.zero_le _, rfl⟩
  | succ n ih =>
    intro h
    obtain ⟨a, ha, ea⟩ := ih fun t ht => h t (by omega)
    obtain ⟨b, hb, eb⟩ := h n (Nat.lt_succ_self n)
    refine ⟨a + b, by omega, ?_⟩
    show sThick r n + r (14 + 6 * n + 2) = _
    rw [ea, eb, jI_add]
theorem lost_le (h : Gd nt np r) {n : Nat} (hn : n ≤ 1000) : Le 8000 (sThick (sDays w nt np n r) nt) := by
  obtain ⟨k, hk, e⟩ := thick_le nt fun t ht => days_le (w := w) h hn ht
  have := h.2.2.1.1
  exact ⟨k, by omega, e⟩
theorem thick_o {pl : Nat} {v : Int32} (h : ∀ t, t < nt → ¬ 14 + 6 * t + 2 = pl) : sThick (put1 r pl v) nt = sThick r nt := fo_c nt _ fun t s ht => by rw [put1_o (h t ht)]
/-- the class's choice: what leaves most, the first of them -/
def sCl (L : Nat → Int32) (k : Nat) (z : Int32 × Int32) : Int32 × Int32 := if z.2 < L k then (nI k, L k) else z
theorem cmp_k {x l m : Nat} (hx : x ≤ 8000) (hl : l ≤ 8000) (hm : m ≤ 8000) : nI x - nI l < nI x - nI m ↔ nI m < nI l := by
  rw [Int32.lt_iff_toInt_lt, Int32.lt_iff_toInt_lt, Int32.toInt_sub, Int32.toInt_sub, jI_int (by omega), jI_int (by omega), jI_int (by omega), Int.bmod_def, Int.bmod_def]
  omega
theorem cmp_m {x l : Nat} (hx : x ≤ 8000) (hl : l ≤ 8000) : nI x - nI l < nI 2147483647 := by
  rw [Int32.lt_iff_toInt_lt, Int32.toInt_sub, jI_int (by omega), jI_int (by omega), jI_int (by decide), Int.bmod_def]
  omega
theorem neg1_lt {l : Nat} (hl : l ≤ 8000) : (-1 : Int32) < nI l := by
  rw [Int32.lt_iff_toInt_lt, jI_int (by omega), show (-1 : Int32).toInt = -1 from by decide]
  omega
theorem mn2_t {x y : Int32} (h : y < x) : mn2 x y = y := if_pos h
theorem mn2_f {x y : Int32} (h : ¬ y < x) : mn2 x y = x := if_neg h
/-- least lost is most left -/
theorem pick_lost {T : Int32} {L : Nat → Int32} {F : Nat → Int32 × Int32 → Int32 × Int32} {c : Nat} {b0 b1 : Int32} (hT : Le 8000 T) (hL : ∀ k, k < c → Le 8000 (L k)) (hF : ∀ k z, k < c → F k z = (if T - L k < z.2 then nI k else z.1, mn2 z.2 (T - L k))) (hb : 0 < c ∨ b0 = b1) : (fo F c (b0, nI 2147483647)).1 = (fo (sCl L) c (b1, -1)).1 := by
  obtain ⟨x, hx, rfl⟩ := hT
  have main : ∀ k, k ≤ c → 0 < k → (fo F k (b0, nI 2147483647)).1 = (fo (sCl L) k (b1, -1)).1 ∧ ∃ m, m ≤ 8000 ∧ (fo (sCl L) k (b1, -1)).2 = nI m ∧ (fo F k (b0, nI 2147483647)).2 = nI x - nI m := by
    intro k
    induction k with
    | zero => exact fun _ h => absurd h (Nat.lt_irrefl _)
    | succ k ih =>
      intro hk _
      obtain ⟨l, hl, el⟩ := hL k hk
      show (F k (fo F k (b0, nI 2147483647))).1 = (sCl L k (fo (sCl L) k (b1, -1))).1 ∧ ∃ m, m ≤ 8000 ∧ (sCl L k (fo (sCl L) k (b1, -1))).2 = nI m ∧ (F k (fo F k (b0, nI 2147483647))).2 = nI x - nI m
      rw [hF k _ hk, el]
      by_cases h0 : k = 0
      · subst h0
        rw [show fo F 0 (b0, nI 2147483647) = (b0, nI 2147483647) from rfl, show sCl L 0 (fo (sCl L) 0 (b1, -1)) = (nI 0, L 0) from if_pos (by rw [el]; exact neg1_lt hl)]
        dsimp only
        rw [if_pos (cmp_m hx hl), mn2_t (cmp_m hx hl)]
        exact ⟨rfl, l, hl, el, rfl⟩
      · obtain ⟨e1, m, hm, e2, e3⟩ := ih (by omega) (by omega)
        dsimp only
        rw [e3]
        by_cases g : nI m < nI l
        · rw [show sCl L k (fo (sCl L) k (b1, -1)) = (nI k, L k) from if_pos (by rw [e2, el]; exact g), if_pos ((cmp_k hx hl hm).mpr g), mn2_t ((cmp_k hx hl hm).mpr g)]
          exact ⟨rfl, l, hl, el, rfl⟩
        · rw [show sCl L k (fo (sCl L) k (b1, -1)) = fo (sCl L) k (b1, -1) from if_neg (by rw [e2, el]; exact g), if_neg (fun z => g ((cmp_k hx hl hm).mp z)), mn2_f (fun z => g ((cmp_k hx hl hm).mp z))]
          exact ⟨e1, m, hm, e2, rfl⟩
  rcases Nat.eq_zero_or_pos c with h | h
  · subst h
    exact hb.resolve_left (Nat.lt_irrefl _)
  · exact (main c (Nat.le_refl _) h).1
theorem pick_most {L : Nat → Int32} {F : Nat → Int32 × Int32 → Int32 × Int32} {c : Nat} {b0 b1 : Int32} (hL : ∀ k, k < c → Le 8000 (L k)) (hF : ∀ k z, k < c → F k z = (if z.2 < L k then nI k else z.1, if z.2 < L k then L k else z.2)) (hb : 0 < c) : (fo F c (b0, -1)).1 = (fo (sCl L) c (b1, -1)).1 := by
  have main : ∀ k, k ≤ c → 0 < k → fo F k (b0, -1) = fo (sCl L) k (b1, -1) := by
    intro k
    induction k with
    | zero => exact fun _ h => absurd h (Nat.lt_irrefl _)
    | succ k ih =>
      intro hk _
      obtain ⟨l, hl, el⟩ := hL k hk
      show F k (fo F k (b0, -1)) = sCl L k (fo (sCl L) k (b1, -1))
      rw [hF k _ hk]
      by_cases h0 : k = 0
      · subst h0
        rw [show fo F 0 (b0, -1) = (b0, -1) from rfl, show sCl L 0 (fo (sCl L) 0 (b1, -1)) = (nI 0, L 0) from if_pos (by rw [el]; exact neg1_lt hl)]
        dsimp only
        rw [el, if_pos (neg1_lt hl), if_pos (neg1_lt hl)]
      · rw [ih (by omega) (by omega)]
        by_cases g : (fo (sCl L) k (b1, -1)).2 < L k
        · rw [show sCl L k (fo (sCl L) k (b1, -1)) = (nI k, L k) from if_pos g, if_pos g, if_pos g]
        · rw [show sCl L k (fo (sCl L) k (b1, -1)) = fo (sCl L) k (b1, -1) from if_neg g, if_neg g, if_neg g]
  rw [main c (Nat.le_refl _) hb]
/-- where one is behind i days of walking -/
def pos (w x : Int32) (i : Nat) : Int32 := fo (fun _ z => rem16 (z + w)) i x
theorem pos_16 : ∀ a, a < 16 → ∀ w, w < 16 → pos (nI w) (nI a) 16 = nI a := by decide +kernel
theorem pos_p {x : Int32} (h : pos w x 16 = x) : ∀ i, pos w x (16 + i) = pos w x i := by
  intro i
  induction i with
  | zero => exact h
  | succ i ih =>
    show rem16 (pos w x (16 + i) + w) = rem16 (pos w x i + w)
    rw [ih]
theorem pos_m {x : Int32} (h : pos w x 16 = x) (i : Nat) : pos w x i = pos w x (i % 16) := by
  have e : ∀ j k, pos w x (16 * k + j) = pos w x j := by
    intro j k
    induction k with
    | zero => rw [Nat.mul_zero, Nat.zero_add]
    | succ k ih => rw [show 16 * (k + 1) + j = 16 + (16 * k + j) by omega, pos_p h, ih]
  have := e (i % 16) (i / 16)
  rw [Nat.div_add_mod] at this
  exact this
theorem pos_s {x : Int32} : ∀ i, pos w (rem16 (x + w)) i = pos w x (i + 1) := by
  intro i
  induction i with
  | zero => rfl
  | succ i ih =>
    show rem16 (pos w (rem16 (x + w)) i + w) = rem16 (pos w x (i + 1) + w)
    rw [ih]
theorem sSe_no {g : Int32} : ∀ (m n : Nat) (x : Int32), (∀ i, i < m → ¬ pos w x i = g) → sSe g w m n x = (-1000004, true) := by
  intro m
  induction m with
  | zero => intro n x _; rfl
  | succ m ih =>
    intro n x h
    show (if x = g then (nI n, false) else sSe g w m (n + 1) (rem16 (x + w))) = _
    rw [if_neg (show ¬ x = g from h 0 (Nat.succ_pos m))]
    exact ih _ _ fun i hi => by rw [pos_s]; exact h (i + 1) (by omega)
theorem sSe_yes {g : Int32} {f : Nat} : ∀ (m n : Nat) (x : Int32), (∃ i, i < m ∧ pos w x i = g) → sSe g w (m + f) n x = sSe g w m n x := by
  intro m
  induction m with
  | zero => intro n x ⟨i, hi, _⟩; exact absurd hi (Nat.not_lt_zero _)
  | succ m ih =>
    intro n x ⟨i, hi, e⟩
    rw [show m + 1 + f = (m + f) + 1 by omega]
    show (if x = g then (nI n, false) else sSe g w (m + f) (n + 1) (rem16 (x + w))) = (if x = g then (nI n, false) else sSe g w m (n + 1) (rem16 (x + w)))
    by_cases h : x = g
    · rw [if_pos h, if_pos h]
    · rw [if_neg h, if_neg h]
      refine ih _ _ ⟨i - 1, ?_, ?_⟩
      · cases i with
        | zero => exact absurd e h
        | succ i => omega
      · cases i with
        | zero => exact absurd e h
        | succ i => rw [pos_s]; exact e
theorem sSe_101 {g x : Int32} (hx : Le 15 x) (hw : Le 15 w) : sSe g w 101 0 x = sSe g w 16 0 x := by
  obtain ⟨a, ha, rfl⟩ := hx
  obtain ⟨b, hb, rfl⟩ := hw
  have hp := pos_16 a (by omega) b (by omega)
  by_cases h : ∃ i, i < 16 ∧ pos (nI b) (nI a) i = g
  · exact sSe_yes (f := 85) 16 0 _ h
  · have h1 : ∀ i, ¬ pos (nI b) (nI a) i = g := fun i e => h ⟨i % 16, Nat.mod_lt _ (by decide), (pos_m hp i).symm.trans e⟩
    rw [sSe_no 101 0 _ fun i _ => h1 i, sSe_no 16 0 _ fun i _ => h1 i]
theorem orN_k {k : Nat} (h : k < 2147483648) : orN (nI k) = (nI k, false) := if_pos (Int32.not_lt.mp (jI_nn h))
theorem orN_m : orN (-1) = (-1000004, true) := if_neg (by decide)
end PQ
end
section
/-! ===== what is asked of what is: both sides ===== -/
section EW
variable {X : mSc} {Q : Option Value → mHp → Prop} {M : mM} {nt np : Nat} {r : Nat → Int32}
def fThO (r : Nat → Int32) (nt np : Nat) (a1 a2 : Int32) : Int32 := if bI (nI 0 ≤ a1 ∧ a1 ≤ nI nt - nI 1) = 0 then -1000001 else if bI (nI 0 ≤ a2 ∧ a2 ≤ nI 6) = 0 then -1000001 else if a2 = nI 6 then sWear r (-1) np a1.toNatClampNeg else r (14 + 6 * a1.toNatClampNeg + a2.toNatClampNeg)
def fOf (r : Nat → Int32) (nt np : Nat) (a1 a2 : Int32) : Int32 := if bI (nI 0 ≤ a1 ∧ a1 ≤ nI np - nI 1) = 0 then -1000001 else if bI (nI 0 ≤ a2 ∧ a2 ≤ nI 7) = 0 then -1000001 else if a2 = nI 7 then sOwned r a1 nt else r (62 + 7 * a1.toNatClampNeg + a2.toNatClampNeg)
def fEnvy (r : Nat → Int32) (nt np : Nat) (a1 a2 : Int32) : Int32 := if bI (nI 0 ≤ a1 ∧ a1 ≤ nI np - nI 1) = 0 then -1000001 else if bI (nI 0 ≤ a2 ∧ a2 ≤ nI nt - nI 1) = 0 then -1000001 else sEnv r (-1) (r (14 + 6 * a2.toNatClampNeg + 4)) a1.toNatClampNeg a2.toNatClampNeg
def fFells (r : Nat → Int32) (n : Nat) : Int32 := fo (fun t s => if r (14 + 6 * t + 5) = -1 then s ||| bit t else s) n (nI 0)
noncomputable def fFw (r : Nat → Int32) (nt np : Nat) (a1 : Int32) : Int32 := if bI (nI 0 ≤ a1 ∧ a1 ≤ nI nt - nI 1) = 0 then -1000001 else nI (wS (Rch r a1.toNatClampNeg) nt)
def sWth (r : Nat → Int32) (p k n : Nat) : Int32 := fo (fun t s => s + (if k.testBit t = true then sEnv r (-1) (-1) p t else nI 0)) n (nI 0)
def fWorth (r : Nat → Int32) (nt np : Nat) (a1 a2 : Int32) : Int32 := if bI (nI 0 ≤ a1 ∧ a1 ≤ nI np - nI 1) = 0 then -1000001 else if bI (nI 0 ≤ a2 ∧ a2 ≤ nI (2 ^ nt) - nI 1) = 0 then -1000001 else sWth r a1.toNatClampNeg a2.toNatClampNeg nt
def fAs (r : Nat → Int32) (nt np : Nat) (a1 a2 : Int32) : Int32 := if bI (nI 0 ≤ a1 ∧ a1 ≤ nI 9) = 0 then -1000001 else if bI (nI 0 ≤ a2 ∧ a2 ≤ nI 6) = 0 then -1000001 else if r (4 + a1.toNatClampNeg) = -1 then -1000006 else if uo 5 (r (62 + 7 * (r (4 + a1.toNatClampNeg)).toNatClampNeg + 0)) a2 = true then r (4 + a1.toNatClampNeg) else -1000003
def sHs (r : Nat → Int32) (n : Nat) : Int32 := fo (fun s z => z + (if r (4 + s) = -1 then nI 0 else nI 1)) n (nI 0)
def fCount (c : Int32) (r : Nat → Int32) (nt np : Nat) (a1 : Int32) : Int32 := if a1 = nI 0 then r 0 else if a1 = nI 1 then nI nt else if a1 = nI 2 then nI np else if a1 = nI 3 then sBits 256 (nI 0) (sGone r nt) else if a1 = nI 4 then sThick r nt else if a1 = nI 5 then c else if a1 = nI 6 then r 3 else if a1 = nI 7 then sHs r 10 else -1000001
noncomputable def sKs (r : Nat → Int32) (nt k : Nat) (z : Int32 × Int32) : Int32 × Int32 := if z.2 < sBits 256 (nI 0) (nI (wS (Rch r k) nt)) then (nI k, sBits 256 (nI 0) (nI (wS (Rch r k) nt))) else z
noncomputable def fKey (r : Nat → Int32) (nt np : Nat) : Int32 := (orN (fo (sKs r nt) nt (-1, nI 0)).1).1
theorem fFe_t {k : Nat} (h : r (14 + 6 * k + 5) = -1) : fFells r k ||| (nI 1 <<< (nI k &&& 31)) = fFells r (k + 1) := by
  show _ = (if r (14 + 6 * k + 5) = -1 then fFells r k ||| bit k else fFells r k)
  rw [if_pos h]
  rfl
theorem fFe_f {k : Nat} (h : ¬ r (14 + 6 * k + 5) = -1) : fFells r k = fFells r (k + 1) := by
  show _ = (if r (14 + 6 * k + 5) = -1 then fFells r k ||| bit k else fFells r k)
  rw [if_neg h]
theorem sWth_t {p k j : Nat} (h : k.testBit j = true) : sWth r p k j + sEnv r (-1) (-1) p j = sWth r p k (j + 1) := by
  show _ = sWth r p k j + (if k.testBit j = true then sEnv r (-1) (-1) p j else nI 0)
  rw [if_pos h]
theorem sWth_z {p k j : Nat} (h : ¬ k.testBit j = true) : sWth r p k j + nI 0 = sWth r p k (j + 1) := by
  show _ = sWth r p k j + (if k.testBit j = true then sEnv r (-1) (-1) p j else nI 0)
  rw [if_neg h]
theorem sWth_f {p k j : Nat} (h : ¬ k.testBit j = true) : sWth r p k j = sWth r p k (j + 1) := addz.trans (sWth_z h)
theorem sHs_1 {k : Nat} (h : ¬ r (4 + k) = -1) : sHs r k + nI 1 = sHs r (k + 1) := by
  show _ = sHs r k + (if r (4 + k) = -1 then nI 0 else nI 1)
  rw [if_neg h]
theorem sHs_0 {k : Nat} (h : r (4 + k) = -1) : sHs r k + nI 0 = sHs r (k + 1) := by
  show _ = sHs r k + (if r (4 + k) = -1 then nI 0 else nI 1)
  rw [if_pos h]
theorem sHs_s {k : Nat} (h : r (4 + k) = -1) : sHs r k = sHs r (k + 1) := addz.trans (sHs_0 h)
theorem nn_m1 {k : Nat} (h : k < 2147483648) : ¬ nI k = -1 := fun e => absurd (Int32.not_lt.mp (jI_nn h)) (by rw [e]; decide)
theorem sEnv_m {p t : Nat} (hp : p < 8) : sEnv r (-1) (-1) p t = if r (14 + 6 * t + 2) = 0 then nI 0 else mx0 (sKd (r (62 + 7 * p + 0)) (-1) (r (14 + 6 * t + 2)) (sPl r p t) (sRi r (-1) p t)) := by
  have h1 : ¬ (-1 : Int32) = nI p := fun e => nn_m1 (k := p) (by omega) e.symm
  have h2 : ¬ nI p = -1 := nn_m1 (by omega)
  unfold sEnv
  by_cases h : r (14 + 6 * t + 2) = 0
  · rw [if_pos (Or.inr (Or.inl h)), if_pos h]
  · rw [if_neg (fun z => z.elim h1 fun z => z.elim h h2), if_neg h]
theorem set_k {v : Int32} (hn8 : nt ≤ 8) (h : nI 0 ≤ v ∧ v ≤ nI (2 ^ nt) - nI 1) : ∃ k, k < 2 ^ nt ∧ v = nI k := in_k (w := nI (2 ^ nt)) rfl (by have := pow_k hn8; omega) h
theorem g21x {s m : Int32} : mT X 21 [.int s, .int m] (con M) (some (.int (bI ((s >>> (m &&& 31)) &&& nI 1 = nI 1)))) (con M) := by
  refine mT.of (row := _) rfl (Nat.le_of_ble_eq_true rfl) ?_
  have hm : mMet 21 = some _ := rfl
  refine x_iload_n hm rfl rfl ?_
  refine x_iload_n hm rfl rfl ?_
  refine x_ishr hm rfl ?_
  refine x_iconst hm rfl (v := nI 1) (by decide) ?_
  refine x_iand hm rfl ?_
  refine x_iconst hm rfl (v := nI 1) (by decide) ?_
  refine x_icmp_ne hm rfl (t := 13) rfl (fun h1 => ?_) (fun h1 => ?_)
  · refine x_iconst hm rfl (v := nI 0) (by decide) ?_
    refine x_iret hm rfl rfl (by first | rfl | exact bI_nar | decide) ?_
    exact qt (congrArg Value.int (bI_f h1))
  · refine x_iconst hm rfl (v := nI 1) (by decide) ?_
    refine x_goto hm rfl (t := 14) rfl ?_
    refine x_iret hm rfl rfl (by first | rfl | exact bI_nar | decide) ?_
    exact qt (congrArg Value.int (bI_t h1))
theorem gv9 {a1 a2 : Int32} (hR : Rel 1 nt np M r) (hG : Gd nt np r) (hc : M 1 7 = -1) : ∃ v M', mT X 9 [.ref 0, .int a1, .int a2] (con M) (some (.int v)) (con M') ∧ v = fThO r nt np a1 a2 := by
  refine ti_of (row := _) rfl (Nat.le_of_ble_eq_true rfl) ?_
  have hm : mMet 9 = some _ := rfl
  have hV := hG.2.2.1
  have hn8 := hV.1
  have hp8 := hV.2.1
  refine x_aload_n hm rfl rfl ?_
  refine x_getf hm rfl (gR rfl rfl) ?_
  refine x_iload_n hm rfl rfl ?_
  refine x_callV hm rfl rfl (t10 (by decide)) ?_
  rw [hR.1]
  refine x_if_eq hm rfl (t := 21) rfl (fun h1 => ?_) (fun h1 => ?_)
  · refine x_aload_n hm rfl rfl ?_
    refine x_ldcI hm rfl (v := (-1000001 : Int32)) (by decide +kernel) ?_
    refine x_cVi hm rfl rfl (t7 (by decide +kernel)) (fun v2 M2 r2 => ?_)
    refine x_iret hm rfl rfl (by first | rfl | exact bI_nar | decide) ?_
    first
      | (have hq : fThO r nt np a1 a2 = -1000001 := by
           unfold fThO
           rw [if_pos (by assumption)]
         exact ⟨_, _, rfl, rfl, r2.1.trans hq.symm⟩)
      | (have hq : fThO r nt np (nI t) a2 = -1000001 := by
           unfold fThO
           rw [if_neg (by assumption), if_pos (by assumption)]
         exact ⟨_, _, rfl, rfl, r2.1.trans hq.symm⟩)
  · obtain ⟨t, ht, rfl⟩ := in_k rfl (by omega) (bI_ne0 h1)
    refine x_iload_n hm rfl rfl ?_
    refine x_iconst hm rfl (v := nI 0) (by decide) ?_
    refine x_bipush hm rfl (v := nI 6) (by decide) ?_
    refine x_callS hm rfl rfl (t6) ?_
    refine x_if_ne hm rfl (t := 28) rfl (fun h3 => ?_) (fun h3 => ?_)
    · obtain ⟨w, hw, rfl⟩ := le_k (by omega) (bI_ne0 h3)
      refine x_iload_n hm rfl rfl ?_
      refine x_bipush hm rfl (v := nI 6) (by decide) ?_
      refine x_icmp_ne hm rfl (t := 45) rfl (fun h4 => ?_) (fun h4 => ?_)
      · have n6 := h4
        have hw6 : w ≠ 6 := fun e => h4 (by rw [e])
        refine x_aload_n hm rfl rfl ?_
        refine x_getf hm rfl (gR rfl rfl) ?_
        refine x_getf hm rfl (gR rfl rfl) ?_
        refine x_iload_n hm rfl rfl ?_
        refine x_aald hm rfl (lQ 3 (Or.inr (Or.inl rfl)) (tI (b := 1) (by decide)) (tIk (by omega)) (by omega) (by decide)) ?_
        refine x_iload_n hm rfl rfl ?_
        refine x_iald hm rfl (lI (tRowI (b := 1) (by decide) (by omega)) (by omega) (by decide)) ?_
        refine x_iret hm rfl rfl (by first | rfl | exact bI_nar | decide) ?_
        first
          | (have hq : fThO r nt np (nI t) (nI w) = sWear r (-1) np t := by
               unfold fThO
               rw [if_neg (by assumption), if_neg (by assumption), if_pos y6]
               rw [jI_nat (k := t) (by omega)]
             exact ⟨_, _, rfl, rfl, (rfl).trans hq.symm⟩)
          | (have hq : fThO r nt np (nI t) (nI w) = r (14 + 6 * t + w) := by
               unfold fThO
               rw [if_neg (by assumption), if_neg (by assumption), if_neg n6]
               rw [jI_nat (k := t) (by omega)]
               rw [jI_nat (k := w) (by omega)]
             exact ⟨_, _, rfl, rfl, (hR.iron (by omega) ht).trans hq.symm⟩)
      · have y6 := h4
        refine x_aload_n hm rfl rfl ?_
        refine x_getf hm rfl (gR rfl rfl) ?_
        refine x_iload_n hm rfl rfl ?_
        refine x_callV hm rfl rfl (e11 (by decide) hR hV ht) ?_
        rw [hc]
        refine x_goto hm rfl (t := 56) rfl ?_
        refine x_iret hm rfl rfl (by first | rfl | exact bI_nar | decide) ?_
        first
          | (have hq : fThO r nt np (nI t) (nI w) = sWear r (-1) np t := by
               unfold fThO
               rw [if_neg (by assumption), if_neg (by assumption), if_pos y6]
               rw [jI_nat (k := t) (by omega)]
             exact ⟨_, _, rfl, rfl, (rfl).trans hq.symm⟩)
          | (have hq : fThO r nt np (nI t) (nI w) = r (14 + 6 * t + w) := by
               unfold fThO
               rw [if_neg (by assumption), if_neg (by assumption), if_neg n6]
               rw [jI_nat (k := t) (by omega)]
               rw [jI_nat (k := w) (by omega)]
             exact ⟨_, _, rfl, rfl, (hR.iron (by omega) ht).trans hq.symm⟩)
    · refine x_aload_n hm rfl rfl ?_
      refine x_ldcI hm rfl (v := (-1000001 : Int32)) (by decide +kernel) ?_
      refine x_cVi hm rfl rfl (t7 (by decide +kernel)) (fun v5 M5 r5 => ?_)
      refine x_iret hm rfl rfl (by first | rfl | exact bI_nar | decide) ?_
      first
        | (have hq : fThO r nt np a1 a2 = -1000001 := by
             unfold fThO
             rw [if_pos (by assumption)]
           exact ⟨_, _, rfl, rfl, r5.1.trans hq.symm⟩)
        | (have hq : fThO r nt np (nI t) a2 = -1000001 := by
             unfold fThO
             rw [if_neg (by assumption), if_pos (by assumption)]
           exact ⟨_, _, rfl, rfl, r5.1.trans hq.symm⟩)
theorem gr138 {a1 a2 : Int32} (hI : Inv M) (h67 : M 67 = r) (hG : Gd nt np r) (h6 : M 66 6 = -1) : ∃ v M', mT X 138 [.ref 66, .int a1, .int a2] (con M) (some (.int v)) (con M') ∧ v = fThO r nt np a1 a2 := by
  refine ti_of (row := _) rfl (Nat.le_of_ble_eq_true rfl) ?_
  have hm : mMet 138 = some _ := rfl
  have hV := hG.2.2.1
  have hn8 := hV.1
  have hp8 := hV.2.1
  have hW := hI.1
  have hnt : M 67 1 = nI nt := (congrFun h67 1).trans hG.1
  have hnp : M 67 2 = nI np := (congrFun h67 2).trans hG.2.1
  refine x_aload_n hm rfl rfl ?_
  refine x_iload_n hm rfl rfl ?_
  refine x_callV hm rfl rfl (t139) ?_
  rw [hnt]
  refine x_if_eq hm rfl (t := 18) rfl (fun h1 => ?_) (fun h1 => ?_)
  · refine x_aload_n hm rfl rfl ?_
    refine x_ldcI hm rfl (v := (-1000001 : Int32)) (by decide +kernel) ?_
    refine x_callV hm rfl rfl (e135 (by decide +kernel)) ?_
    refine x_iret hm rfl rfl (by first | rfl | exact bI_nar | decide) ?_
    first
      | (have hq : fThO r nt np a1 a2 = -1000001 := by
           unfold fThO
           rw [if_pos (by assumption)]
         exact ⟨_, _, rfl, rfl, hq.symm⟩)
      | (have hq : fThO r nt np (nI t) a2 = -1000001 := by
           unfold fThO
           rw [if_neg (by assumption), if_pos (by assumption)]
         exact ⟨_, _, rfl, rfl, hq.symm⟩)
  · obtain ⟨t, ht, rfl⟩ := in_k rfl (by omega) (bI_ne0 h1)
    refine x_iload_n hm rfl rfl ?_
    refine x_iconst hm rfl (v := nI 0) (by decide) ?_
    refine x_bipush hm rfl (v := nI 6) (by decide) ?_
    refine x_callS hm rfl rfl (t133) ?_
    refine x_if_ne hm rfl (t := 25) rfl (fun h2 => ?_) (fun h2 => ?_)
    · obtain ⟨w, hw, rfl⟩ := le_k (by omega) (bI_ne0 h2)
      refine x_iload_n hm rfl rfl ?_
      refine x_bipush hm rfl (v := nI 6) (by decide) ?_
      refine x_icmp_ne hm rfl (t := 39) rfl (fun h3 => ?_) (fun h3 => ?_)
      · have n6 := h3
        have hw6 : w ≠ 6 := fun e => h3 (by rw [e])
        refine x_aload_n hm rfl rfl ?_
        refine x_iload_n hm rfl rfl ?_
        refine x_iload_n hm rfl rfl ?_
        refine x_callV hm rfl rfl (t143 (by omega) (by omega)) ?_
        rw [h67]
        refine x_iret hm rfl rfl (by first | rfl | exact bI_nar | decide) ?_
        first
          | (have hq : fThO r nt np (nI t) (nI w) = sWear r (-1) np t := by
               unfold fThO
               rw [if_neg (by assumption), if_neg (by assumption), if_pos y6]
               rw [jI_nat (k := t) (by omega)]
             exact ⟨_, _, rfl, rfl, (rfl).trans hq.symm⟩)
          | (have hq : fThO r nt np (nI t) (nI w) = r (14 + 6 * t + w) := by
               unfold fThO
               rw [if_neg (by assumption), if_neg (by assumption), if_neg n6]
               rw [jI_nat (k := t) (by omega)]
               rw [jI_nat (k := w) (by omega)]
             exact ⟨_, _, rfl, rfl, (rfl).trans hq.symm⟩)
      · have y6 := h3
        refine x_aload_n hm rfl rfl ?_
        refine x_iload_n hm rfl rfl ?_
        refine x_callV hm rfl rfl (e140 hW hnp hp8 (by omega)) ?_
        rw [h67, h6]
        refine x_goto hm rfl (t := 45) rfl ?_
        refine x_iret hm rfl rfl (by first | rfl | exact bI_nar | decide) ?_
        first
          | (have hq : fThO r nt np (nI t) (nI w) = sWear r (-1) np t := by
               unfold fThO
               rw [if_neg (by assumption), if_neg (by assumption), if_pos y6]
               rw [jI_nat (k := t) (by omega)]
             exact ⟨_, _, rfl, rfl, (rfl).trans hq.symm⟩)
          | (have hq : fThO r nt np (nI t) (nI w) = r (14 + 6 * t + w) := by
               unfold fThO
               rw [if_neg (by assumption), if_neg (by assumption), if_neg n6]
               rw [jI_nat (k := t) (by omega)]
               rw [jI_nat (k := w) (by omega)]
             exact ⟨_, _, rfl, rfl, (rfl).trans hq.symm⟩)
    · refine x_aload_n hm rfl rfl ?_
      refine x_ldcI hm rfl (v := (-1000001 : Int32)) (by decide +kernel) ?_
      refine x_callV hm rfl rfl (e135 (by decide +kernel)) ?_
      refine x_iret hm rfl rfl (by first | rfl | exact bI_nar | decide) ?_
      first
        | (have hq : fThO r nt np a1 a2 = -1000001 := by
             unfold fThO
             rw [if_pos (by assumption)]
           exact ⟨_, _, rfl, rfl, hq.symm⟩)
        | (have hq : fThO r nt np (nI t) a2 = -1000001 := by
             unfold fThO
             rw [if_neg (by assumption), if_pos (by assumption)]
           exact ⟨_, _, rfl, rfl, hq.symm⟩)
theorem gv24 {a1 a2 : Int32} (hR : Rel 1 nt np M r) (hG : Gd nt np r) (hc : M 1 7 = -1) : ∃ v M', mT X 24 [.ref 0, .int a1, .int a2] (con M) (some (.int v)) (con M') ∧ v = fOf r nt np a1 a2 := by
  refine ti_of (row := _) rfl (Nat.le_of_ble_eq_true rfl) ?_
  have hm : mMet 24 = some _ := rfl
  have hV := hG.2.2.1
  have hn8 := hV.1
  have hp8 := hV.2.1
  refine x_aload_n hm rfl rfl ?_
  refine x_getf hm rfl (gR rfl rfl) ?_
  refine x_iload_n hm rfl rfl ?_
  refine x_callV hm rfl rfl (t19 (by decide)) ?_
  rw [hR.2.1]
  refine x_if_eq hm rfl (t := 21) rfl (fun h1 => ?_) (fun h1 => ?_)
  · refine x_aload_n hm rfl rfl ?_
    refine x_ldcI hm rfl (v := (-1000001 : Int32)) (by decide +kernel) ?_
    refine x_cVi hm rfl rfl (t7 (by decide +kernel)) (fun v2 M2 r2 => ?_)
    refine x_iret hm rfl rfl (by first | rfl | exact bI_nar | decide) ?_
    first
      | (have hq : fOf r nt np a1 a2 = -1000001 := by
           unfold fOf
           rw [if_pos (by assumption)]
         exact ⟨_, _, rfl, rfl, r2.1.trans hq.symm⟩)
      | (have hq : fOf r nt np (nI p) a2 = -1000001 := by
           unfold fOf
           rw [if_neg (by assumption), if_pos (by assumption)]
         exact ⟨_, _, rfl, rfl, r2.1.trans hq.symm⟩)
  · obtain ⟨p, hp, rfl⟩ := in_k rfl (by omega) (bI_ne0 h1)
    refine x_iload_n hm rfl rfl ?_
    refine x_iconst hm rfl (v := nI 0) (by decide) ?_
    refine x_bipush hm rfl (v := nI 7) (by decide) ?_
    refine x_callS hm rfl rfl (t6) ?_
    refine x_if_ne hm rfl (t := 28) rfl (fun h3 => ?_) (fun h3 => ?_)
    · obtain ⟨w, hw, rfl⟩ := le_k (by omega) (bI_ne0 h3)
      refine x_iload_n hm rfl rfl ?_
      refine x_bipush hm rfl (v := nI 7) (by decide) ?_
      refine x_icmp_ne hm rfl (t := 45) rfl (fun h4 => ?_) (fun h4 => ?_)
      · have n6 := h4
        have hw6 : w ≠ 7 := fun e => h4 (by rw [e])
        refine x_aload_n hm rfl rfl ?_
        refine x_getf hm rfl (gR rfl rfl) ?_
        refine x_getf hm rfl (gR rfl rfl) ?_
        refine x_iload_n hm rfl rfl ?_
        refine x_aald hm rfl (lQ 3 (Or.inr (Or.inl rfl)) (tF (b := 1) (by decide)) (tFk (by omega)) (by omega) (by decide)) ?_
        refine x_iload_n hm rfl rfl ?_
        refine x_iald hm rfl (lI (tRowF (b := 1) (by decide) (by omega)) (by omega) (by decide)) ?_
        refine x_iret hm rfl rfl (by first | rfl | exact bI_nar | decide) ?_
        first
          | (have hq : fOf r nt np (nI p) (nI w) = sOwned r (nI p) nt := by
               unfold fOf
               rw [if_neg (by assumption), if_neg (by assumption), if_pos y6]
             exact ⟨_, _, rfl, rfl, (rfl).trans hq.symm⟩)
          | (have hq : fOf r nt np (nI p) (nI w) = r (62 + 7 * p + w) := by
               unfold fOf
               rw [if_neg (by assumption), if_neg (by assumption), if_neg n6]
               rw [jI_nat (k := p) (by omega)]
               rw [jI_nat (k := w) (by omega)]
             exact ⟨_, _, rfl, rfl, (hR.folk (by omega) hp).trans hq.symm⟩)
      · have y6 := h4
        refine x_aload_n hm rfl rfl ?_
        refine x_getf hm rfl (gR rfl rfl) ?_
        refine x_iload_n hm rfl rfl ?_
        refine x_callV hm rfl rfl (e25 (by decide) hR hV) ?_
        refine x_goto hm rfl (t := 56) rfl ?_
        refine x_iret hm rfl rfl (by first | rfl | exact bI_nar | decide) ?_
        first
          | (have hq : fOf r nt np (nI p) (nI w) = sOwned r (nI p) nt := by
               unfold fOf
               rw [if_neg (by assumption), if_neg (by assumption), if_pos y6]
             exact ⟨_, _, rfl, rfl, (rfl).trans hq.symm⟩)
          | (have hq : fOf r nt np (nI p) (nI w) = r (62 + 7 * p + w) := by
               unfold fOf
               rw [if_neg (by assumption), if_neg (by assumption), if_neg n6]
               rw [jI_nat (k := p) (by omega)]
               rw [jI_nat (k := w) (by omega)]
             exact ⟨_, _, rfl, rfl, (hR.folk (by omega) hp).trans hq.symm⟩)
    · refine x_aload_n hm rfl rfl ?_
      refine x_ldcI hm rfl (v := (-1000001 : Int32)) (by decide +kernel) ?_
      refine x_cVi hm rfl rfl (t7 (by decide +kernel)) (fun v5 M5 r5 => ?_)
      refine x_iret hm rfl rfl (by first | rfl | exact bI_nar | decide) ?_
      first
        | (have hq : fOf r nt np a1 a2 = -1000001 := by
             unfold fOf
             rw [if_pos (by assumption)]
           exact ⟨_, _, rfl, rfl, r5.1.trans hq.symm⟩)
        | (have hq : fOf r nt np (nI p) a2 = -1000001 := by
             unfold fOf
             rw [if_neg (by assumption), if_pos (by assumption)]
           exact ⟨_, _, rfl, rfl, r5.1.trans hq.symm⟩)
theorem gr159 {a1 a2 : Int32} (hI : Inv M) (h67 : M 67 = r) (hG : Gd nt np r) (h6 : M 66 6 = -1) : ∃ v M', mT X 159 [.ref 66, .int a1, .int a2] (con M) (some (.int v)) (con M') ∧ v = fOf r nt np a1 a2 := by
  refine ti_of (row := _) rfl (Nat.le_of_ble_eq_true rfl) ?_
  have hm : mMet 159 = some _ := rfl
  have hV := hG.2.2.1
  have hn8 := hV.1
  have hp8 := hV.2.1
  have hW := hI.1
  have hnt : M 67 1 = nI nt := (congrFun h67 1).trans hG.1
  have hnp : M 67 2 = nI np := (congrFun h67 2).trans hG.2.1
  refine x_aload_n hm rfl rfl ?_
  refine x_iload_n hm rfl rfl ?_
  refine x_callV hm rfl rfl (t153) ?_
  rw [hnp]
  refine x_if_eq hm rfl (t := 18) rfl (fun h1 => ?_) (fun h1 => ?_)
  · refine x_aload_n hm rfl rfl ?_
    refine x_ldcI hm rfl (v := (-1000001 : Int32)) (by decide +kernel) ?_
    refine x_callV hm rfl rfl (e135 (by decide +kernel)) ?_
    refine x_iret hm rfl rfl (by first | rfl | exact bI_nar | decide) ?_
    first
      | (have hq : fOf r nt np a1 a2 = -1000001 := by
           unfold fOf
           rw [if_pos (by assumption)]
         exact ⟨_, _, rfl, rfl, hq.symm⟩)
      | (have hq : fOf r nt np (nI p) a2 = -1000001 := by
           unfold fOf
           rw [if_neg (by assumption), if_pos (by assumption)]
         exact ⟨_, _, rfl, rfl, hq.symm⟩)
  · obtain ⟨p, hp, rfl⟩ := in_k rfl (by omega) (bI_ne0 h1)
    refine x_iload_n hm rfl rfl ?_
    refine x_iconst hm rfl (v := nI 0) (by decide) ?_
    refine x_bipush hm rfl (v := nI 7) (by decide) ?_
    refine x_callS hm rfl rfl (t133) ?_
    refine x_if_ne hm rfl (t := 25) rfl (fun h2 => ?_) (fun h2 => ?_)
    · obtain ⟨w, hw, rfl⟩ := le_k (by omega) (bI_ne0 h2)
      refine x_iload_n hm rfl rfl ?_
      refine x_bipush hm rfl (v := nI 7) (by decide) ?_
      refine x_icmp_ne hm rfl (t := 39) rfl (fun h3 => ?_) (fun h3 => ?_)
      · have n6 := h3
        have hw6 : w ≠ 7 := fun e => h3 (by rw [e])
        refine x_aload_n hm rfl rfl ?_
        refine x_iload_n hm rfl rfl ?_
        refine x_iload_n hm rfl rfl ?_
        refine x_callV hm rfl rfl (t141 (by omega) (by omega)) ?_
        rw [h67]
        refine x_iret hm rfl rfl (by first | rfl | exact bI_nar | decide) ?_
        first
          | (have hq : fOf r nt np (nI p) (nI w) = sOwned r (nI p) nt := by
               unfold fOf
               rw [if_neg (by assumption), if_neg (by assumption), if_pos y6]
             exact ⟨_, _, rfl, rfl, (rfl).trans hq.symm⟩)
          | (have hq : fOf r nt np (nI p) (nI w) = r (62 + 7 * p + w) := by
               unfold fOf
               rw [if_neg (by assumption), if_neg (by assumption), if_neg n6]
               rw [jI_nat (k := p) (by omega)]
               rw [jI_nat (k := w) (by omega)]
             exact ⟨_, _, rfl, rfl, (rfl).trans hq.symm⟩)
      · have y6 := h3
        refine x_aload_n hm rfl rfl ?_
        refine x_iload_n hm rfl rfl ?_
        refine x_callV hm rfl rfl (e160 hnt hn8) ?_
        rw [h67]
        refine x_goto hm rfl (t := 45) rfl ?_
        refine x_iret hm rfl rfl (by first | rfl | exact bI_nar | decide) ?_
        first
          | (have hq : fOf r nt np (nI p) (nI w) = sOwned r (nI p) nt := by
               unfold fOf
               rw [if_neg (by assumption), if_neg (by assumption), if_pos y6]
             exact ⟨_, _, rfl, rfl, (rfl).trans hq.symm⟩)
          | (have hq : fOf r nt np (nI p) (nI w) = r (62 + 7 * p + w) := by
               unfold fOf
               rw [if_neg (by assumption), if_neg (by assumption), if_neg n6]
               rw [jI_nat (k := p) (by omega)]
               rw [jI_nat (k := w) (by omega)]
             exact ⟨_, _, rfl, rfl, (rfl).trans hq.symm⟩)
    · refine x_aload_n hm rfl rfl ?_
      refine x_ldcI hm rfl (v := (-1000001 : Int32)) (by decide +kernel) ?_
      refine x_callV hm rfl rfl (e135 (by decide +kernel)) ?_
      refine x_iret hm rfl rfl (by first | rfl | exact bI_nar | decide) ?_
      first
        | (have hq : fOf r nt np a1 a2 = -1000001 := by
             unfold fOf
             rw [if_pos (by assumption)]
           exact ⟨_, _, rfl, rfl, hq.symm⟩)
        | (have hq : fOf r nt np (nI p) a2 = -1000001 := by
             unfold fOf
             rw [if_neg (by assumption), if_pos (by assumption)]
           exact ⟨_, _, rfl, rfl, hq.symm⟩)
theorem gv28 {a1 a2 : Int32} (hR : Rel 1 nt np M r) (hG : Gd nt np r) (hc : M 1 7 = -1) : ∃ v M', mT X 28 [.ref 0, .int a1, .int a2] (con M) (some (.int v)) (con M') ∧ v = fEnvy r nt np a1 a2 := by
  refine ti_of (row := _) rfl (Nat.le_of_ble_eq_true rfl) ?_
  have hm : mMet 28 = some _ := rfl
  have hV := hG.2.2.1
  have hn8 := hV.1
  have hp8 := hV.2.1
  refine x_aload_n hm rfl rfl ?_
  refine x_getf hm rfl (gR rfl rfl) ?_
  refine x_iload_n hm rfl rfl ?_
  refine x_callV hm rfl rfl (t19 (by decide)) ?_
  rw [hR.2.1]
  refine x_if_eq hm rfl (t := 22) rfl (fun h1 => ?_) (fun h1 => ?_)
  · refine x_aload_n hm rfl rfl ?_
    refine x_ldcI hm rfl (v := (-1000001 : Int32)) (by decide +kernel) ?_
    refine x_cVi hm rfl rfl (t7 (by decide +kernel)) (fun v2 M2 r2 => ?_)
    refine x_iret hm rfl rfl (by first | rfl | exact bI_nar | decide) ?_
    first
      | (have hq : fEnvy r nt np a1 a2 = -1000001 := by
           unfold fEnvy
           rw [if_pos (by assumption)]
         exact ⟨_, _, rfl, rfl, r2.1.trans hq.symm⟩)
      | (have hq : fEnvy r nt np (nI p) a2 = -1000001 := by
           unfold fEnvy
           rw [if_neg (by assumption), if_pos (by assumption)]
         exact ⟨_, _, rfl, rfl, r2.1.trans hq.symm⟩)
  · obtain ⟨p, hp, rfl⟩ := in_k rfl (by omega) (bI_ne0 h1)
    refine x_aload_n hm rfl rfl ?_
    refine x_getf hm rfl (gR rfl rfl) ?_
    refine x_iload_n hm rfl rfl ?_
    refine x_callV hm rfl rfl (t10 (by decide)) ?_
    rw [hR.1]
    refine x_if_ne hm rfl (t := 29) rfl (fun h3 => ?_) (fun h3 => ?_)
    · obtain ⟨t, ht, rfl⟩ := in_k rfl (by omega) (bI_ne0 h3)
      refine x_aload_n hm rfl rfl ?_
      refine x_getf hm rfl (gR rfl rfl) ?_
      refine x_iload_n hm rfl rfl ?_
      refine x_iload_n hm rfl rfl ?_
      refine x_callV hm rfl rfl (e12 (by decide) hR hV hp ht) ?_
      rw [hc]
      refine x_iret hm rfl rfl (by first | rfl | exact bI_nar | decide) ?_
      have hq : fEnvy r nt np (nI p) (nI t) = sEnv r (-1) (r (14 + 6 * t + 4)) p t := by
        unfold fEnvy
        rw [if_neg (by assumption), if_neg (by assumption)]
        rw [jI_nat (k := t) (by omega)]
        rw [jI_nat (k := p) (by omega)]
      exact ⟨_, _, rfl, rfl, (rfl).trans hq.symm⟩
    · refine x_aload_n hm rfl rfl ?_
      refine x_ldcI hm rfl (v := (-1000001 : Int32)) (by decide +kernel) ?_
      refine x_cVi hm rfl rfl (t7 (by decide +kernel)) (fun v4 M4 r4 => ?_)
      refine x_iret hm rfl rfl (by first | rfl | exact bI_nar | decide) ?_
      first
        | (have hq : fEnvy r nt np a1 a2 = -1000001 := by
             unfold fEnvy
             rw [if_pos (by assumption)]
           exact ⟨_, _, rfl, rfl, r4.1.trans hq.symm⟩)
        | (have hq : fEnvy r nt np (nI p) a2 = -1000001 := by
             unfold fEnvy
             rw [if_neg (by assumption), if_pos (by assumption)]
           exact ⟨_, _, rfl, rfl, r4.1.trans hq.symm⟩)
theorem gr162 {a1 a2 : Int32} (hI : Inv M) (h67 : M 67 = r) (hG : Gd nt np r) (h6 : M 66 6 = -1) : ∃ v M', mT X 162 [.ref 66, .int a1, .int a2] (con M) (some (.int v)) (con M') ∧ v = fEnvy r nt np a1 a2 := by
  refine ti_of (row := _) rfl (Nat.le_of_ble_eq_true rfl) ?_
  have hm : mMet 162 = some _ := rfl
  have hV := hG.2.2.1
  have hn8 := hV.1
  have hp8 := hV.2.1
  have hW := hI.1
  have hnt : M 67 1 = nI nt := (congrFun h67 1).trans hG.1
  have hnp : M 67 2 = nI np := (congrFun h67 2).trans hG.2.1
  refine x_aload_n hm rfl rfl ?_
  refine x_iload_n hm rfl rfl ?_
  refine x_callV hm rfl rfl (t153) ?_
  rw [hnp]
  refine x_if_eq hm rfl (t := 25) rfl (fun h1 => ?_) (fun h1 => ?_)
  · refine x_aload_n hm rfl rfl ?_
    refine x_ldcI hm rfl (v := (-1000001 : Int32)) (by decide +kernel) ?_
    refine x_callV hm rfl rfl (e135 (by decide +kernel)) ?_
    refine x_iret hm rfl rfl (by first | rfl | exact bI_nar | decide) ?_
    first
      | (have hq : fEnvy r nt np a1 a2 = -1000001 := by
           unfold fEnvy
           rw [if_pos (by assumption)]
         exact ⟨_, _, rfl, rfl, hq.symm⟩)
      | (have hq : fEnvy r nt np (nI p) a2 = -1000001 := by
           unfold fEnvy
           rw [if_neg (by assumption), if_pos (by assumption)]
         exact ⟨_, _, rfl, rfl, hq.symm⟩)
      | (have hq : fEnvy r nt np (nI p) (nI t) = sEnv r (-1) (r (14 + 6 * t + 4)) p t := by
           unfold fEnvy
           rw [if_neg (by assumption), if_neg (by assumption)]
           rw [jI_nat (k := t) (by omega)]
           rw [jI_nat (k := p) (by omega)]
         exact ⟨_, _, rfl, rfl, (rfl).trans hq.symm⟩)
  · obtain ⟨p, hp, rfl⟩ := in_k rfl (by omega) (bI_ne0 h1)
    refine x_aload_n hm rfl rfl ?_
    refine x_iload_n hm rfl rfl ?_
    refine x_callV hm rfl rfl (t139) ?_
    rw [hnt]
    refine x_if_eq hm rfl (t := 25) rfl (fun h2 => ?_) (fun h2 => ?_)
    · refine x_aload_n hm rfl rfl ?_
      refine x_ldcI hm rfl (v := (-1000001 : Int32)) (by decide +kernel) ?_
      refine x_callV hm rfl rfl (e135 (by decide +kernel)) ?_
      refine x_iret hm rfl rfl (by first | rfl | exact bI_nar | decide) ?_
      first
        | (have hq : fEnvy r nt np a1 a2 = -1000001 := by
             unfold fEnvy
             rw [if_pos (by assumption)]
           exact ⟨_, _, rfl, rfl, hq.symm⟩)
        | (have hq : fEnvy r nt np (nI p) a2 = -1000001 := by
             unfold fEnvy
             rw [if_neg (by assumption), if_pos (by assumption)]
           exact ⟨_, _, rfl, rfl, hq.symm⟩)
        | (have hq : fEnvy r nt np (nI p) (nI t) = sEnv r (-1) (r (14 + 6 * t + 4)) p t := by
             unfold fEnvy
             rw [if_neg (by assumption), if_neg (by assumption)]
             rw [jI_nat (k := t) (by omega)]
             rw [jI_nat (k := p) (by omega)]
           exact ⟨_, _, rfl, rfl, (rfl).trans hq.symm⟩)
    · obtain ⟨t, ht, rfl⟩ := in_k rfl (by omega) (bI_ne0 h2)
      refine x_aload_n hm rfl rfl ?_
      refine x_iload_n hm rfl rfl ?_
      refine x_iload_n hm rfl rfl ?_
      refine x_callV hm rfl rfl (e144 hW (by omega) (by omega)) ?_
      rw [h67, h6]
      refine x_goto hm rfl (t := 31) rfl ?_
      refine x_iret hm rfl rfl (by first | rfl | exact bI_nar | decide) ?_
      first
        | (have hq : fEnvy r nt np a1 a2 = -1000001 := by
             unfold fEnvy
             rw [if_pos (by assumption)]
           exact ⟨_, _, rfl, rfl, hq.symm⟩)
        | (have hq : fEnvy r nt np (nI p) a2 = -1000001 := by
             unfold fEnvy
             rw [if_neg (by assumption), if_pos (by assumption)]
           exact ⟨_, _, rfl, rfl, hq.symm⟩)
        | (have hq : fEnvy r nt np (nI p) (nI t) = sEnv r (-1) (r (14 + 6 * t + 4)) p t := by
             unfold fEnvy
             rw [if_neg (by assumption), if_neg (by assumption)]
             rw [jI_nat (k := t) (by omega)]
             rw [jI_nat (k := p) (by omega)]
           exact ⟨_, _, rfl, rfl, (rfl).trans hq.symm⟩)
theorem gv60 {a1 : Int32} (hR : Rel 1 nt np M r) (hG : Gd nt np r) (hc : M 1 7 = -1) : ∃ v M', mT X 60 [.ref 0, .int a1] (con M) (some (.int v)) (con M') ∧ v = fFw r nt np a1 := by
  refine ti_of (row := _) rfl (Nat.le_of_ble_eq_true rfl) ?_
  have hm : mMet 60 = some _ := rfl
  have hV := hG.2.2.1
  have hn8 := hV.1
  have hp8 := hV.2.1
  refine x_aload_n hm rfl rfl ?_
  refine x_getf hm rfl (gR rfl rfl) ?_
  refine x_iload_n hm rfl rfl ?_
  refine x_callV hm rfl rfl (t10 (by decide)) ?_
  rw [hR.1]
  refine x_if_eq hm rfl (t := 22) rfl (fun h1 => ?_) (fun h1 => ?_)
  · refine x_aload_n hm rfl rfl ?_
    refine x_ldcI hm rfl (v := (-1000001 : Int32)) (by decide +kernel) ?_
    refine x_cVi hm rfl rfl (t7 (by decide +kernel)) (fun v2 M2 r2 => ?_)
    refine x_iret hm rfl rfl (by first | rfl | exact bI_nar | decide) ?_
    first
      | (have hq : fFw r nt np a1 = -1000001 := by
           unfold fFw
           rw [if_pos (by assumption)]
         exact ⟨_, _, rfl, rfl, r2.1.trans hq.symm⟩)
      | (have hq : fFw r nt np (nI t) = nI (wS (Rch r t) nt) := by
           unfold fFw
           rw [if_neg (by assumption)]
           rw [jI_nat (k := t) (by omega)]
         exact ⟨_, _, rfl, rfl, (rfl).trans hq.symm⟩)
  · obtain ⟨t, ht, rfl⟩ := in_k rfl (by omega) (bI_ne0 h1)
    refine x_aload_n hm rfl rfl ?_
    refine x_getf hm rfl (gR rfl rfl) ?_
    refine x_iload_n hm rfl rfl ?_
    refine x_callV hm rfl rfl (g20 (by decide) hR hV ht) ?_
    refine x_goto hm rfl (t := 28) rfl ?_
    refine x_iret hm rfl rfl (by first | rfl | exact bI_nar | decide) ?_
    first
      | (have hq : fFw r nt np (nI t) = nI (wS (Rch r t) nt) := by
           unfold fFw
           rw [if_neg (by assumption)]
           rw [jI_nat (k := t) (by omega)]
         exact ⟨_, _, rfl, rfl, (rfl).trans hq.symm⟩)
      | (have hq : fFw r nt np a1 = -1000001 := by
           unfold fFw
           rw [if_pos (by assumption)]
         exact ⟨_, _, rfl, rfl, r0.1.trans hq.symm⟩)
theorem gr193 {a1 : Int32} (hI : Inv M) (h67 : M 67 = r) (hG : Gd nt np r) (h6 : M 66 6 = -1) : ∃ v M', mT X 193 [.ref 66, .int a1] (con M) (some (.int v)) (con M') ∧ v = fFw r nt np a1 := by
  refine ti_of (row := _) rfl (Nat.le_of_ble_eq_true rfl) ?_
  have hm : mMet 193 = some _ := rfl
  have hV := hG.2.2.1
  have hn8 := hV.1
  have hp8 := hV.2.1
  have hW := hI.1
  have hnt : M 67 1 = nI nt := (congrFun h67 1).trans hG.1
  have hnp : M 67 2 = nI np := (congrFun h67 2).trans hG.2.1
  refine x_aload_n hm rfl rfl ?_
  refine x_iload_n hm rfl rfl ?_
  refine x_callV hm rfl rfl (t139) ?_
  rw [hnt]
  refine x_if_eq hm rfl (t := 16) rfl (fun h1 => ?_) (fun h1 => ?_)
  · refine x_aload_n hm rfl rfl ?_
    refine x_ldcI hm rfl (v := (-1000001 : Int32)) (by decide +kernel) ?_
    refine x_callV hm rfl rfl (e135 (by decide +kernel)) ?_
    refine x_iret hm rfl rfl (by first | rfl | exact bI_nar | decide) ?_
    first
      | (have hq : fFw r nt np a1 = -1000001 := by
           unfold fFw
           rw [if_pos (by assumption)]
         exact ⟨_, _, rfl, rfl, hq.symm⟩)
      | (have hq : fFw r nt np (nI t) = nI (wS (Rch r t) nt) := by
           unfold fFw
           rw [if_neg (by assumption)]
           rw [jI_nat (k := t) (by omega)]
         exact ⟨_, _, rfl, rfl, (rfl).trans hq.symm⟩)
  · obtain ⟨t, ht, rfl⟩ := in_k rfl (by omega) (bI_ne0 h1)
    refine x_aload_n hm rfl rfl ?_
    refine x_iload_n hm rfl rfl ?_
    refine x_callV hm rfl rfl (e194 hI (by omega) hnt hn8) ?_
    rw [h67]
    refine x_goto hm rfl (t := 22) rfl ?_
    refine x_iret hm rfl rfl (by first | rfl | exact bI_nar | decide) ?_
    first
      | (have hq : fFw r nt np a1 = -1000001 := by
           unfold fFw
           rw [if_pos (by assumption)]
         exact ⟨_, _, rfl, rfl, hq.symm⟩)
      | (have hq : fFw r nt np (nI t) = nI (wS (Rch r t) nt) := by
           unfold fFw
           rw [if_neg (by assumption)]
           rw [jI_nat (k := t) (by omega)]
         exact ⟨_, _, rfl, rfl, (rfl).trans hq.symm⟩)
theorem ev_qxi {v : Int32} {m pc : Nat} {L : mLoc} {st : List Value} {D : mHp} (h : mEv X (fun z D => z = some (.int v) ∧ D = con M) m pc L st D) : mEv X (QI (fun w _ => w = v)) m pc L st D := ev_mono h (fun z D' ⟨g1, g2⟩ => ⟨v, M, g1, g2, rfl⟩)
theorem gv64l (hR : Rel 1 nt np M r) (hV : Vs nt np r) : ∀ (n k : Nat) (s : Int32), nt - k < n → k ≤ nt → s = fFells r k → mEv X (fun z D => z = some (.int (fFells r nt)) ∧ D = con M) 64 4 [some (.ref 0), some (.int s), some (.int (nI k))] [] (con M) := by
  have hm : mMet 64 = some _ := rfl
  intro n
  induction n with
  | zero =>
    intro k s hkn hkb hs
    omega
  | succ n ih =>
    intro k s hkn hkb hs
    have hn8 := hV.1
    have hp8 := hV.2.1
    refine x_iload_n hm rfl rfl ?_
    refine x_aload_n hm rfl rfl ?_
    refine x_getf hm rfl (gR rfl rfl) ?_
    refine x_getf hm rfl (gI rfl rfl) ?_
    rw [hR.1]
    refine x_icmp_ge hm rfl (t := 42) rfl (fun h1 => ?_) (fun h1 => ?_)
    · obtain rfl : k = nt := Nat.le_antisymm hkb ((jI_le (by omega) (by omega)).mp h1)
      refine x_iload_n hm rfl rfl ?_
      refine x_iret hm rfl rfl (by first | rfl | exact bI_nar | decide) ?_
      rw [hs]
      exact ⟨rfl, rfl⟩
    · have hk : k < nt := Nat.lt_of_not_le fun h => h1 (nI_le h (by omega))
      refine x_aload_n hm rfl rfl ?_
      refine x_getf hm rfl (gR rfl rfl) ?_
      refine x_getf hm rfl (gR rfl rfl) ?_
      refine x_iconst hm rfl (v := nI 5) (by decide) ?_
      refine x_aald hm rfl (lQ _ (by decide) rfl rfl (by omega) (by decide)) ?_
      refine x_iload_n hm rfl rfl ?_
      refine x_iald hm rfl (lI rfl (by omega) (by decide)) ?_
      rw [show M 8 k = _ from hR.on hk]
      refine x_iconst hm rfl (v := (-1 : Int32)) (by decide) ?_
      refine x_icmp_ne hm rfl (t := 36) rfl (fun h2 => ?_) (fun h2 => ?_)
      · refine x_iinc hm rfl rfl (v := nI 1) (by decide) rfl ?_
        rw [jI_add]
        refine x_goto hm rfl (t := 4) rfl ?_
        first
          | exact ih _ _ (by omega) (by omega) (by rw [hs]; exact fFe_t (by assumption))
          | exact ih _ _ (by omega) (by omega) (by rw [hs]; exact fFe_f (by assumption))
      · refine x_iload_n hm rfl rfl ?_
        refine x_iconst hm rfl (v := nI 1) (by decide) ?_
        refine x_iload_n hm rfl rfl ?_
        refine x_ishl hm rfl ?_
        refine x_ior hm rfl ?_
        refine x_istore_n hm rfl rfl ?_
        refine x_iinc hm rfl rfl (v := nI 1) (by decide) rfl ?_
        rw [jI_add]
        refine x_goto hm rfl (t := 4) rfl ?_
        first
          | exact ih _ _ (by omega) (by omega) (by rw [hs]; exact fFe_t (by assumption))
          | exact ih _ _ (by omega) (by omega) (by rw [hs]; exact fFe_f (by assumption))
theorem gv64  (hR : Rel 1 nt np M r) (hG : Gd nt np r) (hc : M 1 7 = -1) : ∃ v M', mT X 64 [.ref 0] (con M) (some (.int v)) (con M') ∧ v = fFells r nt := by
  refine ti_of (row := _) rfl (Nat.le_of_ble_eq_true rfl) ?_
  have hm : mMet 64 = some _ := rfl
  have hV := hG.2.2.1
  have hn8 := hV.1
  have hp8 := hV.2.1
  refine x_iconst hm rfl (v := nI 0) (by decide) ?_
  refine x_istore_n hm rfl rfl ?_
  refine x_iconst hm rfl (v := nI 0) (by decide) ?_
  refine x_istore_n hm rfl rfl ?_
  exact ev_qxi (gv64l hR hV _ 0 _ (Nat.lt_succ_self _) (Nat.zero_le _) rfl)
theorem gr197l (h67 : M 67 = r) (hV : Vs nt np r) (hnt : M 67 1 = nI nt) : ∀ (n k : Nat) (s : Int32), nt - k < n → k ≤ nt → s = fFells r k → mEv X (fun z D => z = some (.int (fFells r nt)) ∧ D = con M) 197 4 [some (.ref 66), some (.int s), some (.int (nI k))] [] (con M) := by
  have hm : mMet 197 = some _ := rfl
  intro n
  induction n with
  | zero =>
    intro k s hkn hkb hs
    omega
  | succ n ih =>
    intro k s hkn hkb hs
    have hn8 := hV.1
    have hp8 := hV.2.1
    refine x_iload_n hm rfl rfl ?_
    refine x_aload_n hm rfl rfl ?_
    refine x_getf hm rfl (gR rfl rfl) ?_
    refine x_iconst hm rfl (v := nI 1) (by decide) ?_
    refine x_iald hm rfl (lI rfl (by omega) (by decide)) ?_
    rw [hnt]
    refine x_icmp_ge hm rfl (t := 39) rfl (fun h1 => ?_) (fun h1 => ?_)
    · obtain rfl : k = nt := Nat.le_antisymm hkb ((jI_le (by omega) (by omega)).mp h1)
      refine x_iload_n hm rfl rfl ?_
      refine x_iret hm rfl rfl (by first | rfl | exact bI_nar | decide) ?_
      rw [hs]
      exact ⟨rfl, rfl⟩
    · have hk : k < nt := Nat.lt_of_not_le fun h => h1 (nI_le h (by omega))
      refine x_iload_n hm rfl rfl ?_
      refine x_aload_n hm rfl rfl ?_
      refine x_iload_n hm rfl rfl ?_
      refine x_iconst hm rfl (v := nI 5) (by decide) ?_
      refine x_callV hm rfl rfl (t143 (by omega) (by omega)) ?_
      rw [h67]
      refine x_if_ge hm rfl (t := 30) rfl (fun h2 => ?_) (fun h2 => ?_)
      · have h5 : ¬ r (14 + 6 * k + 5) = -1 := fun e => absurd h2 (by rw [e]; decide)
        refine x_iconst hm rfl (v := nI 0) (by decide) ?_
        refine x_ior hm rfl ?_
        refine x_istore_n hm rfl rfl ?_
        refine x_iinc hm rfl rfl (v := nI 1) (by decide) rfl ?_
        rw [jI_add]
        refine x_goto hm rfl (t := 4) rfl ?_
        first
          | exact ih _ _ (by omega) (by omega) (by rw [hs]; exact fFe_t h5)
          | exact ih _ _ (by omega) (by omega) (by rw [hs]; exact orz.symm.trans (fFe_f h5))
      · have h5 : r (14 + 6 * k + 5) = -1 := (hV.on hk).resolve_right fun ⟨w, hw, e⟩ => h2 (by rw [e]; exact Int32.not_lt.mp (jI_nn (by omega)))
        refine x_iconst hm rfl (v := nI 1) (by decide) ?_
        refine x_iload_n hm rfl rfl ?_
        refine x_ishl hm rfl ?_
        refine x_goto hm rfl (t := 31) rfl ?_
        refine x_ior hm rfl ?_
        refine x_istore_n hm rfl rfl ?_
        refine x_iinc hm rfl rfl (v := nI 1) (by decide) rfl ?_
        rw [jI_add]
        refine x_goto hm rfl (t := 4) rfl ?_
        first
          | exact ih _ _ (by omega) (by omega) (by rw [hs]; exact fFe_t h5)
          | exact ih _ _ (by omega) (by omega) (by rw [hs]; exact orz.symm.trans (fFe_f h5))
theorem gr197  (hI : Inv M) (h67 : M 67 = r) (hG : Gd nt np r) (h6 : M 66 6 = -1) : ∃ v M', mT X 197 [.ref 66] (con M) (some (.int v)) (con M') ∧ v = fFells r nt := by
  refine ti_of (row := _) rfl (Nat.le_of_ble_eq_true rfl) ?_
  have hm : mMet 197 = some _ := rfl
  have hV := hG.2.2.1
  have hn8 := hV.1
  have hp8 := hV.2.1
  have hW := hI.1
  have hnt : M 67 1 = nI nt := (congrFun h67 1).trans hG.1
  have hnp : M 67 2 = nI np := (congrFun h67 2).trans hG.2.1
  refine x_iconst hm rfl (v := nI 0) (by decide) ?_
  refine x_istore_n hm rfl rfl ?_
  refine x_iconst hm rfl (v := nI 0) (by decide) ?_
  refine x_istore_n hm rfl rfl ?_
  exact ev_qxi (gr197l h67 hV hnt _ 0 _ (Nat.lt_succ_self _) (Nat.zero_le _) rfl)
theorem gv67l {p x : Nat} (hR : Rel 1 nt np M r) (hV : Vs nt np r) (hp : p < np) (hk256 : x < 256) : ∀ (n k : Nat) (s : Int32), nt - k < n → k ≤ nt → s = sWth r p x k → mEv X (fun z D => z = some (.int (sWth r p x nt)) ∧ D = con M) 67 5 [some (.ref 1), some (.int (nI p)), some (.int (nI x)), some (.int s), some (.int (nI k))] [] (con M) := by
  have hm : mMet 67 = some _ := rfl
  intro n
  induction n with
  | zero =>
    intro k s hkn hkb hs
    omega
  | succ n ih =>
    intro k s hkn hkb hs
    have hn8 := hV.1
    have hp8 := hV.2.1
    refine x_iload hm rfl rfl ?_
    refine x_aload_n hm rfl rfl ?_
    refine x_getf hm rfl (gI rfl rfl) ?_
    rw [hR.1]
    refine x_icmp_ge hm rfl (t := 40) rfl (fun h1 => ?_) (fun h1 => ?_)
    · obtain rfl : k = nt := Nat.le_antisymm hkb ((jI_le (by omega) (by omega)).mp h1)
      refine x_iload_n hm rfl rfl ?_
      refine x_iret hm rfl rfl (by first | rfl | exact bI_nar | decide) ?_
      rw [hs]
      exact ⟨rfl, rfl⟩
    · have hk : k < nt := Nat.lt_of_not_le fun h => h1 (nI_le h (by omega))
      refine x_iload_n hm rfl rfl ?_
      refine x_iload hm rfl rfl ?_
      refine x_callS hm rfl rfl (g21 hk256 (by omega)) ?_
      refine x_if_eq hm rfl (t := 34) rfl (fun h2 => ?_) (fun h2 => ?_)
      · refine x_iinc hm rfl rfl (v := nI 1) (by decide) rfl ?_
        rw [jI_add]
        refine x_goto hm rfl (t := 5) rfl ?_
        first
          | exact ih _ _ (by omega) (by omega) (by rw [hs]; exact sWth_t (bI_ne0 (by assumption)))
          | exact ih _ _ (by omega) (by omega) (by rw [hs]; exact sWth_f (bI_eq0.mp (by assumption)))
      · refine x_iload_n hm rfl rfl ?_
        refine x_aload_n hm rfl rfl ?_
        refine x_iconst hm rfl (v := (-1 : Int32)) (by decide) ?_
        refine x_iload_n hm rfl rfl ?_
        refine x_iload hm rfl rfl ?_
        refine x_callV hm rfl rfl (e13 (by decide) hR hV hp hk (Or.inl rfl)) ?_
        rw [← sEnv_m (r := r) (p := p) (t := k) (by omega)]
        refine x_iadd hm rfl ?_
        refine x_istore_n hm rfl rfl ?_
        refine x_iinc hm rfl rfl (v := nI 1) (by decide) rfl ?_
        rw [jI_add]
        refine x_goto hm rfl (t := 5) rfl ?_
        first
          | exact ih _ _ (by omega) (by omega) (by rw [hs]; exact sWth_t (bI_ne0 (by assumption)))
          | exact ih _ _ (by omega) (by omega) (by rw [hs]; exact sWth_f (bI_eq0.mp (by assumption)))
theorem gv67 {p x : Nat} (hR : Rel 1 nt np M r) (hV : Vs nt np r) (hp : p < np) (hk256 : x < 256) : mT X 67 [.ref 1, .int (nI p), .int (nI x)] (con M) (some (.int (sWth r p x nt))) (con M) := by
  refine mT.of (row := _) rfl (Nat.le_of_ble_eq_true rfl) ?_
  have hm : mMet 67 = some _ := rfl
  refine x_iconst hm rfl (v := nI 0) (by decide) ?_
  refine x_istore_n hm rfl rfl ?_
  refine x_iconst hm rfl (v := nI 0) (by decide) ?_
  refine x_istore hm rfl rfl ?_
  exact gv67l hR hV hp hk256 _ 0 _ (Nat.lt_succ_self _) (Nat.zero_le _) rfl
theorem gv65 {a1 a2 : Int32} (hR : Rel 1 nt np M r) (hG : Gd nt np r) (hc : M 1 7 = -1) : ∃ v M', mT X 65 [.ref 0, .int a1, .int a2] (con M) (some (.int v)) (con M') ∧ v = fWorth r nt np a1 a2 := by
  refine ti_of (row := _) rfl (Nat.le_of_ble_eq_true rfl) ?_
  have hm : mMet 65 = some _ := rfl
  have hV := hG.2.2.1
  have hn8 := hV.1
  have hp8 := hV.2.1
  refine x_aload_n hm rfl rfl ?_
  refine x_getf hm rfl (gR rfl rfl) ?_
  refine x_iload_n hm rfl rfl ?_
  refine x_callV hm rfl rfl (t19 (by decide)) ?_
  rw [hR.2.1]
  refine x_if_eq hm rfl (t := 22) rfl (fun h1 => ?_) (fun h1 => ?_)
  · refine x_aload_n hm rfl rfl ?_
    refine x_ldcI hm rfl (v := (-1000001 : Int32)) (by decide +kernel) ?_
    refine x_cVi hm rfl rfl (t7 (by decide +kernel)) (fun v2 M2 r2 => ?_)
    refine x_iret hm rfl rfl (by first | rfl | exact bI_nar | decide) ?_
    first
      | (have hq : fWorth r nt np a1 a2 = -1000001 := by
           unfold fWorth
           rw [if_pos (by assumption)]
         exact ⟨_, _, rfl, rfl, r2.1.trans hq.symm⟩)
      | (have hq : fWorth r nt np (nI p) a2 = -1000001 := by
           unfold fWorth
           rw [if_neg (by assumption), if_pos (by assumption)]
         exact ⟨_, _, rfl, rfl, r2.1.trans hq.symm⟩)
  · obtain ⟨p, hp, rfl⟩ := in_k rfl (by omega) (bI_ne0 h1)
    refine x_aload_n hm rfl rfl ?_
    refine x_getf hm rfl (gR rfl rfl) ?_
    refine x_iload_n hm rfl rfl ?_
    refine x_callV hm rfl rfl (t66 (by decide) hR.1 hn8) ?_
    refine x_if_ne hm rfl (t := 29) rfl (fun h3 => ?_) (fun h3 => ?_)
    · obtain ⟨x, hx, rfl⟩ := set_k hn8 (bI_ne0 h3)
      refine x_aload_n hm rfl rfl ?_
      refine x_getf hm rfl (gR rfl rfl) ?_
      refine x_iload_n hm rfl rfl ?_
      refine x_iload_n hm rfl rfl ?_
      refine x_callV hm rfl rfl (gv67 hR hV hp (by have := pow_k hn8; omega)) ?_
      refine x_iret hm rfl rfl (by first | rfl | exact bI_nar | decide) ?_
      have hx256 := pow_k hn8
      have hq : fWorth r nt np (nI p) (nI x) = sWth r p x nt := by
        unfold fWorth
        rw [if_neg (by assumption), if_neg (by assumption)]
        rw [jI_nat (k := p) (by omega)]
        rw [jI_nat (k := x) (by omega)]
      exact ⟨_, _, rfl, rfl, (rfl).trans hq.symm⟩
    · refine x_aload_n hm rfl rfl ?_
      refine x_ldcI hm rfl (v := (-1000001 : Int32)) (by decide +kernel) ?_
      refine x_cVi hm rfl rfl (t7 (by decide +kernel)) (fun v4 M4 r4 => ?_)
      refine x_iret hm rfl rfl (by first | rfl | exact bI_nar | decide) ?_
      first
        | (have hq : fWorth r nt np a1 a2 = -1000001 := by
             unfold fWorth
             rw [if_pos (by assumption)]
           exact ⟨_, _, rfl, rfl, r4.1.trans hq.symm⟩)
        | (have hq : fWorth r nt np (nI p) a2 = -1000001 := by
             unfold fWorth
             rw [if_neg (by assumption), if_pos (by assumption)]
           exact ⟨_, _, rfl, rfl, r4.1.trans hq.symm⟩)
theorem gr200l {p x : Nat} (hW : Wf M) (h6 : M 66 6 = -1) (h67 : M 67 = r) (hV : Vs nt np r) (hnt : M 67 1 = nI nt) (hp : p < np) (hk256 : x < 256) : ∀ (n k : Nat) (s : Int32), nt - k < n → k ≤ nt → s = sWth r p x k → mEv X (fun z D => z = some (.int (sWth r p x nt)) ∧ D = con M) 200 5 [some (.ref 66), some (.int (nI p)), some (.int (nI x)), some (.int s), some (.int (nI k))] [] (con M) := by
  have hm : mMet 200 = some _ := rfl
  intro n
  induction n with
  | zero =>
    intro k s hkn hkb hs
    omega
  | succ n ih =>
    intro k s hkn hkb hs
    have hn8 := hV.1
    have hp8 := hV.2.1
    refine x_iload hm rfl rfl ?_
    refine x_aload_n hm rfl rfl ?_
    refine x_getf hm rfl (gR rfl rfl) ?_
    refine x_iconst hm rfl (v := nI 1) (by decide) ?_
    refine x_iald hm rfl (lI rfl (by omega) (by decide)) ?_
    rw [hnt]
    refine x_icmp_ge hm rfl (t := 46) rfl (fun h1 => ?_) (fun h1 => ?_)
    · obtain rfl : k = nt := Nat.le_antisymm hkb ((jI_le (by omega) (by omega)).mp h1)
      refine x_iload_n hm rfl rfl ?_
      refine x_iret hm rfl rfl (by first | rfl | exact bI_nar | decide) ?_
      rw [hs]
      exact ⟨rfl, rfl⟩
    · have hk : k < nt := Nat.lt_of_not_le fun h => h1 (nI_le h (by omega))
      refine x_iload_n hm rfl rfl ?_
      refine x_iload_n hm rfl rfl ?_
      refine x_iload hm rfl rfl ?_
      refine x_callS hm rfl rfl (g191 (by omega) (by omega)) ?_
      refine x_if_eq hm rfl (t := 37) rfl (fun h2 => ?_) (fun h2 => ?_)
      · refine x_iconst hm rfl (v := nI 0) (by decide) ?_
        refine x_iadd hm rfl ?_
        refine x_istore_n hm rfl rfl ?_
        refine x_iinc hm rfl rfl (v := nI 1) (by decide) rfl ?_
        rw [jI_add]
        refine x_goto hm rfl (t := 5) rfl ?_
        first
          | exact ih _ _ (by omega) (by omega) (by rw [hs]; exact sWth_t (bI_ne0 (by assumption)))
          | exact ih _ _ (by omega) (by omega) (by rw [hs]; exact sWth_z (bI_eq0.mp (by assumption)))
      · refine x_aload_n hm rfl rfl ?_
        refine x_iload_n hm rfl rfl ?_
        refine x_iload hm rfl rfl ?_
        refine x_iconst hm rfl (v := (-1 : Int32)) (by decide) ?_
        refine x_callV hm rfl rfl (e145 hW (by omega) (by omega) okM1) ?_
        rw [h67, h6]
        refine x_goto hm rfl (t := 38) rfl ?_
        refine x_iadd hm rfl ?_
        refine x_istore_n hm rfl rfl ?_
        refine x_iinc hm rfl rfl (v := nI 1) (by decide) rfl ?_
        rw [jI_add]
        refine x_goto hm rfl (t := 5) rfl ?_
        first
          | exact ih _ _ (by omega) (by omega) (by rw [hs]; exact sWth_t (bI_ne0 (by assumption)))
          | exact ih _ _ (by omega) (by omega) (by rw [hs]; exact sWth_z (bI_eq0.mp (by assumption)))
theorem gr200 {p x : Nat} (hW : Wf M) (h6 : M 66 6 = -1) (h67 : M 67 = r) (hV : Vs nt np r) (hnt : M 67 1 = nI nt) (hp : p < np) (hk256 : x < 256) : mT X 200 [.ref 66, .int (nI p), .int (nI x)] (con M) (some (.int (sWth r p x nt))) (con M) := by
  refine mT.of (row := _) rfl (Nat.le_of_ble_eq_true rfl) ?_
  have hm : mMet 200 = some _ := rfl
  refine x_iconst hm rfl (v := nI 0) (by decide) ?_
  refine x_istore_n hm rfl rfl ?_
  refine x_iconst hm rfl (v := nI 0) (by decide) ?_
  refine x_istore hm rfl rfl ?_
  exact gr200l hW h6 h67 hV hnt hp hk256 _ 0 _ (Nat.lt_succ_self _) (Nat.zero_le _) rfl
theorem gr198 {a1 a2 : Int32} (hI : Inv M) (h67 : M 67 = r) (hG : Gd nt np r) (h6 : M 66 6 = -1) : ∃ v M', mT X 198 [.ref 66, .int a1, .int a2] (con M) (some (.int v)) (con M') ∧ v = fWorth r nt np a1 a2 := by
  refine ti_of (row := _) rfl (Nat.le_of_ble_eq_true rfl) ?_
  have hm : mMet 198 = some _ := rfl
  have hV := hG.2.2.1
  have hn8 := hV.1
  have hp8 := hV.2.1
  have hW := hI.1
  have hnt : M 67 1 = nI nt := (congrFun h67 1).trans hG.1
  have hnp : M 67 2 = nI np := (congrFun h67 2).trans hG.2.1
  refine x_aload_n hm rfl rfl ?_
  refine x_iload_n hm rfl rfl ?_
  refine x_callV hm rfl rfl (t153) ?_
  rw [hnp]
  refine x_if_eq hm rfl (t := 25) rfl (fun h1 => ?_) (fun h1 => ?_)
  · refine x_aload_n hm rfl rfl ?_
    refine x_ldcI hm rfl (v := (-1000001 : Int32)) (by decide +kernel) ?_
    refine x_callV hm rfl rfl (e135 (by decide +kernel)) ?_
    refine x_iret hm rfl rfl (by first | rfl | exact bI_nar | decide) ?_
    first
      | (have hq : fWorth r nt np a1 a2 = -1000001 := by
           unfold fWorth
           rw [if_pos (by assumption)]
         exact ⟨_, _, rfl, rfl, hq.symm⟩)
      | (have hq : fWorth r nt np (nI p) a2 = -1000001 := by
           unfold fWorth
           rw [if_neg (by assumption), if_pos (by assumption)]
         exact ⟨_, _, rfl, rfl, hq.symm⟩)
      | (have hx256 := pow_k hn8
         have hq : fWorth r nt np (nI p) (nI x) = sWth r p x nt := by
           unfold fWorth
           rw [if_neg (by assumption), if_neg (by assumption)]
           rw [jI_nat (k := p) (by omega)]
           rw [jI_nat (k := x) (by omega)]
         exact ⟨_, _, rfl, rfl, (rfl).trans hq.symm⟩)
  · obtain ⟨p, hp, rfl⟩ := in_k rfl (by omega) (bI_ne0 h1)
    refine x_aload_n hm rfl rfl ?_
    refine x_iload_n hm rfl rfl ?_
    refine x_callV hm rfl rfl (t199 hnt hn8) ?_
    refine x_if_eq hm rfl (t := 25) rfl (fun h2 => ?_) (fun h2 => ?_)
    · refine x_aload_n hm rfl rfl ?_
      refine x_ldcI hm rfl (v := (-1000001 : Int32)) (by decide +kernel) ?_
      refine x_callV hm rfl rfl (e135 (by decide +kernel)) ?_
      refine x_iret hm rfl rfl (by first | rfl | exact bI_nar | decide) ?_
      first
        | (have hq : fWorth r nt np a1 a2 = -1000001 := by
             unfold fWorth
             rw [if_pos (by assumption)]
           exact ⟨_, _, rfl, rfl, hq.symm⟩)
        | (have hq : fWorth r nt np (nI p) a2 = -1000001 := by
             unfold fWorth
             rw [if_neg (by assumption), if_pos (by assumption)]
           exact ⟨_, _, rfl, rfl, hq.symm⟩)
        | (have hx256 := pow_k hn8
           have hq : fWorth r nt np (nI p) (nI x) = sWth r p x nt := by
             unfold fWorth
             rw [if_neg (by assumption), if_neg (by assumption)]
             rw [jI_nat (k := p) (by omega)]
             rw [jI_nat (k := x) (by omega)]
           exact ⟨_, _, rfl, rfl, (rfl).trans hq.symm⟩)
    · obtain ⟨x, hx, rfl⟩ := set_k hn8 (bI_ne0 h2)
      refine x_aload_n hm rfl rfl ?_
      refine x_iload_n hm rfl rfl ?_
      refine x_iload_n hm rfl rfl ?_
      refine x_callV hm rfl rfl (gr200 hW h6 h67 hV hnt hp (by have := pow_k hn8; omega)) ?_
      refine x_goto hm rfl (t := 31) rfl ?_
      refine x_iret hm rfl rfl (by first | rfl | exact bI_nar | decide) ?_
      first
        | (have hq : fWorth r nt np a1 a2 = -1000001 := by
             unfold fWorth
             rw [if_pos (by assumption)]
           exact ⟨_, _, rfl, rfl, hq.symm⟩)
        | (have hq : fWorth r nt np (nI p) a2 = -1000001 := by
             unfold fWorth
             rw [if_neg (by assumption), if_pos (by assumption)]
           exact ⟨_, _, rfl, rfl, hq.symm⟩)
        | (have hx256 := pow_k hn8
           have hq : fWorth r nt np (nI p) (nI x) = sWth r p x nt := by
             unfold fWorth
             rw [if_neg (by assumption), if_neg (by assumption)]
             rw [jI_nat (k := p) (by omega)]
             rw [jI_nat (k := x) (by omega)]
           exact ⟨_, _, rfl, rfl, (rfl).trans hq.symm⟩)
theorem gv115 {a1 a2 : Int32} (hR : Rel 1 nt np M r) (hG : Gd nt np r) (hc : M 1 7 = -1) : ∃ v M', mT X 115 [.ref 0, .int a1, .int a2] (con M) (some (.int v)) (con M') ∧ v = fAs r nt np a1 a2 := by
  refine ti_of (row := _) rfl (Nat.le_of_ble_eq_true rfl) ?_
  have hm : mMet 115 = some _ := rfl
  have hV := hG.2.2.1
  have hn8 := hV.1
  have hp8 := hV.2.1
  refine x_iload_n hm rfl rfl ?_
  refine x_iconst hm rfl (v := nI 0) (by decide) ?_
  refine x_bipush hm rfl (v := nI 9) (by decide) ?_
  refine x_callS hm rfl rfl (t6) ?_
  refine x_if_eq hm rfl (t := 20) rfl (fun h1 => ?_) (fun h1 => ?_)
  · refine x_aload_n hm rfl rfl ?_
    refine x_ldcI hm rfl (v := (-1000001 : Int32)) (by decide +kernel) ?_
    refine x_cVi hm rfl rfl (t7 (by decide +kernel)) (fun v2 M2 r2 => ?_)
    refine x_iret hm rfl rfl (by first | rfl | exact bI_nar | decide) ?_
    first
      | (have hq : fAs r nt np a1 a2 = -1000001 := by
           unfold fAs
           rw [if_pos (by assumption)]
         exact ⟨_, _, rfl, rfl, r2.1.trans hq.symm⟩)
      | (have hq : fAs r nt np (nI s) a2 = -1000001 := by
           unfold fAs
           rw [if_neg (by assumption), if_pos (by assumption)]
         exact ⟨_, _, rfl, rfl, r2.1.trans hq.symm⟩)
  · obtain ⟨s, hs, rfl⟩ := le_k (by omega) (bI_ne0 h1)
    refine x_iload_n hm rfl rfl ?_
    refine x_iconst hm rfl (v := nI 0) (by decide) ?_
    refine x_bipush hm rfl (v := nI 6) (by decide) ?_
    refine x_callS hm rfl rfl (t6) ?_
    refine x_if_ne hm rfl (t := 27) rfl (fun h3 => ?_) (fun h3 => ?_)
    · refine x_aload_n hm rfl rfl ?_
      refine x_getf hm rfl (gR rfl rfl) ?_
      refine x_getf hm rfl (gR rfl rfl) ?_
      refine x_iload_n hm rfl rfl ?_
      refine x_iald hm rfl (lI rfl (by omega) (by decide)) ?_
      rw [show M 17 s = _ from hR.2.2.2.2.1 s (by omega)]
      refine x_istore_n hm rfl rfl ?_
      refine x_iload_n hm rfl rfl ?_
      refine x_iconst hm rfl (v := (-1 : Int32)) (by decide) ?_
      refine x_icmp_ne hm rfl (t := 49) rfl (fun h4 => ?_) (fun h4 => ?_)
      · have ny := h4
        obtain ⟨p, hp, ep⟩ := (hG.2.2.2.2.1 s (by omega)).resolve_left ny
        rw [ep]
        obtain ⟨kd, hkd, ekd⟩ := hV.kind hp
        refine x_aload_n hm rfl rfl ?_
        refine x_getf hm rfl (gR rfl rfl) ?_
        refine x_getf hm rfl (gR rfl rfl) ?_
        refine x_iconst hm rfl (v := nI 0) (by decide) ?_
        refine x_aald hm rfl (lQ _ (by decide) rfl rfl (by omega) (by decide)) ?_
        refine x_iload_n hm rfl rfl ?_
        refine x_iald hm rfl (lI rfl (by omega) (by decide)) ?_
        rw [show M 10 p = _ from hR.kind hp, ekd]
        refine x_iload_n hm rfl rfl ?_
        refine x_callS hm rfl rfl (e14 (by assumption)) ?_
        rw [← ekd]
        refine x_if_eq hm rfl (t := 71) rfl (fun h5 => ?_) (fun h5 => ?_)
        · have nu := bI_eq0.mp h5
          refine x_aload_n hm rfl rfl ?_
          refine x_ldcI hm rfl (v := (-1000003 : Int32)) (by decide +kernel) ?_
          refine x_cVi hm rfl rfl (t7 (by decide +kernel)) (fun v6 M6 r6 => ?_)
          refine x_iret hm rfl rfl (by first | rfl | exact bI_nar | decide) ?_
          first
            | (have hq : fAs r nt np (nI s) a2 = -1000003 := by
                 unfold fAs
                 rw [if_neg (by assumption), if_neg (by assumption)]
                 rw [jI_nat (k := s) (by omega)]
                 rw [if_neg ny, ep, jI_nat (k := p) (by omega), if_neg nu]
               exact ⟨_, _, rfl, rfl, r6.1.trans hq.symm⟩)
            | (have hq : fAs r nt np (nI s) a2 = nI p := by
                 unfold fAs
                 rw [if_neg (by assumption), if_neg (by assumption)]
                 rw [jI_nat (k := s) (by omega)]
                 rw [if_neg ny, ep, jI_nat (k := p) (by omega), if_pos yu]
               exact ⟨_, _, rfl, rfl, hq.symm⟩)
        · have yu := bI_ne0 h5
          refine x_iload_n hm rfl rfl ?_
          refine x_goto hm rfl (t := 77) rfl ?_
          refine x_iret hm rfl rfl (by first | rfl | exact bI_nar | decide) ?_
          first
            | (have hq : fAs r nt np (nI s) a2 = nI p := by
                 unfold fAs
                 rw [if_neg (by assumption), if_neg (by assumption)]
                 rw [jI_nat (k := s) (by omega)]
                 rw [if_neg ny, ep, jI_nat (k := p) (by omega), if_pos yu]
               exact ⟨_, _, rfl, rfl, hq.symm⟩)
            | (have hq : fAs r nt np (nI s) a2 = -1000003 := by
                 unfold fAs
                 rw [if_neg (by assumption), if_neg (by assumption)]
                 rw [jI_nat (k := s) (by omega)]
                 rw [if_neg ny, ep, jI_nat (k := p) (by omega), if_neg nu]
               exact ⟨_, _, rfl, rfl, r0.1.trans hq.symm⟩)
      · have ym := h4
        refine x_aload_n hm rfl rfl ?_
        refine x_ldcI hm rfl (v := (-1000006 : Int32)) (by decide +kernel) ?_
        refine x_cVi hm rfl rfl (t7 (by decide +kernel)) (fun v7 M7 r7 => ?_)
        refine x_iret hm rfl rfl (by first | rfl | exact bI_nar | decide) ?_
        have hq : fAs r nt np (nI s) a2 = -1000006 := by
          unfold fAs
          rw [if_neg (by assumption), if_neg (by assumption)]
          rw [jI_nat (k := s) (by omega)]
          rw [if_pos ym]
        exact ⟨_, _, rfl, rfl, r7.1.trans hq.symm⟩
    · refine x_aload_n hm rfl rfl ?_
      refine x_ldcI hm rfl (v := (-1000001 : Int32)) (by decide +kernel) ?_
      refine x_cVi hm rfl rfl (t7 (by decide +kernel)) (fun v8 M8 r8 => ?_)
      refine x_iret hm rfl rfl (by first | rfl | exact bI_nar | decide) ?_
      first
        | (have hq : fAs r nt np a1 a2 = -1000001 := by
             unfold fAs
             rw [if_pos (by assumption)]
           exact ⟨_, _, rfl, rfl, r8.1.trans hq.symm⟩)
        | (have hq : fAs r nt np (nI s) a2 = -1000001 := by
             unfold fAs
             rw [if_neg (by assumption), if_pos (by assumption)]
           exact ⟨_, _, rfl, rfl, r8.1.trans hq.symm⟩)
theorem gr233 {a1 a2 : Int32} (hI : Inv M) (h67 : M 67 = r) (hG : Gd nt np r) (h6 : M 66 6 = -1) : ∃ v M', mT X 233 [.ref 66, .int a1, .int a2] (con M) (some (.int v)) (con M') ∧ v = fAs r nt np a1 a2 := by
  refine ti_of (row := _) rfl (Nat.le_of_ble_eq_true rfl) ?_
  have hm : mMet 233 = some _ := rfl
  have hV := hG.2.2.1
  have hn8 := hV.1
  have hp8 := hV.2.1
  have hW := hI.1
  have hnt : M 67 1 = nI nt := (congrFun h67 1).trans hG.1
  have hnp : M 67 2 = nI np := (congrFun h67 2).trans hG.2.1
  refine x_iload_n hm rfl rfl ?_
  refine x_callS hm rfl rfl (t232) ?_
  refine x_if_eq hm rfl (t := 14) rfl (fun h1 => ?_) (fun h1 => ?_)
  · refine x_aload_n hm rfl rfl ?_
    refine x_ldcI hm rfl (v := (-1000001 : Int32)) (by decide +kernel) ?_
    refine x_callV hm rfl rfl (e135 (by decide +kernel)) ?_
    refine x_iret hm rfl rfl (by first | rfl | exact bI_nar | decide) ?_
    first
      | (have hq : fAs r nt np a1 a2 = -1000001 := by
           unfold fAs
           rw [if_pos (by assumption)]
         exact ⟨_, _, rfl, rfl, hq.symm⟩)
      | (have hq : fAs r nt np (nI s) a2 = -1000001 := by
           unfold fAs
           rw [if_neg (by assumption), if_pos (by assumption)]
         exact ⟨_, _, rfl, rfl, hq.symm⟩)
  · obtain ⟨s, hs, rfl⟩ := le_k (by omega) (bI_ne0 h1)
    refine x_iload_n hm rfl rfl ?_
    refine x_callS hm rfl rfl (t157) ?_
    refine x_if_ne hm rfl (t := 21) rfl (fun h2 => ?_) (fun h2 => ?_)
    · refine x_aload_n hm rfl rfl ?_
      refine x_getf hm rfl (gR rfl rfl) ?_
      refine x_iconst hm rfl (v := nI 4) (by decide) ?_
      refine x_iload_n hm rfl rfl ?_
      refine x_iadd hm rfl ?_
      rw [jI_add]
      refine x_iald hm rfl (lI rfl (by omega) (by decide)) ?_
      rw [h67]
      refine x_istore_n hm rfl rfl ?_
      refine x_iload_n hm rfl rfl ?_
      refine x_if_ge hm rfl (t := 41) rfl (fun h3 => ?_) (fun h3 => ?_)
      · have ny : ¬ r (4 + s) = -1 := fun e => absurd h3 (by rw [e]; decide)
        obtain ⟨p, hp, ep⟩ := (hG.2.2.2.2.1 s (by omega)).resolve_left ny
        rw [ep]
        obtain ⟨kd, hkd, ekd⟩ := hV.kind hp
        refine x_aload_n hm rfl rfl ?_
        refine x_iload_n hm rfl rfl ?_
        refine x_iconst hm rfl (v := nI 0) (by decide) ?_
        refine x_callV hm rfl rfl (t141 (by omega) (by omega)) ?_
        rw [h67]
        refine x_iload_n hm rfl rfl ?_
        refine x_callS hm rfl rfl (e147) ?_
        refine x_if_eq hm rfl (t := 58) rfl (fun h4 => ?_) (fun h4 => ?_)
        · have nu := bI_eq0.mp h4
          refine x_aload_n hm rfl rfl ?_
          refine x_ldc_wI hm rfl (v := (-1000003 : Int32)) (by decide) ?_
          refine x_callV hm rfl rfl (e135 (by decide +kernel)) ?_
          refine x_iret hm rfl rfl (by first | rfl | exact bI_nar | decide) ?_
          first
            | (have hq : fAs r nt np (nI s) a2 = nI p := by
                 unfold fAs
                 rw [if_neg (by assumption), if_neg (by assumption)]
                 rw [jI_nat (k := s) (by omega)]
                 rw [if_neg ny, ep, jI_nat (k := p) (by omega), if_pos yu]
               exact ⟨_, _, rfl, rfl, hq.symm⟩)
            | (have hq : fAs r nt np (nI s) a2 = -1000003 := by
                 unfold fAs
                 rw [if_neg (by assumption), if_neg (by assumption)]
                 rw [jI_nat (k := s) (by omega)]
                 rw [if_neg ny, ep, jI_nat (k := p) (by omega), if_neg nu]
               exact ⟨_, _, rfl, rfl, hq.symm⟩)
        · have yu := bI_ne0 h4
          refine x_iload_n hm rfl rfl ?_
          refine x_goto hm rfl (t := 65) rfl ?_
          refine x_iret hm rfl rfl (by first | rfl | exact bI_nar | decide) ?_
          first
            | (have hq : fAs r nt np (nI s) a2 = nI p := by
                 unfold fAs
                 rw [if_neg (by assumption), if_neg (by assumption)]
                 rw [jI_nat (k := s) (by omega)]
                 rw [if_neg ny, ep, jI_nat (k := p) (by omega), if_pos yu]
               exact ⟨_, _, rfl, rfl, hq.symm⟩)
            | (have hq : fAs r nt np (nI s) a2 = -1000003 := by
                 unfold fAs
                 rw [if_neg (by assumption), if_neg (by assumption)]
                 rw [jI_nat (k := s) (by omega)]
                 rw [if_neg ny, ep, jI_nat (k := p) (by omega), if_neg nu]
               exact ⟨_, _, rfl, rfl, hq.symm⟩)
      · have ym : r (4 + s) = -1 := (hG.2.2.2.2.1 s (by omega)).resolve_right fun ⟨p, hp, e⟩ => h3 (by rw [e]; exact Int32.not_lt.mp (jI_nn (by omega)))
        refine x_aload_n hm rfl rfl ?_
        refine x_ldcI hm rfl (v := (-1000006 : Int32)) (by decide +kernel) ?_
        refine x_callV hm rfl rfl (e135 (by decide +kernel)) ?_
        refine x_iret hm rfl rfl (by first | rfl | exact bI_nar | decide) ?_
        have hq : fAs r nt np (nI s) a2 = -1000006 := by
          unfold fAs
          rw [if_neg (by assumption), if_neg (by assumption)]
          rw [jI_nat (k := s) (by omega)]
          rw [if_pos ym]
        exact ⟨_, _, rfl, rfl, hq.symm⟩
    · refine x_aload_n hm rfl rfl ?_
      refine x_ldcI hm rfl (v := (-1000001 : Int32)) (by decide +kernel) ?_
      refine x_callV hm rfl rfl (e135 (by decide +kernel)) ?_
      refine x_iret hm rfl rfl (by first | rfl | exact bI_nar | decide) ?_
      first
        | (have hq : fAs r nt np a1 a2 = -1000001 := by
             unfold fAs
             rw [if_pos (by assumption)]
           exact ⟨_, _, rfl, rfl, hq.symm⟩)
        | (have hq : fAs r nt np (nI s) a2 = -1000001 := by
             unfold fAs
             rw [if_neg (by assumption), if_pos (by assumption)]
           exact ⟨_, _, rfl, rfl, hq.symm⟩)
theorem gv129l (hR : Rel 1 nt np M r) (hV : Vs nt np r) : ∀ (n k : Nat) (s : Int32), 10 - k < n → k ≤ 10 → s = sHs r k → mEv X (fun z D => z = some (.int (sHs r 10)) ∧ D = con M) 129 4 [some (.ref 1), some (.int s), some (.int (nI k))] [] (con M) := by
  have hm : mMet 129 = some _ := rfl
  intro n
  induction n with
  | zero =>
    intro k s hkn hkb hs
    omega
  | succ n ih =>
    intro k s hkn hkb hs
    refine x_iload_n hm rfl rfl ?_
    refine x_bipush hm rfl (v := nI 10) (by decide) ?_
    refine x_icmp_ge hm rfl (t := 29) rfl (fun h1 => ?_) (fun h1 => ?_)
    · have hkE : k = 10 := Nat.le_antisymm hkb ((jI_le (by omega) (by omega)).mp h1)
      subst hkE
      refine x_iload_n hm rfl rfl ?_
      refine x_iret hm rfl rfl (by first | rfl | exact bI_nar | decide) ?_
      rw [hs]
      exact ⟨rfl, rfl⟩
    · have hk : k < 10 := Nat.lt_of_not_le fun h => h1 (nI_le h (by omega))
      refine x_aload_n hm rfl rfl ?_
      refine x_getf hm rfl (gR rfl rfl) ?_
      refine x_iload_n hm rfl rfl ?_
      refine x_iald hm rfl (lI rfl (by omega) (by decide)) ?_
      rw [show M 17 k = _ from hR.2.2.2.2.1 k hk]
      refine x_iconst hm rfl (v := (-1 : Int32)) (by decide) ?_
      refine x_icmp_eq hm rfl (t := 23) rfl (fun h2 => ?_) (fun h2 => ?_)
      · refine x_iinc hm rfl rfl (v := nI 1) (by decide) rfl ?_
        rw [jI_add]
        refine x_goto hm rfl (t := 4) rfl ?_
        first
          | exact ih _ _ (by omega) (by omega) (by rw [hs]; exact sHs_1 (by assumption))
          | exact ih _ _ (by omega) (by omega) (by rw [hs]; exact sHs_s (by assumption))
      · refine x_iinc hm rfl rfl (v := nI 1) (by decide) rfl ?_
        refine x_iinc hm rfl rfl (v := nI 1) (by decide) rfl ?_
        rw [jI_add]
        refine x_goto hm rfl (t := 4) rfl ?_
        first
          | exact ih _ _ (by omega) (by omega) (by rw [hs]; exact sHs_1 (by assumption))
          | exact ih _ _ (by omega) (by omega) (by rw [hs]; exact sHs_s (by assumption))
theorem gv129 (hR : Rel 1 nt np M r) (hV : Vs nt np r) : mT X 129 [.ref 1] (con M) (some (.int (sHs r 10))) (con M) := by
  refine mT.of (row := _) rfl (Nat.le_of_ble_eq_true rfl) ?_
  have hm : mMet 129 = some _ := rfl
  refine x_iconst hm rfl (v := nI 0) (by decide) ?_
  refine x_istore_n hm rfl rfl ?_
  refine x_iconst hm rfl (v := nI 0) (by decide) ?_
  refine x_istore_n hm rfl rfl ?_
  exact gv129l hR hV _ 0 _ (Nat.lt_succ_self _) (Nat.zero_le _) rfl
theorem ts_n {a : Int32} {k : Nat} (h : a.toInt < 0 ∨ 7 < a.toInt) (hk : k ≤ 7) : ¬ a = nI k := by
  intro e
  rw [e, jI_int (by omega)] at h
  omega
theorem gv128 {a1 c : Int32} (hR : Rel 1 nt np M r) (hG : Gd nt np r) (hc : M 1 7 = -1) (hct : M 52 1 = c) : ∃ v M', mT X 128 [.ref 0, .int a1] (con M) (some (.int v)) (con M') ∧ v = fCount c r nt np a1 := by
  refine ti_of (row := _) rfl (Nat.le_of_ble_eq_true rfl) ?_
  have hm : mMet 128 = some _ := rfl
  have hV := hG.2.2.1
  have hn8 := hV.1
  have hp8 := hV.2.1
  refine x_iload_n hm rfl rfl ?_
  refine x_ts hm rfl (fun h1 => ⟨115, rfl, ?_⟩) (fun i1 h1 g1 => ?_)
  · refine x_aload_n hm rfl rfl ?_
    refine x_ldcI hm rfl (v := (-1000001 : Int32)) (by decide +kernel) ?_
    refine x_cVi hm rfl rfl (t7 (by decide +kernel)) (fun v2 M2 r2 => ?_)
    refine x_iret hm rfl rfl (by first | rfl | exact bI_nar | decide) ?_
    have hq : fCount c r nt np a1 = -1000001 := by
      unfold fCount
      rw [if_neg (ts_n h1 (k := 0) (by decide)), if_neg (ts_n h1 (k := 1) (by decide)), if_neg (ts_n h1 (k := 2) (by decide)), if_neg (ts_n h1 (k := 3) (by decide)), if_neg (ts_n h1 (k := 4) (by decide)), if_neg (ts_n h1 (k := 5) (by decide)), if_neg (ts_n h1 (k := 6) (by decide)), if_neg (ts_n h1 (k := 7) (by decide))]
    exact ⟨_, _, rfl, rfl, r2.1.trans hq.symm⟩
  · have k1 : i1 = 0 ∨ i1 = 1 ∨ i1 = 2 ∨ i1 = 3 ∨ i1 = 4 ∨ i1 = 5 ∨ i1 = 6 ∨ i1 = 7 := by omega
    rcases k1 with rfl | rfl | rfl | rfl | rfl | rfl | rfl | rfl
    · refine ⟨_, 48, rfl, rfl, ?_⟩
      refine x_aload_n hm rfl rfl ?_
      refine x_getf hm rfl (gR rfl rfl) ?_
      refine x_getf hm rfl (gI rfl rfl) ?_
      refine x_iret hm rfl rfl (by first | rfl | exact bI_nar | decide) ?_
      have e1 := tn h1 (by decide)
      have hq : fCount c r nt np a1 = r 0 := by
        unfold fCount
        rw [e1, if_pos rfl]
      exact ⟨_, _, rfl, rfl, (hR.2.2.1).trans hq.symm⟩
    · refine ⟨_, 56, rfl, rfl, ?_⟩
      refine x_aload_n hm rfl rfl ?_
      refine x_getf hm rfl (gR rfl rfl) ?_
      refine x_getf hm rfl (gI rfl rfl) ?_
      refine x_iret hm rfl rfl (by first | rfl | exact bI_nar | decide) ?_
      have e1 := tn h1 (by decide)
      have hq : fCount c r nt np a1 = nI nt := by
        unfold fCount
        rw [e1, if_neg (by decide), if_pos rfl]
      exact ⟨_, _, rfl, rfl, (hR.1).trans hq.symm⟩
    · refine ⟨_, 64, rfl, rfl, ?_⟩
      refine x_aload_n hm rfl rfl ?_
      refine x_getf hm rfl (gR rfl rfl) ?_
      refine x_getf hm rfl (gI rfl rfl) ?_
      refine x_iret hm rfl rfl (by first | rfl | exact bI_nar | decide) ?_
      have e1 := tn h1 (by decide)
      have hq : fCount c r nt np a1 = nI np := by
        unfold fCount
        rw [e1, if_neg (by decide), if_neg (by decide), if_pos rfl]
      exact ⟨_, _, rfl, rfl, (hR.2.1).trans hq.symm⟩
    · refine ⟨_, 72, rfl, rfl, ?_⟩
      refine x_aload_n hm rfl rfl ?_
      refine x_getf hm rfl (gR rfl rfl) ?_
      refine x_callV hm rfl rfl (e35 (by decide) hR hV) ?_
      obtain ⟨g, hg, eg⟩ := sGone_k r nt hn8
      have hg2 : g < 256 := Nat.lt_of_lt_of_le hg (Nat.pow_le_pow_right (by decide) hn8)
      rw [eg]
      refine x_callS hm rfl rfl (g36 hg2) ?_
      refine x_iret hm rfl rfl (by first | rfl | exact bI_nar | decide) ?_
      have e1 := tn h1 (by decide)
      have hq : fCount c r nt np a1 = sBits 256 (nI 0) (sGone r nt) := by
        unfold fCount
        rw [e1, if_neg (by decide), if_neg (by decide), if_neg (by decide), if_pos rfl]
      exact ⟨_, _, rfl, rfl, (congrArg (sBits 256 (nI 0)) eg.symm).trans hq.symm⟩
    · refine ⟨_, 83, rfl, rfl, ?_⟩
      refine x_aload_n hm rfl rfl ?_
      refine x_getf hm rfl (gR rfl rfl) ?_
      refine x_callV hm rfl rfl (e38 (by decide) hR hV) ?_
      refine x_iret hm rfl rfl (by first | rfl | exact bI_nar | decide) ?_
      have e1 := tn h1 (by decide)
      have hq : fCount c r nt np a1 = sThick r nt := by
        unfold fCount
        rw [e1, if_neg (by decide), if_neg (by decide), if_neg (by decide), if_neg (by decide), if_pos rfl]
      exact ⟨_, _, rfl, rfl, (rfl).trans hq.symm⟩
    · refine ⟨_, 91, rfl, rfl, ?_⟩
      refine x_aload_n hm rfl rfl ?_
      refine x_getf hm rfl (gR rfl rfl) ?_
      refine x_getf hm rfl (gI rfl rfl) ?_
      refine x_iret hm rfl rfl (by first | rfl | exact bI_nar | decide) ?_
      have e1 := tn h1 (by decide)
      have hq : fCount c r nt np a1 = c := by
        unfold fCount
        rw [e1, if_neg (by decide), if_neg (by decide), if_neg (by decide), if_neg (by decide), if_neg (by decide), if_pos rfl]
      exact ⟨_, _, rfl, rfl, (hct).trans hq.symm⟩
    · refine ⟨_, 99, rfl, rfl, ?_⟩
      refine x_aload_n hm rfl rfl ?_
      refine x_getf hm rfl (gR rfl rfl) ?_
      refine x_getf hm rfl (gI rfl rfl) ?_
      refine x_iret hm rfl rfl (by first | rfl | exact bI_nar | decide) ?_
      have e1 := tn h1 (by decide)
      have hq : fCount c r nt np a1 = r 3 := by
        unfold fCount
        rw [e1, if_neg (by decide), if_neg (by decide), if_neg (by decide), if_neg (by decide), if_neg (by decide), if_neg (by decide), if_pos rfl]
      exact ⟨_, _, rfl, rfl, (hR.2.2.2.1).trans hq.symm⟩
    · refine ⟨_, 107, rfl, rfl, ?_⟩
      refine x_aload_n hm rfl rfl ?_
      refine x_getf hm rfl (gR rfl rfl) ?_
      refine x_callV hm rfl rfl (gv129 hR hV) ?_
      refine x_iret hm rfl rfl (by first | rfl | exact bI_nar | decide) ?_
      have e1 := tn h1 (by decide)
      have hq : fCount c r nt np a1 = sHs r 10 := by
        unfold fCount
        rw [e1, if_neg (by decide), if_neg (by decide), if_neg (by decide), if_neg (by decide), if_neg (by decide), if_neg (by decide), if_neg (by decide), if_pos rfl]
      exact ⟨_, _, rfl, rfl, (rfl).trans hq.symm⟩
theorem gr243l {a1 : Int32} (h67 : M 67 = r) (hG : Gd nt np r) : ∀ (n k : Nat) (s : Int32), 10 - k < n → k ≤ 10 → s = sHs r k → mEv X (fun z D => z = some (.int (sHs r 10)) ∧ D = con M) 243 96 [some (.ref 66), some (.int a1), some (.int s), some (.int (nI k))] [] (con M) := by
  have hm : mMet 243 = some _ := rfl
  intro n
  induction n with
  | zero =>
    intro k s hkn hkb hs
    omega
  | succ n ih =>
    intro k s hkn hkb hs
    refine x_iload_n hm rfl rfl ?_
    refine x_bipush hm rfl (v := nI 10) (by decide) ?_
    refine x_icmp_ge hm rfl (t := 127) rfl (fun h1 => ?_) (fun h1 => ?_)
    · have hkE : k = 10 := Nat.le_antisymm hkb ((jI_le (by omega) (by omega)).mp h1)
      subst hkE
      refine x_iload_n hm rfl rfl ?_
      refine x_iret hm rfl rfl (by first | rfl | exact bI_nar | decide) ?_
      rw [hs]
      exact ⟨rfl, rfl⟩
    · have hk : k < 10 := Nat.lt_of_not_le fun h => h1 (nI_le h (by omega))
      refine x_iload_n hm rfl rfl ?_
      refine x_aload_n hm rfl rfl ?_
      refine x_getf hm rfl (gR rfl rfl) ?_
      refine x_iconst hm rfl (v := nI 4) (by decide) ?_
      refine x_iload_n hm rfl rfl ?_
      refine x_iadd hm rfl ?_
      rw [jI_add]
      refine x_iald hm rfl (lI rfl (by omega) (by decide)) ?_
      rw [h67]
      refine x_if_ge hm rfl (t := 118) rfl (fun h2 => ?_) (fun h2 => ?_)
      · have h5 : ¬ r (4 + k) = -1 := fun e => absurd h2 (by rw [e]; decide)
        refine x_iconst hm rfl (v := nI 1) (by decide) ?_
        refine x_iadd hm rfl ?_
        refine x_istore_n hm rfl rfl ?_
        refine x_iinc hm rfl rfl (v := nI 1) (by decide) rfl ?_
        rw [jI_add]
        refine x_goto hm rfl (t := 96) rfl ?_
        first
          | exact ih _ _ (by omega) (by omega) (by rw [hs]; exact sHs_1 h5)
          | exact ih _ _ (by omega) (by omega) (by rw [hs]; exact sHs_0 h5)
      · have h5 : r (4 + k) = -1 := (hG.2.2.2.2.1 k hk).resolve_right fun ⟨w, hw, e⟩ => h2 (by rw [e]; exact Int32.not_lt.mp (jI_nn (by have := hG.2.2.1.2.1; omega)))
        refine x_iconst hm rfl (v := nI 0) (by decide) ?_
        refine x_goto hm rfl (t := 119) rfl ?_
        refine x_iadd hm rfl ?_
        refine x_istore_n hm rfl rfl ?_
        refine x_iinc hm rfl rfl (v := nI 1) (by decide) rfl ?_
        rw [jI_add]
        refine x_goto hm rfl (t := 96) rfl ?_
        first
          | exact ih _ _ (by omega) (by omega) (by rw [hs]; exact sHs_1 h5)
          | exact ih _ _ (by omega) (by omega) (by rw [hs]; exact sHs_0 h5)
theorem gr243 {a1 c : Int32} (hI : Inv M) (h67 : M 67 = r) (hG : Gd nt np r) (h6 : M 66 6 = -1) (hct : M 66 9 = c) : ∃ v M', mT X 243 [.ref 66, .int a1] (con M) (some (.int v)) (con M') ∧ v = fCount c r nt np a1 := by
  refine ti_of (row := _) rfl (Nat.le_of_ble_eq_true rfl) ?_
  have hm : mMet 243 = some _ := rfl
  have hV := hG.2.2.1
  have hn8 := hV.1
  have hp8 := hV.2.1
  have hW := hI.1
  have hnt : M 67 1 = nI nt := (congrFun h67 1).trans hG.1
  have hnp : M 67 2 = nI np := (congrFun h67 2).trans hG.2.1
  refine x_iconst hm rfl (v := nI 0) (by decide) ?_
  refine x_istore_n hm rfl rfl ?_
  refine x_iload_n hm rfl rfl ?_
  refine x_ts hm rfl (fun h1 => ⟨129, rfl, ?_⟩) (fun i1 h1 g1 => ?_)
  · refine x_aload_n hm rfl rfl ?_
    refine x_ldcI hm rfl (v := (-1000001 : Int32)) (by decide +kernel) ?_
    refine x_callV hm rfl rfl (e135 (by decide +kernel)) ?_
    refine x_iret hm rfl rfl (by first | rfl | exact bI_nar | decide) ?_
    have hq : fCount c r nt np a1 = -1000001 := by
      unfold fCount
      rw [if_neg (ts_n h1 (k := 0) (by decide)), if_neg (ts_n h1 (k := 1) (by decide)), if_neg (ts_n h1 (k := 2) (by decide)), if_neg (ts_n h1 (k := 3) (by decide)), if_neg (ts_n h1 (k := 4) (by decide)), if_neg (ts_n h1 (k := 5) (by decide)), if_neg (ts_n h1 (k := 6) (by decide)), if_neg (ts_n h1 (k := 7) (by decide))]
    exact ⟨_, _, rfl, rfl, hq.symm⟩
  · have k1 : i1 = 0 ∨ i1 = 1 ∨ i1 = 2 ∨ i1 = 3 ∨ i1 = 4 ∨ i1 = 5 ∨ i1 = 6 ∨ i1 = 7 := by omega
    rcases k1 with rfl | rfl | rfl | rfl | rfl | rfl | rfl | rfl
    · refine ⟨_, 48, rfl, rfl, ?_⟩
      refine x_aload_n hm rfl rfl ?_
      refine x_getf hm rfl (gR rfl rfl) ?_
      refine x_iconst hm rfl (v := nI 0) (by decide) ?_
      refine x_iald hm rfl (lI rfl (by omega) (by decide)) ?_
      refine x_iret hm rfl rfl (by first | rfl | exact bI_nar | decide) ?_
      have e1 := tn h1 (by decide)
      have hq : fCount c r nt np a1 = r 0 := by
        unfold fCount
        rw [e1, if_pos rfl]
      exact ⟨_, _, rfl, rfl, (congrFun h67 0).trans hq.symm⟩
    · refine ⟨_, 55, rfl, rfl, ?_⟩
      refine x_aload_n hm rfl rfl ?_
      refine x_getf hm rfl (gR rfl rfl) ?_
      refine x_iconst hm rfl (v := nI 1) (by decide) ?_
      refine x_iald hm rfl (lI rfl (by omega) (by decide)) ?_
      refine x_iret hm rfl rfl (by first | rfl | exact bI_nar | decide) ?_
      have e1 := tn h1 (by decide)
      have hq : fCount c r nt np a1 = nI nt := by
        unfold fCount
        rw [e1, if_neg (by decide), if_pos rfl]
      exact ⟨_, _, rfl, rfl, (hnt).trans hq.symm⟩
    · refine ⟨_, 62, rfl, rfl, ?_⟩
      refine x_aload_n hm rfl rfl ?_
      refine x_getf hm rfl (gR rfl rfl) ?_
      refine x_iconst hm rfl (v := nI 2) (by decide) ?_
      refine x_iald hm rfl (lI rfl (by omega) (by decide)) ?_
      refine x_iret hm rfl rfl (by first | rfl | exact bI_nar | decide) ?_
      have e1 := tn h1 (by decide)
      have hq : fCount c r nt np a1 = nI np := by
        unfold fCount
        rw [e1, if_neg (by decide), if_neg (by decide), if_pos rfl]
      exact ⟨_, _, rfl, rfl, (hnp).trans hq.symm⟩
    · refine ⟨_, 69, rfl, rfl, ?_⟩
      refine x_aload_n hm rfl rfl ?_
      refine x_callV hm rfl rfl (e167 hnt hn8) ?_
      rw [h67]
      obtain ⟨g, hg, eg⟩ := sGone_k r nt hn8
      have hg2 : g < 256 := Nat.lt_of_lt_of_le hg (Nat.pow_le_pow_right (by decide) hn8)
      rw [eg]
      refine x_callS hm rfl rfl (g168 hg2) ?_
      refine x_iret hm rfl rfl (by first | rfl | exact bI_nar | decide) ?_
      have e1 := tn h1 (by decide)
      have hq : fCount c r nt np a1 = sBits 256 (nI 0) (sGone r nt) := by
        unfold fCount
        rw [e1, if_neg (by decide), if_neg (by decide), if_neg (by decide), if_pos rfl]
      exact ⟨_, _, rfl, rfl, (congrArg (sBits 256 (nI 0)) eg.symm).trans hq.symm⟩
    · refine ⟨_, 77, rfl, rfl, ?_⟩
      refine x_aload_n hm rfl rfl ?_
      refine x_callV hm rfl rfl (e170 hnt hn8) ?_
      refine x_iret hm rfl rfl (by first | rfl | exact bI_nar | decide) ?_
      have e1 := tn h1 (by decide)
      have hq : fCount c r nt np a1 = sThick r nt := by
        unfold fCount
        rw [e1, if_neg (by decide), if_neg (by decide), if_neg (by decide), if_neg (by decide), if_pos rfl]
      exact ⟨_, _, rfl, rfl, (congrArg (fun z => sThick z nt) h67).trans hq.symm⟩
    · refine ⟨_, 82, rfl, rfl, ?_⟩
      refine x_aload_n hm rfl rfl ?_
      refine x_getf hm rfl (gI rfl rfl) ?_
      refine x_iret hm rfl rfl (by first | rfl | exact bI_nar | decide) ?_
      have e1 := tn h1 (by decide)
      have hq : fCount c r nt np a1 = c := by
        unfold fCount
        rw [e1, if_neg (by decide), if_neg (by decide), if_neg (by decide), if_neg (by decide), if_neg (by decide), if_pos rfl]
      exact ⟨_, _, rfl, rfl, (hct).trans hq.symm⟩
    · refine ⟨_, 87, rfl, rfl, ?_⟩
      refine x_aload_n hm rfl rfl ?_
      refine x_getf hm rfl (gR rfl rfl) ?_
      refine x_iconst hm rfl (v := nI 3) (by decide) ?_
      refine x_iald hm rfl (lI rfl (by omega) (by decide)) ?_
      refine x_iret hm rfl rfl (by first | rfl | exact bI_nar | decide) ?_
      have e1 := tn h1 (by decide)
      have hq : fCount c r nt np a1 = r 3 := by
        unfold fCount
        rw [e1, if_neg (by decide), if_neg (by decide), if_neg (by decide), if_neg (by decide), if_neg (by decide), if_neg (by decide), if_pos rfl]
      exact ⟨_, _, rfl, rfl, (congrFun h67 3).trans hq.symm⟩
    · refine ⟨_, 94, rfl, rfl, ?_⟩
      refine x_iconst hm rfl (v := nI 0) (by decide) ?_
      refine x_istore_n hm rfl rfl ?_
      have e1 := tn h1 (by decide)
      have hq : fCount c r nt np a1 = sHs r 10 := by
        unfold fCount
        rw [e1, if_neg (by decide), if_neg (by decide), if_neg (by decide), if_neg (by decide), if_neg (by decide), if_neg (by decide), if_neg (by decide), if_pos rfl]
      rw [hq]
      exact ev_qxi (gr243l h67 hG _ 0 _ (Nat.lt_succ_self _) (Nat.zero_le _) rfl)
theorem bits_pos : ∀ s, s < 256 → ¬ s = 0 → nI 0 < sBits 256 (nI 0) (nI s) := by decide +kernel
theorem key_first (hn8 : nt ≤ 8) {t : Nat} (ht : t < nt) : nI 0 < sBits 256 (nI 0) (nI (wS (Rch r t) nt)) := by
  refine bits_pos _ (wS_lt hn8) fun e => ?_
  have h : (wS (Rch r t) nt).testBit t = true := wS_tb.mpr ⟨ht, Rch.self⟩
  rw [e, Nat.zero_testBit] at h
  exact Bool.false_ne_true h
theorem key_k (hn8 : nt ≤ 8) : ∀ k, k ≤ nt → (k = 0 ∧ (fo (sKs r nt) k (-1, nI 0)).1 = -1) ∨ ∃ j, j < k ∧ (fo (sKs r nt) k (-1, nI 0)).1 = nI j := by
  intro k
  induction k with
  | zero => exact fun _ => Or.inl ⟨rfl, rfl⟩
  | succ k ih =>
    intro hk
    refine Or.inr ?_
    show ∃ j, j < k + 1 ∧ (sKs r nt k (fo (sKs r nt) k (-1, nI 0))).1 = nI j
    by_cases h : (fo (sKs r nt) k (-1, nI 0)).2 < sBits 256 (nI 0) (nI (wS (Rch r k) nt))
    · exact ⟨k, Nat.lt_succ_self _, by rw [show sKs r nt k (fo (sKs r nt) k (-1, nI 0)) = _ from if_pos h]⟩
    · rw [show sKs r nt k (fo (sKs r nt) k (-1, nI 0)) = _ from if_neg h]
      rcases ih (by omega) with ⟨h0, -⟩ | ⟨j, hj, e⟩
      · subst h0
        exact absurd (key_first hn8 hk) h
      · exact ⟨j, by omega, e⟩
theorem key_eq (hn8 : nt ≤ 8) : ∀ k, k ≤ nt → 0 < k → fo (sKs r nt) k (nI 0, nI 0) = fo (sKs r nt) k (-1, nI 0) := by
  intro k
  induction k with
  | zero => exact fun _ h => absurd h (Nat.lt_irrefl _)
  | succ k ih =>
    intro hk _
    show sKs r nt k (fo (sKs r nt) k (nI 0, nI 0)) = sKs r nt k (fo (sKs r nt) k (-1, nI 0))
    by_cases h0 : k = 0
    · subst h0
      rw [show sKs r nt 0 (fo (sKs r nt) 0 (nI 0, nI 0)) = _ from if_pos (key_first hn8 hk), show sKs r nt 0 (fo (sKs r nt) 0 (-1, nI 0)) = _ from if_pos (key_first hn8 hk)]
    · rw [ih (by omega) (by omega)]
theorem gv63l (hR : Rel 1 nt np M r) (hV : Vs nt np r) : ∀ (n k : Nat) (s g : Int32) (x4 : Option Value), nt - k < n → k ≤ nt → (s, g) = fo (sKs r nt) k (nI 0, nI 0) → mEv X (QI (fun v _ => v = (fo (sKs r nt) nt (nI 0, nI 0)).1)) 63 23 [some (.ref 0), some (.int s), some (.int g), some (.int (nI k)), x4] [] (con M) := by
  have hm : mMet 63 = some _ := rfl
  intro n
  induction n with
  | zero =>
    intro k s g x4 hkn hkb hz
    omega
  | succ n ih =>
    intro k s g x4 hkn hkb hz
    have hn8 := hV.1
    have hp8 := hV.2.1
    refine x_iload_n hm rfl rfl ?_
    refine x_aload_n hm rfl rfl ?_
    refine x_getf hm rfl (gR rfl rfl) ?_
    refine x_getf hm rfl (gI rfl rfl) ?_
    rw [hR.1]
    refine x_icmp_ge hm rfl (t := 64) rfl (fun h1 => ?_) (fun h1 => ?_)
    · obtain rfl : k = nt := Nat.le_antisymm hkb ((jI_le (by omega) (by omega)).mp h1)
      refine x_iload_n hm rfl rfl ?_
      refine x_iret hm rfl rfl (by first | rfl | exact bI_nar | decide) ?_
      exact ⟨_, _, rfl, rfl, congrArg Prod.fst hz⟩
    · have hk : k < nt := Nat.lt_of_not_le fun h => h1 (nI_le h (by omega))
      refine x_aload_n hm rfl rfl ?_
      refine x_getf hm rfl (gR rfl rfl) ?_
      refine x_iload_n hm rfl rfl ?_
      refine x_callV hm rfl rfl (g20 (by decide) hR hV hk) ?_
      refine x_callS hm rfl rfl (g36 (wS_lt hn8)) ?_
      refine x_istore hm rfl rfl ?_
      refine x_iload hm rfl rfl ?_
      refine x_iload_n hm rfl rfl ?_
      refine x_icmp_le hm rfl (t := 58) rfl (fun h2 => ?_) (fun h2 => ?_)
      · have hle := h2
        refine x_iinc hm rfl rfl (v := nI 1) (by decide) rfl ?_
        rw [jI_add]
        refine x_goto hm rfl (t := 23) rfl ?_
        first
          | exact ih _ _ _ _ (by omega) (by omega) (by show _ = sKs r nt k _; rw [← hz]; exact (if_pos hlt).symm)
          | exact ih _ _ _ _ (by omega) (by omega) (by show _ = sKs r nt k _; rw [← hz]; exact (if_neg (Int32.not_lt.mpr hle)).symm)
      · have hlt := Int32.not_le.mp h2
        refine x_iload hm rfl rfl ?_
        refine x_istore_n hm rfl rfl ?_
        refine x_iload_n hm rfl rfl ?_
        refine x_istore_n hm rfl rfl ?_
        refine x_iinc hm rfl rfl (v := nI 1) (by decide) rfl ?_
        rw [jI_add]
        refine x_goto hm rfl (t := 23) rfl ?_
        first
          | exact ih _ _ _ _ (by omega) (by omega) (by show _ = sKs r nt k _; rw [← hz]; exact (if_pos hlt).symm)
          | exact ih _ _ _ _ (by omega) (by omega) (by show _ = sKs r nt k _; rw [← hz]; exact (if_neg (Int32.not_lt.mpr hle)).symm)
theorem gv63  (hR : Rel 1 nt np M r) (hG : Gd nt np r) (hc : M 1 7 = -1) : ∃ v M', mT X 63 [.ref 0] (con M) (some (.int v)) (con M') ∧ v = fKey r nt np := by
  refine ti_of (row := _) rfl (Nat.le_of_ble_eq_true rfl) ?_
  have hm : mMet 63 = some _ := rfl
  have hV := hG.2.2.1
  have hn8 := hV.1
  have hp8 := hV.2.1
  refine x_aload_n hm rfl rfl ?_
  refine x_getf hm rfl (gR rfl rfl) ?_
  refine x_getf hm rfl (gI rfl rfl) ?_
  rw [hR.1]
  refine x_if_ne hm rfl (t := 17) rfl (fun h1 => ?_) (fun h1 => ?_)
  · have hnt0 : 0 < nt := Nat.pos_of_ne_zero fun e => h1 (by rw [e]; rfl)
    refine x_iconst hm rfl (v := nI 0) (by decide) ?_
    refine x_istore_n hm rfl rfl ?_
    refine x_iconst hm rfl (v := nI 0) (by decide) ?_
    refine x_istore_n hm rfl rfl ?_
    refine x_iconst hm rfl (v := nI 0) (by decide) ?_
    refine x_istore_n hm rfl rfl ?_
    have hq : fKey r nt np = (fo (sKs r nt) nt (nI 0, nI 0)).1 := by
      unfold fKey
      rw [key_eq hn8 nt (Nat.le_refl _) hnt0]
      rcases key_k (r := r) hn8 nt (Nat.le_refl _) with ⟨e, -⟩ | ⟨j, hj, e⟩
      · omega
      · rw [e]; exact congrArg Prod.fst (orN_k (by omega))
    rw [hq]
    exact gv63l hR hV _ 0 _ _ _ (Nat.lt_succ_self _) (Nat.zero_le _) rfl
  · have hnt0 : nt = 0 := jI_inj (by omega) (by decide) h1
    refine x_aload_n hm rfl rfl ?_
    refine x_ldcI hm rfl (v := (-1000004 : Int32)) (by decide +kernel) ?_
    refine x_cVi hm rfl rfl (t7 (by decide +kernel)) (fun v2 M2 r2 => ?_)
    refine x_iret hm rfl rfl (by first | rfl | exact bI_nar | decide) ?_
    have hq : fKey r nt np = -1000004 := by
      unfold fKey
      rw [show fo (sKs r nt) nt (-1, nI 0) = (-1, nI 0) by rw [hnt0]; rfl]
      exact congrArg Prod.fst orN_m
    exact ⟨_, _, rfl, rfl, r2.1.trans hq.symm⟩
theorem gr196l (hI : Inv M) (h67 : M 67 = r) (hV : Vs nt np r) (hnt : M 67 1 = nI nt) : ∀ (n k : Nat) (b s : Int32) (x4 : Option Value), nt - k < n → k ≤ nt → (b, s) = fo (sKs r nt) k (-1, nI 0) → mEv X (QI (fun v _ => v = fKey r nt np)) 196 6 [some (.ref 66), some (.int b), some (.int s), some (.int (nI k)), x4] [] (con M) := by
  have hm : mMet 196 = some _ := rfl
  intro n
  induction n with
  | zero =>
    intro k b s x4 hkn hkb hz
    omega
  | succ n ih =>
    intro k b s x4 hkn hkb hz
    have hn8 := hV.1
    have hp8 := hV.2.1
    refine x_iload_n hm rfl rfl ?_
    refine x_aload_n hm rfl rfl ?_
    refine x_getf hm rfl (gR rfl rfl) ?_
    refine x_iconst hm rfl (v := nI 1) (by decide) ?_
    refine x_iald hm rfl (lI rfl (by omega) (by decide)) ?_
    rw [hnt]
    refine x_icmp_ge hm rfl (t := 51) rfl (fun h1 => ?_) (fun h1 => ?_)
    · obtain rfl : k = nt := Nat.le_antisymm hkb ((jI_le (by omega) (by omega)).mp h1)
      refine x_aload_n hm rfl rfl ?_
      refine x_iload_n hm rfl rfl ?_
      refine x_cVi hm rfl rfl (e177) (fun v2 M2 r2 => ?_)
      refine x_iret hm rfl rfl (by first | rfl | exact bI_nar | decide) ?_
      have hzz := r2.1
      exact ⟨_, _, rfl, rfl, by rw [hzz]; unfold fKey; rw [← hz]⟩
    · have hk : k < nt := Nat.lt_of_not_le fun h => h1 (nI_le h (by omega))
      refine x_aload_n hm rfl rfl ?_
      refine x_iload_n hm rfl rfl ?_
      refine x_callV hm rfl rfl (e194 hI (by omega) hnt hn8) ?_
      rw [h67]
      refine x_callS hm rfl rfl (g168 (wS_lt hn8)) ?_
      refine x_istore hm rfl rfl ?_
      refine x_iload hm rfl rfl ?_
      refine x_iload_n hm rfl rfl ?_
      refine x_icmp_le hm rfl (t := 36) rfl (fun h3 => ?_) (fun h3 => ?_)
      · have hle := Int32.not_lt.mpr h3
        refine x_iload_n hm rfl rfl ?_
        refine x_istore_n hm rfl rfl ?_
        refine x_iload_n hm rfl rfl ?_
        refine x_iload hm rfl rfl ?_
        refine x_lib hm rfl rfl ?_
        dsimp only
        refine x_istore_n hm rfl rfl ?_
        refine x_iinc hm rfl rfl (v := nI 1) (by decide) rfl ?_
        rw [jI_add]
        refine x_goto hm rfl (t := 6) rfl ?_
        first
          | exact ih _ _ _ _ (by omega) (by omega) (by show _ = sKs r nt k _; rw [← hz]; unfold sKs; dsimp only; rw [if_pos hlt, if_pos hlt])
          | exact ih _ _ _ _ (by omega) (by omega) (by show _ = sKs r nt k _; rw [← hz]; unfold sKs; dsimp only; rw [if_neg hle, if_neg hle])
      · have hlt := Int32.not_le.mp h3
        refine x_iload_n hm rfl rfl ?_
        refine x_goto hm rfl (t := 37) rfl ?_
        refine x_istore_n hm rfl rfl ?_
        refine x_iload_n hm rfl rfl ?_
        refine x_iload hm rfl rfl ?_
        refine x_lib hm rfl rfl ?_
        dsimp only
        refine x_istore_n hm rfl rfl ?_
        refine x_iinc hm rfl rfl (v := nI 1) (by decide) rfl ?_
        rw [jI_add]
        refine x_goto hm rfl (t := 6) rfl ?_
        first
          | exact ih _ _ _ _ (by omega) (by omega) (by show _ = sKs r nt k _; rw [← hz]; unfold sKs; dsimp only; rw [if_pos hlt, if_pos hlt])
          | exact ih _ _ _ _ (by omega) (by omega) (by show _ = sKs r nt k _; rw [← hz]; unfold sKs; dsimp only; rw [if_neg hle, if_neg hle])
theorem gr196  (hI : Inv M) (h67 : M 67 = r) (hG : Gd nt np r) (h6 : M 66 6 = -1) : ∃ v M', mT X 196 [.ref 66] (con M) (some (.int v)) (con M') ∧ v = fKey r nt np := by
  refine ti_of (row := _) rfl (Nat.le_of_ble_eq_true rfl) ?_
  have hm : mMet 196 = some _ := rfl
  have hV := hG.2.2.1
  have hn8 := hV.1
  have hp8 := hV.2.1
  have hW := hI.1
  have hnt : M 67 1 = nI nt := (congrFun h67 1).trans hG.1
  have hnp : M 67 2 = nI np := (congrFun h67 2).trans hG.2.1
  refine x_iconst hm rfl (v := (-1 : Int32)) (by decide) ?_
  refine x_istore_n hm rfl rfl ?_
  refine x_iconst hm rfl (v := nI 0) (by decide) ?_
  refine x_istore_n hm rfl rfl ?_
  refine x_iconst hm rfl (v := nI 0) (by decide) ?_
  refine x_istore_n hm rfl rfl ?_
  exact gr196l hI h67 hV hnt _ 0 _ _ _ (Nat.lt_succ_self _) (Nat.zero_le _) rfl
theorem J.asi {cmd rmd : Nat} {as bs : List Value} {F : (Nat → Int32) → Nat → Nat → Int32} (hJ : J M) (hc : ∃ v M1, mT X cmd as (con M) (some (.int v)) (con M1) ∧ Cq M M1) (he : ∀ nt np, Rel 1 nt np M (M 67) → Gd nt np (M 67) → M 1 7 = -1 → ∃ v M1, mT X cmd as (con M) (some (.int v)) (con M1) ∧ v = F (M 67) nt np)
    (hr : ∀ M1, J M1 → ∃ v M', mT X rmd bs (con M1) (some (.int v)) (con M') ∧ Rq M1 M') (hu : ∀ M1 nt np, J M1 → (∀ a, 66 ≤ a → M1 a = M a) → Gd nt np (M 67) → ∃ v M', mT X rmd bs (con M1) (some (.int v)) (con M') ∧ v = F (M 67) nt np) : JJ X cmd rmd as bs M Eq := by
  obtain ⟨nt, np, hR, h1, h2, hV, hr0, hc7⟩ := hJ.2.2.1
  have g : Gd nt np (M 67) := ⟨h1, h2, hV, hr0⟩
  exact hJ.asv hc (he nt np hR g hc7) hr (fun M1 j k => hu M1 nt np j k g) rfl
theorem j_thingOf {a1 a2 : Int32} (hJ : J M) : JJ X 9 138 [.ref 0, .int a1, .int a2] [.ref 66, .int a1, .int a2] M Eq := hJ.asi (F := fun r nt np => fThO r nt np a1 a2) (t9 hJ.1.1) (fun nt np hR g h7 => gv9 hR g h7) (fun M1 j => rq_of (t138 j.1)) (fun M1 nt np j k g => gr138 j.1 (k 67 (by decide)) g j.2.2.2.2.2.2)
theorem j_of {a1 a2 : Int32} (hJ : J M) : JJ X 24 159 [.ref 0, .int a1, .int a2] [.ref 66, .int a1, .int a2] M Eq := hJ.asi (F := fun r nt np => fOf r nt np a1 a2) (t24 hJ.1.1) (fun nt np hR g h7 => gv24 hR g h7) (fun M1 j => rq_of (t159 j.1)) (fun M1 nt np j k g => gr159 j.1 (k 67 (by decide)) g j.2.2.2.2.2.2)
theorem j_envy {a1 a2 : Int32} (hJ : J M) : JJ X 28 162 [.ref 0, .int a1, .int a2] [.ref 66, .int a1, .int a2] M Eq := hJ.asi (F := fun r nt np => fEnvy r nt np a1 a2) (t28 hJ.1.1) (fun nt np hR g h7 => gv28 hR g h7) (fun M1 j => rq_of (t162 j.1)) (fun M1 nt np j k g => gr162 j.1 (k 67 (by decide)) g j.2.2.2.2.2.2)
theorem j_fallsWith {a1 : Int32} (hJ : J M) : JJ X 60 193 [.ref 0, .int a1] [.ref 66, .int a1] M Eq := hJ.asi (F := fun r nt np => fFw r nt np a1) (t60 hJ.1.1) (fun nt np hR g h7 => gv60 hR g h7) (fun M1 j => rq_of (t193 j.1)) (fun M1 nt np j k g => gr193 j.1 (k 67 (by decide)) g j.2.2.2.2.2.2)
theorem j_fells (hJ : J M) : JJ X 64 197 [.ref 0] [.ref 66] M Eq := hJ.asi (F := fun r nt np => fFells r nt) (t64 hJ.1.1) (fun nt np hR g h7 => gv64 hR g h7) (fun M1 j => by
  obtain ⟨v, h, -⟩ := t197 (X := X) j.1.1
  exact ⟨v, M1, h, (Iq.rf j.1).rq⟩) (fun M1 nt np j k g => gr197 j.1 (k 67 (by decide)) g j.2.2.2.2.2.2)
theorem j_worth {a1 a2 : Int32} (hJ : J M) : JJ X 65 198 [.ref 0, .int a1, .int a2] [.ref 66, .int a1, .int a2] M Eq := hJ.asi (F := fun r nt np => fWorth r nt np a1 a2) (t65 hJ.1.1) (fun nt np hR g h7 => gv65 hR g h7) (fun M1 j => rq_of (t198 j.1)) (fun M1 nt np j k g => gr198 j.1 (k 67 (by decide)) g j.2.2.2.2.2.2)
theorem j_as {a1 a2 : Int32} (hJ : J M) : JJ X 115 233 [.ref 0, .int a1, .int a2] [.ref 66, .int a1, .int a2] M Eq := hJ.asi (F := fun r nt np => fAs r nt np a1 a2) (t115 hJ.1.1) (fun nt np hR g h7 => gv115 hR g h7) (fun M1 j => rq_of (t233 j.1)) (fun M1 nt np j k g => gr233 j.1 (k 67 (by decide)) g j.2.2.2.2.2.2)
theorem j_keystone (hJ : J M) : JJ X 63 196 [.ref 0] [.ref 66] M Eq := hJ.asi (F := fun r nt np => fKey r nt np) (t63 hJ.1.1) (fun nt np hR g h7 => gv63 hR g h7) (fun M1 j => rq_of (t196 j.1)) (fun M1 nt np j k g => gr196 j.1 (k 67 (by decide)) g j.2.2.2.2.2.2)
theorem j_count {a1 : Int32} (hJ : J M) : JJ X 128 243 [.ref 0, .int a1] [.ref 66, .int a1] M Eq := hJ.asi (F := fun r nt np => fCount (M 66 9) r nt np a1) (t128 hJ.1.1) (fun nt np hR g h7 => gv128 hR g h7 hJ.2.2.2.2.1.1) (fun M1 j => rq_of (t243 j.1)) (fun M1 nt np j k g => gr243 j.1 (k 67 (by decide)) g j.2.2.2.2.2.2 (by rw [k 66 (by decide)]))
end EW
end
section
/-! ===== odds: both sides ===== -/
section OD
variable {X : mSc} {Q : Option Value → mHp → Prop} {M : mM} {nt np : Nat} {r : Nat → Int32}
theorem ush_k {a k : Nat} (ha : a < 2147483648) (hk : k < 32) (e : (nI k).toUInt32 &&& Int32.toUInt32 31 = UInt32.ofNat k) : ush (nI a) (nI k) = nI (a >>> k) := by
  unfold ush
  rw [e, ← Int32.toBitVec_inj]
  show (UInt32.ofNat a >>> UInt32.ofNat k).toBitVec = BitVec.ofNat 32 (a >>> k)
  rw [UInt32.toBitVec_shiftRight]
  refine BitVec.eq_of_toNat_eq ?_
  have e1 : ((UInt32.ofNat k).toBitVec % 32).toNat = k := by
    show (k % 4294967296) % 32 = k
    omega
  have h2 : a >>> k ≤ a := Nat.shiftRight_le a k
  rw [BitVec.ushiftRight_eq', BitVec.toNat_ushiftRight, e1, BitVec.toNat_ofNat, Nat.mod_eq_of_lt (a := a >>> k) (by omega)]
  show (a % 4294967296) >>> k = _
  rw [Nat.mod_eq_of_lt (by omega)]
/-- the count of bits, over plain numbers -/
def nbc (s : Nat) : Nat :=
  let a := s - ((s >>> 1) &&& 1431655765)
  let b := (a &&& 858993459) + ((a >>> 2) &&& 858993459)
  let c := (b + (b >>> 4)) &&& 252645135
  let d := c + (c >>> 8)
  (d + (d >>> 16)) &&& 63
def pcN : Nat → Nat → Nat
  | 0, _ => 0
  | f + 1, s => cond (Nat.beq s 0) 0 (pcN f (s &&& (s - 1)) + 1)
theorem bcn_n {s : Nat} (h : s < 65536) : bcn (nI s) = nI (nbc s) := by
  unfold bcn nbc
  dsimp only
  have l1 : (s >>> 1) &&& 1431655765 ≤ s := Nat.le_trans Nat.and_le_left (Nat.shiftRight_le s 1)
  rw [ush_k (a := s) (k := 1) (by omega) (by decide) (by decide), jI_and, sub_le l1]
  generalize ea : s - ((s >>> 1) &&& 1431655765) = a
  have ha : a < 65536 := by omega
  have l2 : a &&& 858993459 ≤ a := Nat.and_le_left
  have l3 : (a >>> 2) &&& 858993459 ≤ a := Nat.le_trans Nat.and_le_left (Nat.shiftRight_le a 2)
  rw [ush_k (a := a) (k := 2) (by omega) (by decide) (by decide), jI_and, jI_and, jI_add]
  generalize eb : (a &&& 858993459) + ((a >>> 2) &&& 858993459) = b
  have hb : b < 200000 := by omega
  have l4 := Nat.shiftRight_le b 4
  rw [ush_k (a := b) (k := 4) (by omega) (by decide) (by decide), jI_add, jI_and]
  generalize ec : (b + (b >>> 4)) &&& 252645135 = c
  have l5 : (b + (b >>> 4)) &&& 252645135 ≤ b + (b >>> 4) := Nat.and_le_left
  have hc : c < 400000 := by omega
  have l6 := Nat.shiftRight_le c 8
  rw [ush_k (a := c) (k := 8) (by omega) (by decide) (by decide), jI_add]
  generalize ed : c + (c >>> 8) = d
  have hd : d < 800000 := by omega
  have l7 := Nat.shiftRight_le d 16
  rw [ush_k (a := d) (k := 16) (by omega) (by decide) (by decide), jI_add, jI_and]
theorem pc_k : ∀ (f s c : Nat), s < 2147483648 → sBits f (nI c) (nI s) = nI (c + pcN f s) := by
  intro f
  induction f with
  | zero => intro s c _; rfl
  | succ f ih =>
    intro s c hs
    show (if nI s = 0 then nI c else sBits f (nI c + nI 1) (nI s &&& (nI s - nI 1))) = nI (c + cond (Nat.beq s 0) 0 (pcN f (s &&& (s - 1)) + 1))
    by_cases h : s = 0
    · subst h
      rfl
    · have hb : Nat.beq s 0 = false := by
        cases e : Nat.beq s 0 with
        | false => rfl
        | true => exact absurd (Nat.eq_of_beq_eq_true e) h
      rw [if_neg (show ¬ nI s = 0 from fun e => h (jI_inj (b := 0) hs (by decide) e)), hb, jI_add, sub_le (show 1 ≤ s by omega), jI_and, ih _ _ (Nat.lt_of_le_of_lt Nat.and_le_left hs)]
      show nI (c + 1 + pcN f (s &&& (s - 1))) = nI (c + (pcN f (s &&& (s - 1)) + 1))
      rw [Nat.add_right_comm]
      rfl
theorem pcA_0 : (List.range 64).all (fun a => (List.range 64).all (fun b => Nat.beq (nbc (0 + 64 * a + b)) (pcN 65536 (0 + 64 * a + b)))) = true := by decide +kernel
theorem pcA_1 : (List.range 64).all (fun a => (List.range 64).all (fun b => Nat.beq (nbc (4096 + 64 * a + b)) (pcN 65536 (4096 + 64 * a + b)))) = true := by decide +kernel
theorem pcA_2 : (List.range 64).all (fun a => (List.range 64).all (fun b => Nat.beq (nbc (8192 + 64 * a + b)) (pcN 65536 (8192 + 64 * a + b)))) = true := by decide +kernel
theorem pcA_3 : (List.range 64).all (fun a => (List.range 64).all (fun b => Nat.beq (nbc (12288 + 64 * a + b)) (pcN 65536 (12288 + 64 * a + b)))) = true := by decide +kernel
theorem pcA_4 : (List.range 64).all (fun a => (List.range 64).all (fun b => Nat.beq (nbc (16384 + 64 * a + b)) (pcN 65536 (16384 + 64 * a + b)))) = true := by decide +kernel
theorem pcA_5 : (List.range 64).all (fun a => (List.range 64).all (fun b => Nat.beq (nbc (20480 + 64 * a + b)) (pcN 65536 (20480 + 64 * a + b)))) = true := by decide +kernel
theorem pcA_6 : (List.range 64).all (fun a => (List.range 64).all (fun b => Nat.beq (nbc (24576 + 64 * a + b)) (pcN 65536 (24576 + 64 * a + b)))) = true := by decide +kernel
theorem pcA_7 : (List.range 64).all (fun a => (List.range 64).all (fun b => Nat.beq (nbc (28672 + 64 * a + b)) (pcN 65536 (28672 + 64 * a + b)))) = true := by decide +kernel
theorem pcA_8 : (List.range 64).all (fun a => (List.range 64).all (fun b => Nat.beq (nbc (32768 + 64 * a + b)) (pcN 65536 (32768 + 64 * a + b)))) = true := by decide +kernel
theorem pcA_9 : (List.range 64).all (fun a => (List.range 64).all (fun b => Nat.beq (nbc (36864 + 64 * a + b)) (pcN 65536 (36864 + 64 * a + b)))) = true := by decide +kernel
theorem pcA_10 : (List.range 64).all (fun a => (List.range 64).all (fun b => Nat.beq (nbc (40960 + 64 * a + b)) (pcN 65536 (40960 + 64 * a + b)))) = true := by decide +kernel
theorem pcA_11 : (List.range 64).all (fun a => (List.range 64).all (fun b => Nat.beq (nbc (45056 + 64 * a + b)) (pcN 65536 (45056 + 64 * a + b)))) = true := by decide +kernel
theorem pcA_12 : (List.range 64).all (fun a => (List.range 64).all (fun b => Nat.beq (nbc (49152 + 64 * a + b)) (pcN 65536 (49152 + 64 * a + b)))) = true := by decide +kernel
theorem pcA_13 : (List.range 64).all (fun a => (List.range 64).all (fun b => Nat.beq (nbc (53248 + 64 * a + b)) (pcN 65536 (53248 + 64 * a + b)))) = true := by decide +kernel
theorem pcA_14 : (List.range 64).all (fun a => (List.range 64).all (fun b => Nat.beq (nbc (57344 + 64 * a + b)) (pcN 65536 (57344 + 64 * a + b)))) = true := by decide +kernel
theorem pcA_15 : (List.range 64).all (fun a => (List.range 64).all (fun b => Nat.beq (nbc (61440 + 64 * a + b)) (pcN 65536 (61440 + 64 * a + b)))) = true := by decide +kernel
theorem pc_all {s : Nat} (h : s < 65536) : nbc s = pcN 65536 s := by
  have e : s = 4096 * (s / 4096) + 64 * (s / 64 % 64) + s % 64 := by omega
  have ha : s / 64 % 64 ∈ List.range 64 := List.mem_range.mpr (Nat.mod_lt _ (by decide))
  have hb : s % 64 ∈ List.range 64 := List.mem_range.mpr (Nat.mod_lt _ (by decide))
  generalize s / 64 % 64 = a at e ha
  generalize s % 64 = b at e hb
  rw [e]
  have hd : s / 4096 < 16 := by omega
  generalize s / 4096 = d at hd
  rcases (by omega : d = 0 ∨ d = 1 ∨ d = 2 ∨ d = 3 ∨ d = 4 ∨ d = 5 ∨ d = 6 ∨ d = 7 ∨ d = 8 ∨ d = 9 ∨ d = 10 ∨ d = 11 ∨ d = 12 ∨ d = 13 ∨ d = 14 ∨ d = 15) with rfl | rfl | rfl | rfl | rfl | rfl | rfl | rfl | rfl | rfl | rfl | rfl | rfl | rfl | rfl | rfl
  · exact Nat.eq_of_beq_eq_true (List.all_eq_true.mp (List.all_eq_true.mp pcA_0 _ ha) _ hb)
  · exact Nat.eq_of_beq_eq_true (List.all_eq_true.mp (List.all_eq_true.mp pcA_1 _ ha) _ hb)
  · exact Nat.eq_of_beq_eq_true (List.all_eq_true.mp (List.all_eq_true.mp pcA_2 _ ha) _ hb)
  · exact Nat.eq_of_beq_eq_true (List.all_eq_true.mp (List.all_eq_true.mp pcA_3 _ ha) _ hb)
  · exact Nat.eq_of_beq_eq_true (List.all_eq_true.mp (List.all_eq_true.mp pcA_4 _ ha) _ hb)
  · exact Nat.eq_of_beq_eq_true (List.all_eq_true.mp (List.all_eq_true.mp pcA_5 _ ha) _ hb)
  · exact Nat.eq_of_beq_eq_true (List.all_eq_true.mp (List.all_eq_true.mp pcA_6 _ ha) _ hb)
  · exact Nat.eq_of_beq_eq_true (List.all_eq_true.mp (List.all_eq_true.mp pcA_7 _ ha) _ hb)
  · exact Nat.eq_of_beq_eq_true (List.all_eq_true.mp (List.all_eq_true.mp pcA_8 _ ha) _ hb)
  · exact Nat.eq_of_beq_eq_true (List.all_eq_true.mp (List.all_eq_true.mp pcA_9 _ ha) _ hb)
  · exact Nat.eq_of_beq_eq_true (List.all_eq_true.mp (List.all_eq_true.mp pcA_10 _ ha) _ hb)
  · exact Nat.eq_of_beq_eq_true (List.all_eq_true.mp (List.all_eq_true.mp pcA_11 _ ha) _ hb)
  · exact Nat.eq_of_beq_eq_true (List.all_eq_true.mp (List.all_eq_true.mp pcA_12 _ ha) _ hb)
  · exact Nat.eq_of_beq_eq_true (List.all_eq_true.mp (List.all_eq_true.mp pcA_13 _ ha) _ hb)
  · exact Nat.eq_of_beq_eq_true (List.all_eq_true.mp (List.all_eq_true.mp pcA_14 _ ha) _ hb)
  · exact Nat.eq_of_beq_eq_true (List.all_eq_true.mp (List.all_eq_true.mp pcA_15 _ ha) _ hb)
theorem bcn_w {s : Nat} (h : s < 65536) : bcn (nI s) = sBits 65536 (nI 0) (nI s) := by
  rw [bcn_n h, pc_k 65536 s 0 (by omega), pc_all h, Nat.zero_add]
/-- the places where a thing is -/
def sAp (r : Nat → Int32) (n : Nat) : Int32 := fo (fun t s => s ||| (nI 1 <<< (r (14 + 6 * t + 1) &&& 31))) n (nI 0)
theorem sAp_k (hG : Gd nt np r) : ∀ n, n ≤ nt → ∃ k, k < 65536 ∧ sAp r n = nI k := by
  intro n
  induction n with
  | zero => exact fun _ => ⟨0, by decide, rfl⟩
  | succ n ih =>
    intro hn
    obtain ⟨k, hk, e⟩ := ih (by omega)
    obtain ⟨y, hy, ey⟩ := (hG.2.2.2.2.2.1 n (by omega)).1
    refine ⟨k ||| 2 ^ y, Nat.or_lt_two_pow (n := 16) hk (Nat.pow_lt_pow_right (by decide) (by omega)), ?_⟩
    show sAp r n ||| (nI 1 <<< (r (14 + 6 * n + 1) &&& 31)) = _
    rw [e, ey, one_sh y (by omega), jI_or]
/-- halved together -/
def sHv : Nat → Int32 → Int32 × Int32
  | 0, y => (y, nI 1)
  | e + 1, y => if y - y / nI 2 * nI 2 = 0 then sHv e (y / nI 2) else (y, nI (2 ^ (e + 1)))
theorem pw_half : ∀ e, e < 4 → nI (2 ^ (e + 1)) / nI 2 = nI (2 ^ e) := by decide +kernel
theorem pw_le : ∀ e, e ≤ 4 → (nI (2 ^ e) ≤ nI 1 → e = 0) ∧ (¬ nI (2 ^ e) ≤ nI 1 → 1 ≤ e) := by decide +kernel
theorem pw_rem : ∀ e, e ≤ 4 → (nI (2 ^ e) - nI (2 ^ e) / nI 2 * nI 2 = 0 → 1 ≤ e) ∧ (¬ nI (2 ^ e) - nI (2 ^ e) / nI 2 * nI 2 = 0 → e = 0) := by decide +kernel
theorem sHv_n {e : Nat} {y : Int32} (h : ¬ y - y / nI 2 * nI 2 = 0) : sHv e y = (y, nI (2 ^ e)) := by
  cases e with
  | zero => rfl
  | succ e => exact if_neg h
theorem sHv_y {e : Nat} {y : Int32} (h : y - y / nI 2 * nI 2 = 0) (he : 1 ≤ e) : sHv e y = sHv (e - 1) (y / nI 2) := by
  cases e with
  | zero => omega
  | succ e => exact if_pos h
def sPw (c : Int64) (n : Nat) : Int64 := fo (fun _ g => g * c) n 1
def sOdd (w : Int32) (z : Int32 × Int32) (a : Nat) : Int64 := sPw (if w = 0 then z.1.toInt64 else z.2.toInt64) a
def fOdds (r : Nat → Int32) (nt np : Nat) (a1 a2 : Int32) : Int64 := if bI (nI 0 ≤ a1 ∧ a1 ≤ nI 14) = 0 then Int32.toInt64 (-1000001) else if bI (nI 0 ≤ a2 ∧ a2 ≤ nI 1) = 0 then Int32.toInt64 (-1000001) else sOdd a2 (sHv 4 (nI 16 - sBits 65536 (nI 0) (sAp r nt))) a1.toNatClampNeg
theorem gv85l (hR : Rel 1 nt np M r) (hV : Vs nt np r) : ∀ (n k : Nat) (s : Int32), nt - k < n → k ≤ nt → s = sAp r k → mEv X (fun z D => z = some (.int (sAp r nt)) ∧ D = con M) 85 4 [some (.ref 1), some (.int s), some (.int (nI k))] [] (con M) := by
  have hm : mMet 85 = some _ := rfl
  intro n
  induction n with
  | zero =>
    intro k s hkn hkb hs
    omega
  | succ n ih =>
    intro k s hkn hkb hs
    have hn8 := hV.1
    have hp8 := hV.2.1
    refine x_iload_n hm rfl rfl ?_
    refine x_aload_n hm rfl rfl ?_
    refine x_getf hm rfl (gI rfl rfl) ?_
    rw [hR.1]
    refine x_icmp_ge hm rfl (t := 31) rfl (fun h1 => ?_) (fun h1 => ?_)
    · obtain rfl : k = nt := Nat.le_antisymm hkb ((jI_le (by omega) (by omega)).mp h1)
      refine x_iload_n hm rfl rfl ?_
      refine x_iret hm rfl rfl (by first | rfl | exact bI_nar | decide) ?_
      rw [hs]
      exact ⟨rfl, rfl⟩
    · have hk : k < nt := Nat.lt_of_not_le fun h => h1 (nI_le h (by omega))
      refine x_iload_n hm rfl rfl ?_
      refine x_iconst hm rfl (v := nI 1) (by decide) ?_
      refine x_aload_n hm rfl rfl ?_
      refine x_getf hm rfl (gR rfl rfl) ?_
      refine x_iconst hm rfl (v := nI 1) (by decide) ?_
      refine x_aald hm rfl (lQ _ (by decide) rfl rfl (by omega) (by decide)) ?_
      refine x_iload_n hm rfl rfl ?_
      refine x_iald hm rfl (lI rfl (by omega) (by decide)) ?_
      rw [show M 4 k = _ from hR.at_ hk]
      refine x_ishl hm rfl ?_
      refine x_ior hm rfl ?_
      refine x_istore_n hm rfl rfl ?_
      refine x_iinc hm rfl rfl (v := nI 1) (by decide) rfl ?_
      rw [jI_add]
      refine x_goto hm rfl (t := 4) rfl ?_
      first
        | exact ih _ _ (by omega) (by omega) (by rw [hs]; exact rfl)
theorem gv85 (hR : Rel 1 nt np M r) (hV : Vs nt np r) : mT X 85 [.ref 1] (con M) (some (.int (sAp r nt))) (con M) := by
  refine mT.of (row := _) rfl (Nat.le_of_ble_eq_true rfl) ?_
  have hm : mMet 85 = some _ := rfl
  refine x_iconst hm rfl (v := nI 0) (by decide) ?_
  refine x_istore_n hm rfl rfl ?_
  refine x_iconst hm rfl (v := nI 0) (by decide) ?_
  refine x_istore_n hm rfl rfl ?_
  exact gv85l hR hV _ 0 _ (Nat.lt_succ_self _) (Nat.zero_le _) rfl
theorem g36w {s : Nat} (hs : s < 65536) : mT X 36 [.int (nI s)] (con M) (some (.int (sBits 65536 (nI 0) (nI s)))) (con M) := by
  refine mT.of (row := _) rfl (Nat.le_of_ble_eq_true rfl) ?_
  have hm : mMet 36 = some _ := rfl
  refine x_iload_n hm rfl rfl ?_
  refine x_iload_n hm rfl rfl ?_
  refine x_iconst hm rfl (v := nI 1) (by decide) ?_
  refine x_iushr hm rfl ?_
  refine x_ldc_wI hm rfl (v := nI 1431655765) (by decide) ?_
  refine x_iand hm rfl ?_
  refine x_isub hm rfl ?_
  refine x_istore_n hm rfl rfl ?_
  refine x_iload_n hm rfl rfl ?_
  refine x_ldc_wI hm rfl (v := nI 858993459) (by decide) ?_
  refine x_iand hm rfl ?_
  refine x_iload_n hm rfl rfl ?_
  refine x_iconst hm rfl (v := nI 2) (by decide) ?_
  refine x_iushr hm rfl ?_
  refine x_ldc_wI hm rfl (v := nI 858993459) (by decide) ?_
  refine x_iand hm rfl ?_
  refine x_iadd hm rfl ?_
  refine x_istore_n hm rfl rfl ?_
  refine x_iload_n hm rfl rfl ?_
  refine x_iload_n hm rfl rfl ?_
  refine x_iconst hm rfl (v := nI 4) (by decide) ?_
  refine x_iushr hm rfl ?_
  refine x_iadd hm rfl ?_
  refine x_ldc_wI hm rfl (v := nI 252645135) (by decide) ?_
  refine x_iand hm rfl ?_
  refine x_istore_n hm rfl rfl ?_
  refine x_iload_n hm rfl rfl ?_
  refine x_iload_n hm rfl rfl ?_
  refine x_bipush hm rfl (v := nI 8) (by decide) ?_
  refine x_iushr hm rfl ?_
  refine x_iadd hm rfl ?_
  refine x_istore_n hm rfl rfl ?_
  refine x_iload_n hm rfl rfl ?_
  refine x_iload_n hm rfl rfl ?_
  refine x_bipush hm rfl (v := nI 16) (by decide) ?_
  refine x_iushr hm rfl ?_
  refine x_iadd hm rfl ?_
  refine x_istore_n hm rfl rfl ?_
  refine x_iload_n hm rfl rfl ?_
  refine x_bipush hm rfl (v := nI 63) (by decide) ?_
  refine x_iand hm rfl ?_
  refine x_iret hm rfl rfl (by first | rfl | exact bI_nar | decide) ?_
  exact qt (congrArg Value.int (bcn_w hs))
theorem gv84b {a : Nat} {w x y x3 : Int32} (ha : a ≤ 1000) : ∀ (n k : Nat) (g : Int64), a - k < n → k ≤ a → g = sPw (if w = 0 then x.toInt64 else y.toInt64) k → mEv X (QL (fun v _ => v = sPw (if w = 0 then x.toInt64 else y.toInt64) a)) 84 76 [some (.ref 0), some (.int (nI a)), some (.int w), some (.int x), some (.int y), some (.long g), none, some (.int (nI k))] [] (con M) := by
  have hm : mMet 84 = some _ := rfl
  intro n
  induction n with
  | zero =>
    intro k g hkn hkb hg
    omega
  | succ n ih =>
    intro k g hkn hkb hg
    refine x_iload hm rfl rfl ?_
    refine x_iload_n hm rfl rfl ?_
    refine x_icmp_ge hm rfl (t := 105) rfl (fun h1 => ?_) (fun h1 => ?_)
    · have hka : k = a := Nat.le_antisymm hkb ((jI_le (by omega) (by omega)).mp h1)
      refine x_lload hm rfl rfl ?_
      refine x_lret hm rfl rfl ?_
      exact ⟨_, _, rfl, rfl, by rw [hg, hka]⟩
    · have hk : k < a := Nat.lt_of_not_le fun h => h1 (nI_le h (by omega))
      refine x_lload hm rfl rfl ?_
      refine x_iload_n hm rfl rfl ?_
      refine x_if_ne hm rfl (t := 93) rfl (fun h2 => ?_) (fun h2 => ?_)
      · have hst : g * y.toInt64 = sPw (if w = 0 then x.toInt64 else y.toInt64) (k + 1) := by
          rw [hg]
          show _ = sPw (if w = 0 then x.toInt64 else y.toInt64) k * (if w = 0 then x.toInt64 else y.toInt64)
          rw [if_neg h2]
        refine x_iload hm rfl rfl ?_
        refine x_i2l hm rfl ?_
        refine x_lmul hm rfl ?_
        refine x_lstore hm rfl rfl ?_
        refine x_iinc hm rfl rfl (v := nI 1) (by decide) rfl ?_
        rw [jI_add]
        refine x_goto hm rfl (t := 76) rfl ?_
        exact ih _ _ (by omega) (by omega) hst
      · have hst : g * x.toInt64 = sPw (if w = 0 then x.toInt64 else y.toInt64) (k + 1) := by
          rw [hg]
          show _ = sPw (if w = 0 then x.toInt64 else y.toInt64) k * (if w = 0 then x.toInt64 else y.toInt64)
          rw [if_pos h2]
        refine x_iload_n hm rfl rfl ?_
        refine x_i2l hm rfl ?_
        refine x_goto hm rfl (t := 96) rfl ?_
        refine x_lmul hm rfl ?_
        refine x_lstore hm rfl rfl ?_
        refine x_iinc hm rfl rfl (v := nI 1) (by decide) rfl ?_
        rw [jI_add]
        refine x_goto hm rfl (t := 76) rfl ?_
        exact ih _ _ (by omega) (by omega) hst
theorem gv84a {a : Nat} {w : Int32} {Z : Int32 × Int32} (ha : a ≤ 1000) : ∀ (n e : Nat) (y : Int32), e < n → e ≤ 4 → Z = sHv e y → mEv X (QL (fun v _ => v = sOdd w Z a)) 84 45 [some (.ref 0), some (.int (nI a)), some (.int w), some (.int y), some (.int (nI (2 ^ e))), none, none, none] [] (con M) := by
  have hm : mMet 84 = some _ := rfl
  intro n
  induction n with
  | zero =>
    intro e y he he4 hz
    omega
  | succ n ih =>
    intro e y he he4 hz
    refine x_iload hm rfl rfl ?_
    refine x_iconst hm rfl (v := nI 1) (by decide) ?_
    refine x_icmp_le hm rfl (t := 70) rfl (fun h1 => ?_) (fun h1 => ?_)
    · have h0 := (pw_le e he4).1 h1
      have hz2 : Z = (y, nI (2 ^ e)) := by rw [hz, h0]; rfl
      refine x_lconst hm rfl rfl ?_
      refine x_lstore hm rfl rfl ?_
      refine x_iconst hm rfl (v := nI 0) (by decide) ?_
      refine x_istore hm rfl rfl ?_
      rw [show sOdd w Z a = sPw (if w = 0 then y.toInt64 else (nI (2 ^ e)).toInt64) a by rw [hz2]; rfl]
      exact gv84b (x3 := 0) ha _ 0 _ (Nat.lt_succ_self _) (Nat.zero_le _) rfl
    · have h1e := (pw_le e he4).2 h1
      refine x_iload_n hm rfl rfl ?_
      refine x_iconst hm rfl (v := nI 2) (by decide) ?_
      refine x_irem hm rfl (by decide) ?_
      refine x_if_ne hm rfl (t := 70) rfl (fun h2 => ?_) (fun h2 => ?_)
      · have hz2 : Z = (y, nI (2 ^ e)) := hz.trans (sHv_n h2)
        refine x_lconst hm rfl rfl ?_
        refine x_lstore hm rfl rfl ?_
        refine x_iconst hm rfl (v := nI 0) (by decide) ?_
        refine x_istore hm rfl rfl ?_
        rw [show sOdd w Z a = sPw (if w = 0 then y.toInt64 else (nI (2 ^ e)).toInt64) a by rw [hz2]; rfl]
        exact gv84b (x3 := 0) ha _ 0 _ (Nat.lt_succ_self _) (Nat.zero_le _) rfl
      · have hz3 := hz.trans (sHv_y h2 h1e)
        refine x_iload_n hm rfl rfl ?_
        refine x_iconst hm rfl (v := nI 2) (by decide) ?_
        refine x_idiv hm rfl (by decide) ?_
        refine x_istore_n hm rfl rfl ?_
        refine x_iload hm rfl rfl ?_
        refine x_iconst hm rfl (v := nI 2) (by decide) ?_
        refine x_idiv hm rfl (by decide) ?_
        rw [show nI (2 ^ e) / nI 2 = nI (2 ^ (e - 1)) by have := pw_half (e - 1) (by omega); rwa [Nat.sub_add_cancel h1e] at this]
        refine x_istore hm rfl rfl ?_
        refine x_goto hm rfl (t := 45) rfl ?_
        exact ih (e - 1) _ (by omega) (by omega) hz3
theorem gv84 {a1 a2 : Int32} (hR : Rel 1 nt np M r) (hG : Gd nt np r) (hc : M 1 7 = -1) : ∃ v M', mT X 84 [.ref 0, .int a1, .int a2] (con M) (some (.long v)) (con M') ∧ v = fOdds r nt np a1 a2 := by
  refine tl_of (row := _) rfl (Nat.le_of_ble_eq_true rfl) ?_
  have hm : mMet 84 = some _ := rfl
  have hV := hG.2.2.1
  have hn8 := hV.1
  have hp8 := hV.2.1
  obtain ⟨sp, hsp, esp⟩ := sAp_k hG nt (Nat.le_refl _)
  refine x_iload_n hm rfl rfl ?_
  refine x_iconst hm rfl (v := nI 0) (by decide) ?_
  refine x_bipush hm rfl (v := nI 14) (by decide) ?_
  refine x_callS hm rfl rfl (t6) ?_
  refine x_if_eq hm rfl (t := 19) rfl (fun h1 => ?_) (fun h1 => ?_)
  · refine x_aload_n hm rfl rfl ?_
    refine x_ldcI hm rfl (v := (-1000001 : Int32)) (by decide +kernel) ?_
    refine x_cVi hm rfl rfl (t7 (by decide +kernel)) (fun v2 M2 r2 => ?_)
    refine x_i2l hm rfl ?_
    refine x_lret hm rfl rfl ?_
    first
      | (have hq : fOdds r nt np a1 a2 = Int32.toInt64 (-1000001) := by
           unfold fOdds
           rw [if_pos (by assumption)]
         exact ⟨_, _, rfl, rfl, (congrArg Int32.toInt64 r2.1).trans hq.symm⟩)
      | (have hq : fOdds r nt np (nI a) a2 = Int32.toInt64 (-1000001) := by
           unfold fOdds
           rw [if_neg (by assumption), if_pos (by assumption)]
         exact ⟨_, _, rfl, rfl, (congrArg Int32.toInt64 r2.1).trans hq.symm⟩)
  · obtain ⟨a, ha, rfl⟩ := le_k (by omega) (bI_ne0 h1)
    refine x_iload_n hm rfl rfl ?_
    refine x_iconst hm rfl (v := nI 0) (by decide) ?_
    refine x_iconst hm rfl (v := nI 1) (by decide) ?_
    refine x_callS hm rfl rfl (t6) ?_
    refine x_if_ne hm rfl (t := 27) rfl (fun h3 => ?_) (fun h3 => ?_)
    · refine x_bipush hm rfl (v := nI 16) (by decide) ?_
      refine x_aload_n hm rfl rfl ?_
      refine x_getf hm rfl (gR rfl rfl) ?_
      refine x_callV hm rfl rfl (gv85 hR hV) ?_
      rw [esp]
      refine x_callS hm rfl rfl (g36w hsp) ?_
      rw [← esp]
      refine x_isub hm rfl ?_
      refine x_istore_n hm rfl rfl ?_
      refine x_bipush hm rfl (v := nI 16) (by decide) ?_
      refine x_istore hm rfl rfl ?_
      have hq : fOdds r nt np (nI a) a2 = sOdd a2 (sHv 4 (nI 16 - sBits 65536 (nI 0) (sAp r nt))) a := by
        unfold fOdds
        rw [if_neg (by assumption), if_neg (by assumption), jI_nat (k := a) (by omega)]
      rw [hq]
      exact gv84a (by omega) _ 4 _ (Nat.lt_succ_self _) (Nat.le_refl _) rfl
    · refine x_aload_n hm rfl rfl ?_
      refine x_ldcI hm rfl (v := (-1000001 : Int32)) (by decide +kernel) ?_
      refine x_cVi hm rfl rfl (t7 (by decide +kernel)) (fun v4 M4 r4 => ?_)
      refine x_i2l hm rfl ?_
      refine x_lret hm rfl rfl ?_
      first
        | (have hq : fOdds r nt np a1 a2 = Int32.toInt64 (-1000001) := by
             unfold fOdds
             rw [if_pos (by assumption)]
           exact ⟨_, _, rfl, rfl, (congrArg Int32.toInt64 r4.1).trans hq.symm⟩)
        | (have hq : fOdds r nt np (nI a) a2 = Int32.toInt64 (-1000001) := by
             unfold fOdds
             rw [if_neg (by assumption), if_pos (by assumption)]
           exact ⟨_, _, rfl, rfl, (congrArg Int32.toInt64 r4.1).trans hq.symm⟩)
theorem m168w {a1 : Int32} : ∀ (n k : Nat) (s : Int32), k < n → k < 2147483648 → ∀ f, k < f → mEv X (fun r D => r = some (.int (sBits f s (nI k))) ∧ D = con M) 168 4 [some (.int a1), some (.int s), some (.int (nI k))] [] (con M) := by
  have hm : mMet 168 = some _ := rfl
  intro n
  induction n with
  | zero =>
    intro k s hkn hk f hf
    omega
  | succ n ih =>
    intro k s hkn hk f hf
    obtain ⟨f, rfl⟩ : ∃ g, f = g + 1 := ⟨f - 1, by omega⟩
    refine x_iload_n hm rfl rfl ?_
    refine x_if_eq hm rfl (t := 20) rfl (fun h1 => ?_) (fun h1 => ?_)
    · have hq : sBits (f + 1) s (nI k) = s := if_pos h1
      refine x_iload_n hm rfl rfl ?_
      refine x_iret hm rfl rfl (by first | rfl | exact bI_nar | decide) ?_
      exact ⟨by rw [hq], rfl⟩
    · have h0 : ¬ k = 0 := fun e => h1 (by rw [e]; rfl)
      have hq : sBits (f + 1) s (nI k) = sBits f (s + nI 1) (nI k &&& (nI k - nI 1)) := if_neg h1
      have hk1 : nI k &&& (nI k - nI 1) = nI (k &&& (k - 1)) := by rw [sub_le (by omega), jI_and]
      have hk2 : k &&& (k - 1) ≤ k - 1 := Nat.and_le_right
      refine x_iinc hm rfl rfl (v := nI 1) (by decide) rfl ?_
      refine x_iload_n hm rfl rfl ?_
      refine x_iload_n hm rfl rfl ?_
      refine x_iconst hm rfl (v := nI 1) (by decide) ?_
      refine x_isub hm rfl ?_
      refine x_iand hm rfl ?_
      refine x_istore_n hm rfl rfl ?_
      refine x_goto hm rfl (t := 4) rfl ?_
      rw [hq, hk1]
      exact ih _ _ (by omega) (by omega) f (by omega)
theorem g168w {s : Nat} (hs : s < 65536) : mT X 168 [.int (nI s)] (con M) (some (.int (sBits 65536 (nI 0) (nI s)))) (con M) := by
  refine mT.of (row := _) rfl (Nat.le_of_ble_eq_true rfl) ?_
  have hm : mMet 168 = some _ := rfl
  refine x_iconst hm rfl (v := nI 0) (by decide) ?_
  refine x_istore_n hm rfl rfl ?_
  refine x_iload_n hm rfl rfl ?_
  refine x_istore_n hm rfl rfl ?_
  exact m168w _ s _ (Nat.lt_succ_self _) (by omega) 65536 hs
theorem gr216c {a : Nat} {w x y x3 : Int32} (ha : a ≤ 1000) : ∀ (n k : Nat) (g : Int64), a - k < n → k ≤ a → g = sPw (if w = 0 then x.toInt64 else y.toInt64) k → mEv X (QL (fun v _ => v = sPw (if w = 0 then x.toInt64 else y.toInt64) a)) 216 109 [some (.ref 66), some (.int (nI a)), some (.int w), some (.int x3), some (.int x), some (.int y), some (.long g), none, some (.int (nI k))] [] (con M) := by
  have hm : mMet 216 = some _ := rfl
  intro n
  induction n with
  | zero =>
    intro k g hkn hkb hg
    omega
  | succ n ih =>
    intro k g hkn hkb hg
    refine x_iload hm rfl rfl ?_
    refine x_iload_n hm rfl rfl ?_
    refine x_icmp_ge hm rfl (t := 139) rfl (fun h1 => ?_) (fun h1 => ?_)
    · have hka : k = a := Nat.le_antisymm hkb ((jI_le (by omega) (by omega)).mp h1)
      refine x_lload hm rfl rfl ?_
      refine x_lret hm rfl rfl ?_
      exact ⟨_, _, rfl, rfl, by rw [hg, hka]⟩
    · have hk : k < a := Nat.lt_of_not_le fun h => h1 (nI_le h (by omega))
      refine x_lload hm rfl rfl ?_
      refine x_iload_n hm rfl rfl ?_
      refine x_if_ne hm rfl (t := 127) rfl (fun h2 => ?_) (fun h2 => ?_)
      · have hst : g * y.toInt64 = sPw (if w = 0 then x.toInt64 else y.toInt64) (k + 1) := by
          rw [hg]
          show _ = sPw (if w = 0 then x.toInt64 else y.toInt64) k * (if w = 0 then x.toInt64 else y.toInt64)
          rw [if_neg h2]
        refine x_iload hm rfl rfl ?_
        refine x_i2l hm rfl ?_
        refine x_lmul hm rfl ?_
        refine x_lstore hm rfl rfl ?_
        refine x_iinc hm rfl rfl (v := nI 1) (by decide) rfl ?_
        rw [jI_add]
        refine x_goto hm rfl (t := 109) rfl ?_
        exact ih _ _ (by omega) (by omega) hst
      · have hst : g * x.toInt64 = sPw (if w = 0 then x.toInt64 else y.toInt64) (k + 1) := by
          rw [hg]
          show _ = sPw (if w = 0 then x.toInt64 else y.toInt64) k * (if w = 0 then x.toInt64 else y.toInt64)
          rw [if_pos h2]
        refine x_iload hm rfl rfl ?_
        refine x_i2l hm rfl ?_
        refine x_goto hm rfl (t := 130) rfl ?_
        refine x_lmul hm rfl ?_
        refine x_lstore hm rfl rfl ?_
        refine x_iinc hm rfl rfl (v := nI 1) (by decide) rfl ?_
        rw [jI_add]
        refine x_goto hm rfl (t := 109) rfl ?_
        exact ih _ _ (by omega) (by omega) hst
theorem gr216b {a : Nat} {w x3 : Int32} {Z : Int32 × Int32} (ha : a ≤ 1000) : ∀ (n e : Nat) (y : Int32), e < n → e ≤ 4 → Z = sHv e y → mEv X (QL (fun v _ => v = sOdd w Z a)) 216 74 [some (.ref 66), some (.int (nI a)), some (.int w), some (.int x3), some (.int y), some (.int (nI (2 ^ e))), none, none, none] [] (con M) := by
  have hm : mMet 216 = some _ := rfl
  intro n
  induction n with
  | zero =>
    intro e y he he4 hz
    omega
  | succ n ih =>
    intro e y he he4 hz
    refine x_iload hm rfl rfl ?_
    refine x_iconst hm rfl (v := nI 2) (by decide) ?_
    refine x_irem hm rfl (by decide) ?_
    refine x_if_ne hm rfl (t := 103) rfl (fun h1 => ?_) (fun h1 => ?_)
    · have hz2 : Z = (y, nI (2 ^ e)) := hz.trans (sHv_n h1)
      refine x_lconst hm rfl rfl ?_
      refine x_lstore hm rfl rfl ?_
      refine x_iconst hm rfl (v := nI 0) (by decide) ?_
      refine x_istore hm rfl rfl ?_
      rw [show sOdd w Z a = sPw (if w = 0 then y.toInt64 else (nI (2 ^ e)).toInt64) a by rw [hz2]; rfl]
      exact gr216c ha _ 0 _ (Nat.lt_succ_self _) (Nat.zero_le _) rfl
    · have hr0 := h1
      refine x_iload hm rfl rfl ?_
      refine x_iconst hm rfl (v := nI 2) (by decide) ?_
      refine x_irem hm rfl (by decide) ?_
      refine x_if_ne hm rfl (t := 103) rfl (fun h2 => ?_) (fun h2 => ?_)
      · have h0 := (pw_rem e he4).2 h2
        have hz2 : Z = (y, nI (2 ^ e)) := by rw [hz, h0]; rfl
        refine x_lconst hm rfl rfl ?_
        refine x_lstore hm rfl rfl ?_
        refine x_iconst hm rfl (v := nI 0) (by decide) ?_
        refine x_istore hm rfl rfl ?_
        rw [show sOdd w Z a = sPw (if w = 0 then y.toInt64 else (nI (2 ^ e)).toInt64) a by rw [hz2]; rfl]
        exact gr216c ha _ 0 _ (Nat.lt_succ_self _) (Nat.zero_le _) rfl
      · have h1e := (pw_rem e he4).1 h2
        have hz3 := hz.trans (sHv_y hr0 h1e)
        refine x_iload hm rfl rfl ?_
        refine x_iconst hm rfl (v := nI 2) (by decide) ?_
        refine x_idiv hm rfl (by decide) ?_
        refine x_istore hm rfl rfl ?_
        refine x_iload hm rfl rfl ?_
        refine x_iconst hm rfl (v := nI 2) (by decide) ?_
        refine x_idiv hm rfl (by decide) ?_
        rw [show nI (2 ^ e) / nI 2 = nI (2 ^ (e - 1)) by have := pw_half (e - 1) (by omega); rwa [Nat.sub_add_cancel h1e] at this]
        refine x_istore hm rfl rfl ?_
        refine x_goto hm rfl (t := 74) rfl ?_
        exact ih (e - 1) _ (by omega) (by omega) hz3
theorem gr216a {a : Nat} {w : Int32} (ha : a ≤ 1000) (hG : Gd nt np r) (h67 : M 67 = r) (hV : Vs nt np r) (hnt : M 67 1 = nI nt) : ∀ (n k : Nat) (s : Int32), nt - k < n → k ≤ nt → s = sAp r k → mEv X (QL (fun v _ => v = sOdd w (sHv 4 (nI 16 - sBits 65536 (nI 0) (sAp r nt))) a)) 216 32 [some (.ref 66), some (.int (nI a)), some (.int w), some (.int s), some (.int (nI k)), none, none, none, none] [] (con M) := by
  have hm : mMet 216 = some _ := rfl
  intro n
  induction n with
  | zero =>
    intro k s hkn hkb hs
    omega
  | succ n ih =>
    intro k s hkn hkb hs
    have hn8 := hV.1
    have hp8 := hV.2.1
    obtain ⟨sp, hsp, esp⟩ := sAp_k hG nt (Nat.le_refl _)
    refine x_iload hm rfl rfl ?_
    refine x_aload_n hm rfl rfl ?_
    refine x_getf hm rfl (gR rfl rfl) ?_
    refine x_iconst hm rfl (v := nI 1) (by decide) ?_
    refine x_iald hm rfl (lI rfl (by omega) (by decide)) ?_
    rw [hnt]
    refine x_icmp_ge hm rfl (t := 61) rfl (fun h1 => ?_) (fun h1 => ?_)
    · obtain rfl : k = nt := Nat.le_antisymm hkb ((jI_le (by omega) (by omega)).mp h1)
      rw [hs, esp]
      refine x_bipush hm rfl (v := nI 16) (by decide) ?_
      refine x_iload_n hm rfl rfl ?_
      refine x_callS hm rfl rfl (g168w hsp) ?_
      refine x_isub hm rfl ?_
      refine x_istore hm rfl rfl ?_
      refine x_bipush hm rfl (v := nI 16) (by decide) ?_
      refine x_istore hm rfl rfl ?_
      exact gr216b ha _ 4 _ (Nat.lt_succ_self _) (Nat.le_refl _) (by first | rfl | rw [esp])
    · have hk : k < nt := Nat.lt_of_not_le fun h => h1 (nI_le h (by omega))
      refine x_iload_n hm rfl rfl ?_
      refine x_iconst hm rfl (v := nI 1) (by decide) ?_
      refine x_aload_n hm rfl rfl ?_
      refine x_iload hm rfl rfl ?_
      refine x_iconst hm rfl (v := nI 1) (by decide) ?_
      refine x_callV hm rfl rfl (t143 (by omega) (by omega)) ?_
      rw [h67]
      refine x_ishl hm rfl ?_
      refine x_ior hm rfl ?_
      refine x_istore_n hm rfl rfl ?_
      refine x_iinc hm rfl rfl (v := nI 1) (by decide) rfl ?_
      rw [jI_add]
      refine x_goto hm rfl (t := 32) rfl ?_
      exact ih _ _ (by omega) (by omega) (by rw [hs]; rfl)
theorem gr216 {a1 a2 : Int32} (hI : Inv M) (h67 : M 67 = r) (hG : Gd nt np r) (h6 : M 66 6 = -1) : ∃ v M', mT X 216 [.ref 66, .int a1, .int a2] (con M) (some (.long v)) (con M') ∧ v = fOdds r nt np a1 a2 := by
  refine tl_of (row := _) rfl (Nat.le_of_ble_eq_true rfl) ?_
  have hm : mMet 216 = some _ := rfl
  have hV := hG.2.2.1
  have hn8 := hV.1
  have hp8 := hV.2.1
  have hW := hI.1
  have hnt : M 67 1 = nI nt := (congrFun h67 1).trans hG.1
  have hnp : M 67 2 = nI np := (congrFun h67 2).trans hG.2.1
  refine x_iload_n hm rfl rfl ?_
  refine x_iconst hm rfl (v := nI 0) (by decide) ?_
  refine x_bipush hm rfl (v := nI 14) (by decide) ?_
  refine x_callS hm rfl rfl (t133) ?_
  refine x_if_eq hm rfl (t := 19) rfl (fun h1 => ?_) (fun h1 => ?_)
  · refine x_aload_n hm rfl rfl ?_
    refine x_ldcI hm rfl (v := (-1000001 : Int32)) (by decide +kernel) ?_
    refine x_callV hm rfl rfl (e135 (by decide +kernel)) ?_
    refine x_i2l hm rfl ?_
    refine x_lret hm rfl rfl ?_
    first
      | (have hq : fOdds r nt np a1 a2 = Int32.toInt64 (-1000001) := by
           unfold fOdds
           rw [if_pos (by assumption)]
         exact ⟨_, _, rfl, rfl, hq.symm⟩)
      | (have hq : fOdds r nt np (nI a) a2 = Int32.toInt64 (-1000001) := by
           unfold fOdds
           rw [if_neg (by assumption), if_pos (by assumption)]
         exact ⟨_, _, rfl, rfl, hq.symm⟩)
  · obtain ⟨a, ha, rfl⟩ := le_k (by omega) (bI_ne0 h1)
    refine x_iload_n hm rfl rfl ?_
    refine x_iconst hm rfl (v := nI 0) (by decide) ?_
    refine x_iconst hm rfl (v := nI 1) (by decide) ?_
    refine x_callS hm rfl rfl (t133) ?_
    refine x_if_ne hm rfl (t := 27) rfl (fun h2 => ?_) (fun h2 => ?_)
    · refine x_iconst hm rfl (v := nI 0) (by decide) ?_
      refine x_istore_n hm rfl rfl ?_
      refine x_iconst hm rfl (v := nI 0) (by decide) ?_
      refine x_istore hm rfl rfl ?_
      have hq : fOdds r nt np (nI a) a2 = sOdd a2 (sHv 4 (nI 16 - sBits 65536 (nI 0) (sAp r nt))) a := by
        unfold fOdds
        rw [if_neg (by assumption), if_neg (by assumption), jI_nat (k := a) (by omega)]
      rw [hq]
      exact gr216a (by omega) hG h67 hV hnt _ 0 _ (Nat.lt_succ_self _) (Nat.zero_le _) rfl
    · refine x_aload_n hm rfl rfl ?_
      refine x_ldcI hm rfl (v := (-1000001 : Int32)) (by decide +kernel) ?_
      refine x_callV hm rfl rfl (e135 (by decide +kernel)) ?_
      refine x_i2l hm rfl ?_
      refine x_lret hm rfl rfl ?_
      first
        | (have hq : fOdds r nt np a1 a2 = Int32.toInt64 (-1000001) := by
             unfold fOdds
             rw [if_pos (by assumption)]
           exact ⟨_, _, rfl, rfl, hq.symm⟩)
        | (have hq : fOdds r nt np (nI a) a2 = Int32.toInt64 (-1000001) := by
             unfold fOdds
             rw [if_neg (by assumption), if_pos (by assumption)]
           exact ⟨_, _, rfl, rfl, hq.symm⟩)
theorem j_odds {a1 a2 : Int32} (hJ : J M) : JL X 84 216 [.ref 0, .int a1, .int a2] [.ref 66, .int a1, .int a2] M Eq := by
  obtain ⟨nt, np, hR, h1, h2, hV, hr0, hc7⟩ := hJ.2.2.1
  have g : Gd nt np (M 67) := ⟨h1, h2, hV, hr0⟩
  obtain ⟨v, M1, a1', a2'⟩ := t84 (X := X) (a1 := a1) (a2 := a2) hJ.1.1
  obtain ⟨v2, M3, c1, c2⟩ := gv84 (X := X) (a1 := a1) (a2 := a2) hR g hc7
  have e1 := (a1'.det c1).1
  have j1 := hJ.qc cn_cn (a2'.cn hJ.2.1)
  have k67 : cnm M1 67 = M 67 := (a2'.cn hJ.2.1).2 67 (by decide)
  obtain ⟨w, M2, b1, b2⟩ := t216 (X := X) (a1 := a1) (a2 := a2) j1.1
  obtain ⟨w2, M4, d1, d2⟩ := gr216 (X := X) (a1 := a1) (a2 := a2) j1.1 k67 g j1.2.2.2.2.2.2
  have e2 := (b1.det d1).1
  refine ⟨v, cnm M1, w, cnm M2, by rw [con_cn]; exact a1', by rw [con_cn (M := M2)]; exact b1, j1.qr cn_cn (b2.rq.cn j1.2.1), ?_⟩
  have f1 : v = v2 := by injection (Option.some.inj e1)
  have f2 : w = w2 := by injection (Option.some.inj e2)
  rw [f1, c2, f2, d2]
end OD
end
