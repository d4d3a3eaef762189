/-! ===== texts: the class token by token ===== -/
def bt (n : Nat) : Int32 := (nI n).toInt8.toInt32
theorem bt_all : ∀ n, n < 256 → (n < 128 → bt n = nI n) ∧ (128 ≤ n → bt n < 0) := by decide +kernel
theorem bt_in {n lo hi : Nat} (h : n < 256) (hh : hi < 128) (hl : lo ≤ 1000) : (nI lo ≤ bt n ∧ bt n ≤ nI hi) ↔ (lo ≤ n ∧ n ≤ hi) := by
  rcases Nat.lt_or_ge n 128 with g | g
  · rw [(bt_all n h).1 g, jI_le (by omega) (by omega), jI_le (by omega) (by omega)]
  · have e := (bt_all n h).2 g
    refine ⟨fun z => absurd z.1 ?_, fun z => by omega⟩
    rw [Int32.le_iff_toInt_le, jI_int (by omega)]
    rw [Int32.lt_iff_toInt_lt] at e
    have e0 : (0 : Int32).toInt = 0 := by decide +kernel
    omega
theorem bt_eq {n x : Nat} (h : n < 256) (hx : x < 128) : bt n = nI x ↔ n = x := by
  rcases Nat.lt_or_ge n 128 with g | g
  · rw [(bt_all n h).1 g]
    exact ⟨fun e => jI_inj (by omega) (by omega) e, fun e => by rw [e]⟩
  · have e := (bt_all n h).2 g
    refine ⟨fun z => ?_, fun z => by omega⟩
    rw [z, Int32.lt_iff_toInt_lt, jI_int (by omega)] at e
    have e0 : (0 : Int32).toInt = 0 := by decide +kernel
    omega
/-- the class's word for a token's sort -/
def tkc (T : Nat → Nat) (b s : Nat) : Int32 := if s = 3 then (if T b = 59 then nI 3 else nI 4) else nI s
theorem tkc_o {T : Nat → Nat} {b s : Nat} (h : ¬ s = 3) : tkc T b s = nI s := if_neg h
theorem tkc_e {T : Nat → Nat} {b s k : Nat} (hs : s ≤ 3) (hk : k ≤ 2) : tkc T b s = nI k ↔ s = k := by
  by_cases h : s = 3
  · subst h
    refine ⟨fun g => ?_, fun g => by omega⟩
    have e : tkc T b 3 = (if T b = 59 then nI 3 else nI 4) := if_pos rfl
    rw [e] at g
    split at g
    · have := jI_inj (by decide) (by omega) g; omega
    · have := jI_inj (by decide) (by omega) g; omega
  · rw [tkc_o h]
    exact ⟨fun g => jI_inj (by omega) (by omega) g, fun g => by rw [g]⟩
theorem tkc_3 {T : Nat → Nat} {b s : Nat} (hs : s ≤ 3) : tkc T b s = nI 3 ↔ (s = 3 ∧ T b = 59) := by
  by_cases h : s = 3
  · subst h
    have e : tkc T b 3 = (if T b = 59 then nI 3 else nI 4) := if_pos rfl
    rw [e]
    by_cases g : T b = 59
    · rw [if_pos g]; exact ⟨fun _ => ⟨rfl, g⟩, fun _ => rfl⟩
    · rw [if_neg g]; exact ⟨fun z => absurd z (by decide), fun z => absurd z.2 g⟩
  · rw [tkc_o h]
    exact ⟨fun g => absurd (jI_inj (by omega) (by decide) g) h, fun g => absurd g.1 h⟩
/-- the class stands so -/
def CT (T : Nat → Nat) (c : Nat) (q : PS) (M : mM) : Prop := M 52 3 = nI q.1 ∧ M 52 4 = nI q.2.1 ∧ M 52 2 = tkc T q.1 q.2.2.1 ∧ (q.2.2.1 = 2 → M 52 5 = nI q.2.2.2.1) ∧ M 52 6 = (if q.2.2.2.2 = true then nI q.1 else -1) ∧ M 52 1 = nI c ∧ (∀ k, k < c → M 53 k = bt (T k)) ∧ Pk c q
section CV
variable {X : mSc} {Q : Option Value → mHp → Prop} {M : mM} {T : Nat → Nat} {c : Nat}
theorem CT.nx {N : mM} {e b s x v : Nat} (hL : Lc M N) (hc9 : M 52 1 = nI c) (hc1 : c ≤ 120) (hT : ∀ k, k < c → M 53 k = bt (T k)) (h6 : N 52 6 = -1) (hec : e ≤ c) (hq : pNx T c e = (b, x, s, v, false)) (h10 : N 52 3 = nI b) (h11 : N 52 4 = nI x) (h12 : N 52 2 = tkc T b s) (h13 : s = 2 → N 52 5 = nI v) : CT T c (pNx T c e) N := by
  have hp := (pNx_pk (T := T) hc1 hec).1
  rw [hq] at hp ⊢
  exact ⟨h10, h11, h12, h13, h6, (hL 52 1 (by omega)).trans hc9, fun k hk => (hL 53 k (by omega)).trans (hT k hk), hp⟩
theorem pV_s2 {b j e : Nat} (he : e = b + j) (h8 : T e < 256) (hd : 48 ≤ T e) : (if nI (pV T b j) * nI 10 + nI (T e) - nI 48 < nI 1000 then nI (pV T b j) * nI 10 + nI (T e) - nI 48 else nI 1000) = nI (pV T b (j + 1)) := by
  rw [Int32.mul_comm (nI (pV T b j)) (nI 10)]
  exact pV_s he h8 hd
theorem k93 {v : Int32} : mT X 93 [.int v] (con M) (some (.int (bI (nI 97 ≤ v ∧ v ≤ nI 122)))) (con M) := by
  refine mT.of (row := _) rfl (Nat.le_of_ble_eq_true rfl) ?_
  have hm : mMet 93 = some _ := rfl
  refine x_iload_n hm rfl rfl ?_
  refine x_bipush hm rfl (v := nI 97) (by decide) ?_
  refine x_icmp_lt hm rfl (t := 16) rfl (fun h1 => ?_) (fun h1 => ?_)
  · refine x_iconst hm rfl (v := nI 0) (by decide) ?_
    refine x_iret hm rfl rfl (by first | rfl | exact bI_nar | decide) ?_
    first
      | exact qt (congrArg Value.int (bI_t ⟨Int32.not_lt.mp h1, Int32.not_lt.mp h2⟩))
      | exact qt (congrArg Value.int (bI_f fun q => absurd h2 (Int32.not_lt.mpr q.2)))
      | exact qt (congrArg Value.int (bI_f fun q => absurd h1 (Int32.not_lt.mpr q.1)))
  · refine x_iload_n hm rfl rfl ?_
    refine x_bipush hm rfl (v := nI 122) (by decide) ?_
    refine x_icmp_gt hm rfl (t := 16) rfl (fun h2 => ?_) (fun h2 => ?_)
    · refine x_iconst hm rfl (v := nI 0) (by decide) ?_
      refine x_iret hm rfl rfl (by first | rfl | exact bI_nar | decide) ?_
      first
        | exact qt (congrArg Value.int (bI_t ⟨Int32.not_lt.mp h1, Int32.not_lt.mp h2⟩))
        | exact qt (congrArg Value.int (bI_f fun q => absurd h2 (Int32.not_lt.mpr q.2)))
        | exact qt (congrArg Value.int (bI_f fun q => absurd h1 (Int32.not_lt.mpr q.1)))
    · refine x_iconst hm rfl (v := nI 1) (by decide) ?_
      refine x_goto hm rfl (t := 17) rfl ?_
      refine x_iret hm rfl rfl (by first | rfl | exact bI_nar | decide) ?_
      first
        | exact qt (congrArg Value.int (bI_t ⟨Int32.not_lt.mp h1, Int32.not_lt.mp h2⟩))
        | exact qt (congrArg Value.int (bI_f fun q => absurd h2 (Int32.not_lt.mpr q.2)))
        | exact qt (congrArg Value.int (bI_f fun q => absurd h1 (Int32.not_lt.mpr q.1)))
theorem k94 {v : Int32} : mT X 94 [.int v] (con M) (some (.int (bI (nI 48 ≤ v ∧ v ≤ nI 57)))) (con M) := by
  refine mT.of (row := _) rfl (Nat.le_of_ble_eq_true rfl) ?_
  have hm : mMet 94 = some _ := rfl
  refine x_iload_n hm rfl rfl ?_
  refine x_bipush hm rfl (v := nI 48) (by decide) ?_
  refine x_icmp_lt hm rfl (t := 16) rfl (fun h1 => ?_) (fun h1 => ?_)
  · refine x_iconst hm rfl (v := nI 0) (by decide) ?_
    refine x_iret hm rfl rfl (by first | rfl | exact bI_nar | decide) ?_
    first
      | exact qt (congrArg Value.int (bI_t ⟨Int32.not_lt.mp h1, Int32.not_lt.mp h2⟩))
      | exact qt (congrArg Value.int (bI_f fun q => absurd h2 (Int32.not_lt.mpr q.2)))
      | exact qt (congrArg Value.int (bI_f fun q => absurd h1 (Int32.not_lt.mpr q.1)))
  · refine x_iload_n hm rfl rfl ?_
    refine x_bipush hm rfl (v := nI 57) (by decide) ?_
    refine x_icmp_gt hm rfl (t := 16) rfl (fun h2 => ?_) (fun h2 => ?_)
    · refine x_iconst hm rfl (v := nI 0) (by decide) ?_
      refine x_iret hm rfl rfl (by first | rfl | exact bI_nar | decide) ?_
      first
        | exact qt (congrArg Value.int (bI_t ⟨Int32.not_lt.mp h1, Int32.not_lt.mp h2⟩))
        | exact qt (congrArg Value.int (bI_f fun q => absurd h2 (Int32.not_lt.mpr q.2)))
        | exact qt (congrArg Value.int (bI_f fun q => absurd h1 (Int32.not_lt.mpr q.1)))
    · refine x_iconst hm rfl (v := nI 1) (by decide) ?_
      refine x_goto hm rfl (t := 17) rfl ?_
      refine x_iret hm rfl rfl (by first | rfl | exact bI_nar | decide) ?_
      first
        | exact qt (congrArg Value.int (bI_t ⟨Int32.not_lt.mp h1, Int32.not_lt.mp h2⟩))
        | exact qt (congrArg Value.int (bI_f fun q => absurd h2 (Int32.not_lt.mpr q.2)))
        | exact qt (congrArg Value.int (bI_f fun q => absurd h1 (Int32.not_lt.mpr q.1)))
theorem k92w {e0 : Nat} (hc9 : M 52 1 = nI c) (hc1 : c ≤ 120) (hT : ∀ k, k < c → M 53 k = bt (T k)) (hB : ∀ k, k < c → T k < 256) (hec0 : e0 ≤ c) {b : Nat} (hsk : w1 (sp8 T c) e0 = b) (hbc : b < c) (hlb : lt8 T c b = true) : ∀ (n e : Nat) (M1 : mM), c - e < n → b ≤ e → e ≤ c → w1 (lt8 T c) b = w1 (lt8 T c) e → M1 52 3 = nI b → M1 52 4 = nI e → M1 52 2 = nI 1 → M1 52 6 = -1 → Lc M M1 → mEv X (QV (fun M' => CT T c (pNx T c e0) M' ∧ Lc M M')) 92 93 [some (.ref 52)] [] (con M1) := by
  have hm : mMet 92 = some _ := rfl
  intro n
  induction n with
  | zero =>
    intro e M1 hen hbe hec hw g3 g4 g2 g6 hL
    omega
  | succ n ih =>
    intro e M1 hen hbe hec hw g3 g4 g2 g6 hL
    have hC9 : M1 52 1 = nI c := (hL 52 1 (by omega)).trans hc9
    have hT1 : ∀ k, k < c → M1 53 k = bt (T k) := fun k hk => (hL 53 k (by omega)).trans (hT k hk)
    refine x_aload_n hm rfl rfl ?_
    refine x_getf hm rfl (gI rfl rfl) ?_
    rw [g4]
    refine x_aload_n hm rfl rfl ?_
    refine x_getf hm rfl (gI rfl rfl) ?_
    rw [hC9]
    refine x_icmp_ge hm rfl (t := 259) rfl (fun h1 => ?_) (fun h1 => ?_)
    · have hce : c ≤ e := (jI_le (by omega) (by omega)).mp h1
      have hz : ¬ lt8 T c e = true := fun q => by have := (of_decide_eq_true q).1; omega
      refine x_ret hm rfl rfl ?_
      exact ⟨_, rfl, rfl, CT.nx hL hc9 hc1 hT g6 hec0 (pNx_1 hsk hbc hlb (hw.trans (w1_z hz))) g3 g4 g2 (fun q => absurd q (by decide)), hL⟩
    · have hlt : e < c := Nat.lt_of_not_le fun h => h1 (nI_le h (by omega))
      refine x_aload_n hm rfl rfl ?_
      refine x_getf hm rfl (gR rfl rfl) ?_
      refine x_aload_n hm rfl rfl ?_
      refine x_getf hm rfl (gI rfl rfl) ?_
      rw [g4]
      refine x_bald hm rfl (lB rfl (by omega) (by decide)) ?_
      rw [hT1 _ hlt]
      refine x_callS hm rfl rfl (k93) ?_
      refine x_if_eq hm rfl (t := 259) rfl (fun h2 => ?_) (fun h2 => ?_)
      · have hz : ¬ lt8 T c e = true := fun q => bI_eq0.mp h2 ((bt_in (hB _ hlt) (by decide) (by decide)).mpr (of_decide_eq_true q).2)
        refine x_ret hm rfl rfl ?_
        exact ⟨_, rfl, rfl, CT.nx hL hc9 hc1 hT g6 hec0 (pNx_1 hsk hbc hlb (hw.trans (w1_z hz))) g3 g4 g2 (fun q => absurd q (by decide)), hL⟩
      · have hq := (bt_in (hB _ hlt) (by decide) (by decide)).mp (bI_ne0 h2)
        have hs : lt8 T c e = true := decide_eq_true ⟨hlt, hq⟩
        refine x_aload_n hm rfl rfl ?_
        refine x_dup hm rfl rfl ?_
        refine x_getf hm rfl (gI rfl rfl) ?_
        rw [g4]
        refine x_iconst hm rfl (v := nI 1) (by decide) ?_
        refine x_iadd hm rfl ?_
        rw [jI_add]
        refine x_putf hm rfl (pI rfl rfl (by decide) (by first | exact mFit_int | rfl | decide) rfl) ?_
        refine x_goto hm rfl (t := 93) rfl ?_
        exact ih (e + 1) _ (by omega) (by omega) (by omega) (hw.trans (w1_s hc1 lt8_n hs)) (by rw [mpf (by decide)]; exact g3) mp0 (by rw [mpf (by decide)]; exact g2) (by rw [mpf (by decide)]; exact g6) (hL.trans (Lc.put (by decide) (by decide)))
theorem k92n {e0 : Nat} (hc9 : M 52 1 = nI c) (hc1 : c ≤ 120) (hT : ∀ k, k < c → M 53 k = bt (T k)) (hB : ∀ k, k < c → T k < 256) (hec0 : e0 ≤ c) {b : Nat} (hsk : w1 (sp8 T c) e0 = b) (hbc : b < c) (hnl : ¬ lt8 T c b = true) (hdb : dg8 T c b = true) : ∀ (n e : Nat) (M1 : mM), c - e < n → b ≤ e → e ≤ c → w1 (dg8 T c) b = w1 (dg8 T c) e → M1 52 3 = nI b → M1 52 4 = nI e → M1 52 2 = nI 2 → M1 52 6 = -1 → M1 52 5 = nI (pV T b (e - b)) → Lc M M1 → mEv X (QV (fun M' => CT T c (pNx T c e0) M' ∧ Lc M M')) 92 157 [some (.ref 52)] [] (con M1) := by
  have hm : mMet 92 = some _ := rfl
  intro n
  induction n with
  | zero =>
    intro e M1 hen hbe hec hw g3 g4 g2 g6 g5 hL
    omega
  | succ n ih =>
    intro e M1 hen hbe hec hw g3 g4 g2 g6 g5 hL
    have hC9 : M1 52 1 = nI c := (hL 52 1 (by omega)).trans hc9
    have hT1 : ∀ k, k < c → M1 53 k = bt (T k) := fun k hk => (hL 53 k (by omega)).trans (hT k hk)
    refine x_aload_n hm rfl rfl ?_
    refine x_getf hm rfl (gI rfl rfl) ?_
    rw [g4]
    refine x_aload_n hm rfl rfl ?_
    refine x_getf hm rfl (gI rfl rfl) ?_
    rw [hC9]
    refine x_icmp_ge hm rfl (t := 259) rfl (fun h1 => ?_) (fun h1 => ?_)
    · have hce : c ≤ e := (jI_le (by omega) (by omega)).mp h1
      have hz : ¬ dg8 T c e = true := fun q => by have := (of_decide_eq_true q).1; omega
      refine x_ret hm rfl rfl ?_
      exact ⟨_, rfl, rfl, CT.nx hL hc9 hc1 hT g6 hec0 (pNx_2 hsk hbc hnl hdb (hw.trans (w1_z hz))) g3 g4 g2 (fun _ => g5), hL⟩
    · have hlt : e < c := Nat.lt_of_not_le fun h => h1 (nI_le h (by omega))
      refine x_aload_n hm rfl rfl ?_
      refine x_getf hm rfl (gR rfl rfl) ?_
      refine x_aload_n hm rfl rfl ?_
      refine x_getf hm rfl (gI rfl rfl) ?_
      rw [g4]
      refine x_bald hm rfl (lB rfl (by omega) (by decide)) ?_
      rw [hT1 _ hlt]
      refine x_callS hm rfl rfl (k94) ?_
      refine x_if_eq hm rfl (t := 259) rfl (fun h2 => ?_) (fun h2 => ?_)
      · have hz : ¬ dg8 T c e = true := fun q => bI_eq0.mp h2 ((bt_in (hB _ hlt) (by decide) (by decide)).mpr (of_decide_eq_true q).2)
        refine x_ret hm rfl rfl ?_
        exact ⟨_, rfl, rfl, CT.nx hL hc9 hc1 hT g6 hec0 (pNx_2 hsk hbc hnl hdb (hw.trans (w1_z hz))) g3 g4 g2 (fun _ => g5), hL⟩
      · have hq := (bt_in (hB _ hlt) (by decide) (by decide)).mp (bI_ne0 h2)
        have hs : dg8 T c e = true := decide_eq_true ⟨hlt, hq⟩
        have hbt : bt (T e) = nI (T e) := (bt_all _ (hB _ hlt)).1 (by omega)
        refine x_aload_n hm rfl rfl ?_
        refine x_sipush hm rfl (v := nI 1000) (by decide) ?_
        refine x_aload_n hm rfl rfl ?_
        refine x_getf hm rfl (gI rfl rfl) ?_
        rw [g5]
        refine x_bipush hm rfl (v := nI 10) (by decide) ?_
        refine x_imul hm rfl ?_
        refine x_aload_n hm rfl rfl ?_
        refine x_getf hm rfl (gR rfl rfl) ?_
        refine x_aload_n hm rfl rfl ?_
        refine x_getf hm rfl (gI rfl rfl) ?_
        rw [g4]
        refine x_bald hm rfl (lB rfl (by omega) (by decide)) ?_
        rw [hT1 _ hlt, hbt]
        refine x_iadd hm rfl ?_
        refine x_bipush hm rfl (v := nI 48) (by decide) ?_
        refine x_isub hm rfl ?_
        refine x_lib hm rfl rfl ?_
        dsimp only
        rw [pV_s2 (j := e - b) (by omega) (hB e hlt) hq.1]
        refine x_putf hm rfl (pI rfl rfl (by decide) (by first | exact mFit_int | rfl | decide) rfl) ?_
        refine x_aload_n hm rfl rfl ?_
        refine x_dup hm rfl rfl ?_
        refine x_getf hm rfl (gI rfl rfl) ?_
        rw [mpf (by decide), g4]
        refine x_iconst hm rfl (v := nI 1) (by decide) ?_
        refine x_iadd hm rfl ?_
        rw [jI_add]
        refine x_putf hm rfl (pI rfl rfl (by decide) (by first | exact mFit_int | rfl | decide) rfl) ?_
        refine x_goto hm rfl (t := 157) rfl ?_
        exact ih (e + 1) _ (by omega) (by omega) (by omega) (hw.trans (w1_s hc1 dg8_n hs)) (by rw [mpf (by decide), mpf (by decide)]; exact g3) mp0 (by rw [mpf (by decide), mpf (by decide)]; exact g2) (by rw [mpf (by decide), mpf (by decide)]; exact g6) (by rw [mpf (by decide), mp0, show e + 1 - b = e - b + 1 by omega]) ((hL.trans (Lc.put (by decide) (by decide))).trans (Lc.put (by decide) (by decide)))
theorem k92s {e0 : Nat} (hc9 : M 52 1 = nI c) (hc1 : c ≤ 120) (hT : ∀ k, k < c → M 53 k = bt (T k)) (hB : ∀ k, k < c → T k < 256) (hec0 : e0 ≤ c) : ∀ (n b : Nat) (M1 : mM), c - b < n → e0 ≤ b → b ≤ c → w1 (sp8 T c) e0 = w1 (sp8 T c) b → M1 52 3 = nI b → M1 52 6 = -1 → Lc M M1 → mEv X (QV (fun M' => CT T c (pNx T c e0) M' ∧ Lc M M')) 92 8 [some (.ref 52)] [] (con M1) := by
  have hm : mMet 92 = some _ := rfl
  intro n
  induction n with
  | zero =>
    intro b M1 hbn he0 hbc hsk g3 g6 hL
    omega
  | succ n ih =>
    intro b M1 hbn he0 hbc hsk g3 g6 hL
    have hC9 : M1 52 1 = nI c := (hL 52 1 (by omega)).trans hc9
    have hT1 : ∀ k, k < c → M1 53 k = bt (T k) := fun k hk => (hL 53 k (by omega)).trans (hT k hk)
    refine x_aload_n hm rfl rfl ?_
    refine x_getf hm rfl (gI rfl rfl) ?_
    rw [g3]
    refine x_aload_n hm rfl rfl ?_
    refine x_getf hm rfl (gI rfl rfl) ?_
    rw [hC9]
    refine x_icmp_ge hm rfl (t := 46) rfl (fun h1 => ?_) (fun h1 => ?_)
    · have hcb : c ≤ b := (jI_le (by omega) (by omega)).mp h1
      have hsk2 := hsk.trans (w1_z fun q => by have := (of_decide_eq_true q).1; omega)
      refine x_aload_n hm rfl rfl ?_
      refine x_aload_n hm rfl rfl ?_
      refine x_getf hm rfl (gI rfl rfl) ?_
      rw [g3]
      refine x_putf hm rfl (pI rfl rfl (by decide) (by first | exact mFit_int | rfl | decide) rfl) ?_
      refine x_aload_n hm rfl rfl ?_
      refine x_getf hm rfl (gI rfl rfl) ?_
      rw [mpf (by decide), g3]
      refine x_aload_n hm rfl rfl ?_
      refine x_getf hm rfl (gI rfl rfl) ?_
      rw [mpf (by decide), hC9]
      refine x_icmp_lt hm rfl (t := 73) rfl (fun h2 => ?_) (fun h2 => ?_)
      · have hlt : b < c := (jI_lt (by omega) (by omega)).mp h2
        refine x_aload_n hm rfl rfl ?_
        refine x_getf hm rfl (gR rfl rfl) ?_
        refine x_aload_n hm rfl rfl ?_
        refine x_getf hm rfl (gI rfl rfl) ?_
        rw [mp0]
        refine x_bald hm rfl (lB rfl (by omega) (by decide)) ?_
        rw [mpo (by decide), hT1 _ hlt]
        refine x_callS hm rfl rfl (k93) ?_
        refine x_if_eq hm rfl (t := 132) rfl (fun h3 => ?_) (fun h3 => ?_)
        · have hnl : ¬ lt8 T c b = true := fun q => bI_eq0.mp h3 ((bt_in (hB _ hlt) (by decide) (by decide)).mpr (of_decide_eq_true q).2)
          refine x_aload_n hm rfl rfl ?_
          refine x_getf hm rfl (gR rfl rfl) ?_
          refine x_aload_n hm rfl rfl ?_
          refine x_getf hm rfl (gI rfl rfl) ?_
          rw [mp0]
          refine x_bald hm rfl (lB rfl (by omega) (by decide)) ?_
          rw [mpo (by decide), hT1 _ hlt]
          refine x_callS hm rfl rfl (k94) ?_
          refine x_if_eq hm rfl (t := 226) rfl (fun h4 => ?_) (fun h4 => ?_)
          · have hnd : ¬ dg8 T c b = true := fun q => bI_eq0.mp h4 ((bt_in (hB _ hlt) (by decide) (by decide)).mpr (of_decide_eq_true q).2)
            refine x_aload_n hm rfl rfl ?_
            refine x_aload_n hm rfl rfl ?_
            refine x_getf hm rfl (gR rfl rfl) ?_
            refine x_aload_n hm rfl rfl ?_
            refine x_getf hm rfl (gI rfl rfl) ?_
            rw [mpf (by decide), g3]
            refine x_bald hm rfl (lB rfl (by omega) (by decide)) ?_
            rw [mpo (by decide), hT1 _ hlt]
            refine x_bipush hm rfl (v := nI 59) (by decide) ?_
            refine x_icmp_ne hm rfl (t := 245) rfl (fun h5 => ?_) (fun h5 => ?_)
            · have htk : nI 4 = tkc T b 3 := (if_neg (fun q => h5 (by rw [q]; rfl))).symm
              refine x_iconst hm rfl (v := nI 4) (by decide) ?_
              refine x_putf hm rfl (pI rfl rfl (by decide) (by first | exact mFit_int | rfl | decide) rfl) ?_
              refine x_aload_n hm rfl rfl ?_
              refine x_dup hm rfl rfl ?_
              refine x_getf hm rfl (gI rfl rfl) ?_
              rw [mpf (by decide), mp0]
              refine x_iconst hm rfl (v := nI 1) (by decide) ?_
              refine x_iadd hm rfl ?_
              rw [jI_add]
              refine x_putf hm rfl (pI rfl rfl (by decide) (by first | exact mFit_int | rfl | decide) rfl) ?_
              refine x_ret hm rfl rfl ?_
              first
                | exact ⟨_, rfl, rfl, CT.nx ((hL.trans (Lc.put (M := M1) (x := 4) (v := nI b) (by decide) (by decide))).trans (Lc.put (by decide) (by decide))) hc9 hc1 hT (by rw [mpf (by decide), mpf (by decide)]; exact g6) hec0 (pNx_0 hsk2 hge) (by rw [mpf (by decide), mpf (by decide)]; exact g3) (by rw [mpf (by decide)]; exact mp0) mp0 (fun q => absurd q (by decide)), (hL.trans (Lc.put (M := M1) (x := 4) (v := nI b) (by decide) (by decide))).trans (Lc.put (by decide) (by decide))⟩
                | exact ⟨_, rfl, rfl, CT.nx (((hL.trans (Lc.put (M := M1) (x := 4) (v := nI b) (by decide) (by decide))).trans (Lc.put (by decide) (by decide))).trans (Lc.put (by decide) (by decide))) hc9 hc1 hT (by rw [mpf (by decide), mpf (by decide), mpf (by decide)]; exact g6) hec0 (pNx_3 hsk2 hlt hnl hnd) (by rw [mpf (by decide), mpf (by decide), mpf (by decide)]; exact g3) mp0 (by rw [mpf (by decide), mp0]; exact htk) (fun q => absurd q (by decide)), ((hL.trans (Lc.put (M := M1) (x := 4) (v := nI b) (by decide) (by decide))).trans (Lc.put (by decide) (by decide))).trans (Lc.put (by decide) (by decide))⟩
            · have htk : nI 3 = tkc T b 3 := (if_pos ((bt_eq (hB _ hlt) (by decide)).mp h5)).symm
              refine x_iconst hm rfl (v := nI 3) (by decide) ?_
              refine x_goto hm rfl (t := 246) rfl ?_
              refine x_putf hm rfl (pI rfl rfl (by decide) (by first | exact mFit_int | rfl | decide) rfl) ?_
              refine x_aload_n hm rfl rfl ?_
              refine x_dup hm rfl rfl ?_
              refine x_getf hm rfl (gI rfl rfl) ?_
              rw [mpf (by decide), mp0]
              refine x_iconst hm rfl (v := nI 1) (by decide) ?_
              refine x_iadd hm rfl ?_
              rw [jI_add]
              refine x_putf hm rfl (pI rfl rfl (by decide) (by first | exact mFit_int | rfl | decide) rfl) ?_
              refine x_ret hm rfl rfl ?_
              first
                | exact ⟨_, rfl, rfl, CT.nx ((hL.trans (Lc.put (M := M1) (x := 4) (v := nI b) (by decide) (by decide))).trans (Lc.put (by decide) (by decide))) hc9 hc1 hT (by rw [mpf (by decide), mpf (by decide)]; exact g6) hec0 (pNx_0 hsk2 hge) (by rw [mpf (by decide), mpf (by decide)]; exact g3) (by rw [mpf (by decide)]; exact mp0) mp0 (fun q => absurd q (by decide)), (hL.trans (Lc.put (M := M1) (x := 4) (v := nI b) (by decide) (by decide))).trans (Lc.put (by decide) (by decide))⟩
                | exact ⟨_, rfl, rfl, CT.nx (((hL.trans (Lc.put (M := M1) (x := 4) (v := nI b) (by decide) (by decide))).trans (Lc.put (by decide) (by decide))).trans (Lc.put (by decide) (by decide))) hc9 hc1 hT (by rw [mpf (by decide), mpf (by decide), mpf (by decide)]; exact g6) hec0 (pNx_3 hsk2 hlt hnl hnd) (by rw [mpf (by decide), mpf (by decide), mpf (by decide)]; exact g3) mp0 (by rw [mpf (by decide), mp0]; exact htk) (fun q => absurd q (by decide)), ((hL.trans (Lc.put (M := M1) (x := 4) (v := nI b) (by decide) (by decide))).trans (Lc.put (by decide) (by decide))).trans (Lc.put (by decide) (by decide))⟩
          · have hdb : dg8 T c b = true := decide_eq_true ⟨hlt, (bt_in (hB _ hlt) (by decide) (by decide)).mp (bI_ne0 h4)⟩
            refine x_aload_n hm rfl rfl ?_
            refine x_iconst hm rfl (v := nI 2) (by decide) ?_
            refine x_putf hm rfl (pI rfl rfl (by decide) (by first | exact mFit_int | rfl | decide) rfl) ?_
            refine x_aload_n hm rfl rfl ?_
            refine x_iconst hm rfl (v := nI 0) (by decide) ?_
            refine x_putf hm rfl (pI rfl rfl (by decide) (by first | exact mFit_int | rfl | decide) rfl) ?_
            exact k92n hc9 hc1 hT hB hec0 hsk2 hlt hnl hdb _ b _ (Nat.lt_succ_self _) (Nat.le_refl _) hbc rfl (by rw [mpf (by decide), mpf (by decide), mpf (by decide)]; exact g3) (by rw [mpf (by decide), mpf (by decide)]; exact mp0) (by rw [mpf (by decide)]; exact mp0) (by rw [mpf (by decide), mpf (by decide), mpf (by decide)]; exact g6) (by rw [mp0, Nat.sub_self]; rfl) (((hL.trans (Lc.put (M := M1) (x := 4) (v := nI b) (by decide) (by decide))).trans (Lc.put (by decide) (by decide))).trans (Lc.put (by decide) (by decide)))
        · have hlb : lt8 T c b = true := decide_eq_true ⟨hlt, (bt_in (hB _ hlt) (by decide) (by decide)).mp (bI_ne0 h3)⟩
          refine x_aload_n hm rfl rfl ?_
          refine x_iconst hm rfl (v := nI 1) (by decide) ?_
          refine x_putf hm rfl (pI rfl rfl (by decide) (by first | exact mFit_int | rfl | decide) rfl) ?_
          exact k92w hc9 hc1 hT hB hec0 hsk2 hlt hlb _ b _ (Nat.lt_succ_self _) (Nat.le_refl _) hbc rfl (by rw [mpf (by decide), mpf (by decide)]; exact g3) (by rw [mpf (by decide)]; exact mp0) mp0 (by rw [mpf (by decide), mpf (by decide)]; exact g6) ((hL.trans (Lc.put (M := M1) (x := 4) (v := nI b) (by decide) (by decide))).trans (Lc.put (by decide) (by decide)))
      · have hge : ¬ b < c := fun q => h2 ((jI_lt (by omega) (by omega)).mpr q)
        refine x_aload_n hm rfl rfl ?_
        refine x_iconst hm rfl (v := nI 0) (by decide) ?_
        refine x_putf hm rfl (pI rfl rfl (by decide) (by first | exact mFit_int | rfl | decide) rfl) ?_
        refine x_goto hm rfl (t := 259) rfl ?_
        refine x_ret hm rfl rfl ?_
        first
          | exact ⟨_, rfl, rfl, CT.nx ((hL.trans (Lc.put (M := M1) (x := 4) (v := nI b) (by decide) (by decide))).trans (Lc.put (by decide) (by decide))) hc9 hc1 hT (by rw [mpf (by decide), mpf (by decide)]; exact g6) hec0 (pNx_0 hsk2 hge) (by rw [mpf (by decide), mpf (by decide)]; exact g3) (by rw [mpf (by decide)]; exact mp0) mp0 (fun q => absurd q (by decide)), (hL.trans (Lc.put (M := M1) (x := 4) (v := nI b) (by decide) (by decide))).trans (Lc.put (by decide) (by decide))⟩
          | exact ⟨_, rfl, rfl, CT.nx (((hL.trans (Lc.put (M := M1) (x := 4) (v := nI b) (by decide) (by decide))).trans (Lc.put (by decide) (by decide))).trans (Lc.put (by decide) (by decide))) hc9 hc1 hT (by rw [mpf (by decide), mpf (by decide), mpf (by decide)]; exact g6) hec0 (pNx_3 hsk2 hlt hnl hnd) (by rw [mpf (by decide), mpf (by decide), mpf (by decide)]; exact g3) mp0 (by rw [mpf (by decide), mp0]; exact htk) (fun q => absurd q (by decide)), ((hL.trans (Lc.put (M := M1) (x := 4) (v := nI b) (by decide) (by decide))).trans (Lc.put (by decide) (by decide))).trans (Lc.put (by decide) (by decide))⟩
    · have hlt : b < c := Nat.lt_of_not_le fun h => h1 (nI_le h (by omega))
      refine x_aload_n hm rfl rfl ?_
      refine x_getf hm rfl (gR rfl rfl) ?_
      refine x_aload_n hm rfl rfl ?_
      refine x_getf hm rfl (gI rfl rfl) ?_
      rw [g3]
      refine x_bald hm rfl (lB rfl (by omega) (by decide)) ?_
      rw [hT1 _ hlt]
      refine x_bipush hm rfl (v := nI 32) (by decide) ?_
      refine x_icmp_ne hm rfl (t := 46) rfl (fun h6 => ?_) (fun h6 => ?_)
      · have hsk2 := hsk.trans (w1_z fun q => h6 ((bt_eq (hB _ hlt) (by decide)).mpr (of_decide_eq_true q).2))
        refine x_aload_n hm rfl rfl ?_
        refine x_aload_n hm rfl rfl ?_
        refine x_getf hm rfl (gI rfl rfl) ?_
        rw [g3]
        refine x_putf hm rfl (pI rfl rfl (by decide) (by first | exact mFit_int | rfl | decide) rfl) ?_
        refine x_aload_n hm rfl rfl ?_
        refine x_getf hm rfl (gI rfl rfl) ?_
        rw [mpf (by decide), g3]
        refine x_aload_n hm rfl rfl ?_
        refine x_getf hm rfl (gI rfl rfl) ?_
        rw [mpf (by decide), hC9]
        refine x_icmp_lt hm rfl (t := 73) rfl (fun h7 => ?_) (fun h7 => ?_)
        · have hlt : b < c := (jI_lt (by omega) (by omega)).mp h7
          refine x_aload_n hm rfl rfl ?_
          refine x_getf hm rfl (gR rfl rfl) ?_
          refine x_aload_n hm rfl rfl ?_
          refine x_getf hm rfl (gI rfl rfl) ?_
          rw [mp0]
          refine x_bald hm rfl (lB rfl (by omega) (by decide)) ?_
          rw [mpo (by decide), hT1 _ hlt]
          refine x_callS hm rfl rfl (k93) ?_
          refine x_if_eq hm rfl (t := 132) rfl (fun h8 => ?_) (fun h8 => ?_)
          · have hnl : ¬ lt8 T c b = true := fun q => bI_eq0.mp h8 ((bt_in (hB _ hlt) (by decide) (by decide)).mpr (of_decide_eq_true q).2)
            refine x_aload_n hm rfl rfl ?_
            refine x_getf hm rfl (gR rfl rfl) ?_
            refine x_aload_n hm rfl rfl ?_
            refine x_getf hm rfl (gI rfl rfl) ?_
            rw [mp0]
            refine x_bald hm rfl (lB rfl (by omega) (by decide)) ?_
            rw [mpo (by decide), hT1 _ hlt]
            refine x_callS hm rfl rfl (k94) ?_
            refine x_if_eq hm rfl (t := 226) rfl (fun h9 => ?_) (fun h9 => ?_)
            · have hnd : ¬ dg8 T c b = true := fun q => bI_eq0.mp h9 ((bt_in (hB _ hlt) (by decide) (by decide)).mpr (of_decide_eq_true q).2)
              refine x_aload_n hm rfl rfl ?_
              refine x_aload_n hm rfl rfl ?_
              refine x_getf hm rfl (gR rfl rfl) ?_
              refine x_aload_n hm rfl rfl ?_
              refine x_getf hm rfl (gI rfl rfl) ?_
              rw [mpf (by decide), g3]
              refine x_bald hm rfl (lB rfl (by omega) (by decide)) ?_
              rw [mpo (by decide), hT1 _ hlt]
              refine x_bipush hm rfl (v := nI 59) (by decide) ?_
              refine x_icmp_ne hm rfl (t := 245) rfl (fun h10 => ?_) (fun h10 => ?_)
              · have htk : nI 4 = tkc T b 3 := (if_neg (fun q => h10 (by rw [q]; rfl))).symm
                refine x_iconst hm rfl (v := nI 4) (by decide) ?_
                refine x_putf hm rfl (pI rfl rfl (by decide) (by first | exact mFit_int | rfl | decide) rfl) ?_
                refine x_aload_n hm rfl rfl ?_
                refine x_dup hm rfl rfl ?_
                refine x_getf hm rfl (gI rfl rfl) ?_
                rw [mpf (by decide), mp0]
                refine x_iconst hm rfl (v := nI 1) (by decide) ?_
                refine x_iadd hm rfl ?_
                rw [jI_add]
                refine x_putf hm rfl (pI rfl rfl (by decide) (by first | exact mFit_int | rfl | decide) rfl) ?_
                refine x_ret hm rfl rfl ?_
                first
                  | exact ⟨_, rfl, rfl, CT.nx ((hL.trans (Lc.put (M := M1) (x := 4) (v := nI b) (by decide) (by decide))).trans (Lc.put (by decide) (by decide))) hc9 hc1 hT (by rw [mpf (by decide), mpf (by decide)]; exact g6) hec0 (pNx_0 hsk2 hge) (by rw [mpf (by decide), mpf (by decide)]; exact g3) (by rw [mpf (by decide)]; exact mp0) mp0 (fun q => absurd q (by decide)), (hL.trans (Lc.put (M := M1) (x := 4) (v := nI b) (by decide) (by decide))).trans (Lc.put (by decide) (by decide))⟩
                  | exact ⟨_, rfl, rfl, CT.nx (((hL.trans (Lc.put (M := M1) (x := 4) (v := nI b) (by decide) (by decide))).trans (Lc.put (by decide) (by decide))).trans (Lc.put (by decide) (by decide))) hc9 hc1 hT (by rw [mpf (by decide), mpf (by decide), mpf (by decide)]; exact g6) hec0 (pNx_3 hsk2 hlt hnl hnd) (by rw [mpf (by decide), mpf (by decide), mpf (by decide)]; exact g3) mp0 (by rw [mpf (by decide), mp0]; exact htk) (fun q => absurd q (by decide)), ((hL.trans (Lc.put (M := M1) (x := 4) (v := nI b) (by decide) (by decide))).trans (Lc.put (by decide) (by decide))).trans (Lc.put (by decide) (by decide))⟩
              · have htk : nI 3 = tkc T b 3 := (if_pos ((bt_eq (hB _ hlt) (by decide)).mp h10)).symm
                refine x_iconst hm rfl (v := nI 3) (by decide) ?_
                refine x_goto hm rfl (t := 246) rfl ?_
                refine x_putf hm rfl (pI rfl rfl (by decide) (by first | exact mFit_int | rfl | decide) rfl) ?_
                refine x_aload_n hm rfl rfl ?_
                refine x_dup hm rfl rfl ?_
                refine x_getf hm rfl (gI rfl rfl) ?_
                rw [mpf (by decide), mp0]
                refine x_iconst hm rfl (v := nI 1) (by decide) ?_
                refine x_iadd hm rfl ?_
                rw [jI_add]
                refine x_putf hm rfl (pI rfl rfl (by decide) (by first | exact mFit_int | rfl | decide) rfl) ?_
                refine x_ret hm rfl rfl ?_
                first
                  | exact ⟨_, rfl, rfl, CT.nx ((hL.trans (Lc.put (M := M1) (x := 4) (v := nI b) (by decide) (by decide))).trans (Lc.put (by decide) (by decide))) hc9 hc1 hT (by rw [mpf (by decide), mpf (by decide)]; exact g6) hec0 (pNx_0 hsk2 hge) (by rw [mpf (by decide), mpf (by decide)]; exact g3) (by rw [mpf (by decide)]; exact mp0) mp0 (fun q => absurd q (by decide)), (hL.trans (Lc.put (M := M1) (x := 4) (v := nI b) (by decide) (by decide))).trans (Lc.put (by decide) (by decide))⟩
                  | exact ⟨_, rfl, rfl, CT.nx (((hL.trans (Lc.put (M := M1) (x := 4) (v := nI b) (by decide) (by decide))).trans (Lc.put (by decide) (by decide))).trans (Lc.put (by decide) (by decide))) hc9 hc1 hT (by rw [mpf (by decide), mpf (by decide), mpf (by decide)]; exact g6) hec0 (pNx_3 hsk2 hlt hnl hnd) (by rw [mpf (by decide), mpf (by decide), mpf (by decide)]; exact g3) mp0 (by rw [mpf (by decide), mp0]; exact htk) (fun q => absurd q (by decide)), ((hL.trans (Lc.put (M := M1) (x := 4) (v := nI b) (by decide) (by decide))).trans (Lc.put (by decide) (by decide))).trans (Lc.put (by decide) (by decide))⟩
            · have hdb : dg8 T c b = true := decide_eq_true ⟨hlt, (bt_in (hB _ hlt) (by decide) (by decide)).mp (bI_ne0 h9)⟩
              refine x_aload_n hm rfl rfl ?_
              refine x_iconst hm rfl (v := nI 2) (by decide) ?_
              refine x_putf hm rfl (pI rfl rfl (by decide) (by first | exact mFit_int | rfl | decide) rfl) ?_
              refine x_aload_n hm rfl rfl ?_
              refine x_iconst hm rfl (v := nI 0) (by decide) ?_
              refine x_putf hm rfl (pI rfl rfl (by decide) (by first | exact mFit_int | rfl | decide) rfl) ?_
              exact k92n hc9 hc1 hT hB hec0 hsk2 hlt hnl hdb _ b _ (Nat.lt_succ_self _) (Nat.le_refl _) hbc rfl (by rw [mpf (by decide), mpf (by decide), mpf (by decide)]; exact g3) (by rw [mpf (by decide), mpf (by decide)]; exact mp0) (by rw [mpf (by decide)]; exact mp0) (by rw [mpf (by decide), mpf (by decide), mpf (by decide)]; exact g6) (by rw [mp0, Nat.sub_self]; rfl) (((hL.trans (Lc.put (M := M1) (x := 4) (v := nI b) (by decide) (by decide))).trans (Lc.put (by decide) (by decide))).trans (Lc.put (by decide) (by decide)))
          · have hlb : lt8 T c b = true := decide_eq_true ⟨hlt, (bt_in (hB _ hlt) (by decide) (by decide)).mp (bI_ne0 h8)⟩
            refine x_aload_n hm rfl rfl ?_
            refine x_iconst hm rfl (v := nI 1) (by decide) ?_
            refine x_putf hm rfl (pI rfl rfl (by decide) (by first | exact mFit_int | rfl | decide) rfl) ?_
            exact k92w hc9 hc1 hT hB hec0 hsk2 hlt hlb _ b _ (Nat.lt_succ_self _) (Nat.le_refl _) hbc rfl (by rw [mpf (by decide), mpf (by decide)]; exact g3) (by rw [mpf (by decide)]; exact mp0) mp0 (by rw [mpf (by decide), mpf (by decide)]; exact g6) ((hL.trans (Lc.put (M := M1) (x := 4) (v := nI b) (by decide) (by decide))).trans (Lc.put (by decide) (by decide)))
        · have hge : ¬ b < c := fun q => h7 ((jI_lt (by omega) (by omega)).mpr q)
          refine x_aload_n hm rfl rfl ?_
          refine x_iconst hm rfl (v := nI 0) (by decide) ?_
          refine x_putf hm rfl (pI rfl rfl (by decide) (by first | exact mFit_int | rfl | decide) rfl) ?_
          refine x_goto hm rfl (t := 259) rfl ?_
          refine x_ret hm rfl rfl ?_
          first
            | exact ⟨_, rfl, rfl, CT.nx ((hL.trans (Lc.put (M := M1) (x := 4) (v := nI b) (by decide) (by decide))).trans (Lc.put (by decide) (by decide))) hc9 hc1 hT (by rw [mpf (by decide), mpf (by decide)]; exact g6) hec0 (pNx_0 hsk2 hge) (by rw [mpf (by decide), mpf (by decide)]; exact g3) (by rw [mpf (by decide)]; exact mp0) mp0 (fun q => absurd q (by decide)), (hL.trans (Lc.put (M := M1) (x := 4) (v := nI b) (by decide) (by decide))).trans (Lc.put (by decide) (by decide))⟩
            | exact ⟨_, rfl, rfl, CT.nx (((hL.trans (Lc.put (M := M1) (x := 4) (v := nI b) (by decide) (by decide))).trans (Lc.put (by decide) (by decide))).trans (Lc.put (by decide) (by decide))) hc9 hc1 hT (by rw [mpf (by decide), mpf (by decide), mpf (by decide)]; exact g6) hec0 (pNx_3 hsk2 hlt hnl hnd) (by rw [mpf (by decide), mpf (by decide), mpf (by decide)]; exact g3) mp0 (by rw [mpf (by decide), mp0]; exact htk) (fun q => absurd q (by decide)), ((hL.trans (Lc.put (M := M1) (x := 4) (v := nI b) (by decide) (by decide))).trans (Lc.put (by decide) (by decide))).trans (Lc.put (by decide) (by decide))⟩
      · have hs : sp8 T c b = true := decide_eq_true ⟨hlt, (bt_eq (hB _ hlt) (by decide)).mp h6⟩
        refine x_aload_n hm rfl rfl ?_
        refine x_dup hm rfl rfl ?_
        refine x_getf hm rfl (gI rfl rfl) ?_
        rw [g3]
        refine x_iconst hm rfl (v := nI 1) (by decide) ?_
        refine x_iadd hm rfl ?_
        rw [jI_add]
        refine x_putf hm rfl (pI rfl rfl (by decide) (by first | exact mFit_int | rfl | decide) rfl) ?_
        refine x_goto hm rfl (t := 8) rfl ?_
        exact ih (b + 1) _ (by omega) (by omega) (by omega) (hsk.trans (w1_s hc1 sp8_n hs)) mp0 (by rw [mpf (by decide)]; exact g6) (hL.trans (Lc.put (by decide) (by decide)))
end CV
