/-! ===== texts: the class token by token ===== -/
def bt (n : Nat) : Int32 := (nI n).toInt8.toInt32
theorem bt_all : ∀ n, n < 256 → (n < 128 → bt n = nI n) ∧ (128 ≤ n → bt n < 0) := by decide +kernel
theorem bt_in {n lo hi : Nat} (h : n < 256) (hh : hi < 128) (hl : lo ≤ 1000) : (nI lo ≤ bt n ∧ bt n ≤ nI hi) ↔ (lo ≤ n ∧ n ≤ hi) := by
  rcases Nat.lt_or_ge n 128 with g | g
  · rw [(bt_all n h).1 g, jI_le (by omega) (by omega), jI_le (by omega) (by omega)]
  · have e := (bt_all n h).2 g
    refine ⟨fun z => absurd z.1 ?_, fun z => by omega⟩
    rw [Int32.le_iff_toInt_le, jI_int (by omega)]
    rw [Int32.lt_iff_toInt_lt] at e
    have e0 : (0 : Int32).toInt = 0 := by decide +kernel
    omega
theorem bt_eq {n x : Nat} (h : n < 256) (hx : x < 128) : bt n = nI x ↔ n = x := by
  rcases Nat.lt_or_ge n 128 with g | g
  · rw [(bt_all n h).1 g]
    exact ⟨fun e => jI_inj (by omega) (by omega) e, fun e => by rw [e]⟩
  · have e := (bt_all n h).2 g
    refine ⟨fun z => ?_, fun z => by omega⟩
    rw [z, Int32.lt_iff_toInt_lt, jI_int (by omega)] at e
    have e0 : (0 : Int32).toInt = 0 := by decide +kernel
    omega
/-- the class's word for a token's sort -/
def tkc (T : Nat → Nat) (b s : Nat) : Int32 := if s = 3 then (if T b = 59 then nI 3 else nI 4) else nI s
theorem tkc_o {T : Nat → Nat} {b s : Nat} (h : ¬ s = 3) : tkc T b s = nI s := if_neg h
theorem tkc_e {T : Nat → Nat} {b s k : Nat} (hs : s ≤ 3) (hk : k ≤ 2) : tkc T b s = nI k ↔ s = k := by
  by_cases h : s = 3
  · subst h
    refine ⟨fun g => ?_, fun g => by omega⟩
    have e : tkc T b 3 = (if T b = 59 then nI 3 else nI 4) := if_pos rfl
    rw [e] at g
    split at g
    · have := jI_inj (by decide) (by omega) g; omega
    · have := jI_inj (by decide) (by omega) g; omega
  · rw [tkc_o h]
    exact ⟨fun g => jI_inj (by omega) (by omega) g, fun g => by rw [g]⟩
theorem tkc_3 {T : Nat → Nat} {b s : Nat} (hs : s ≤ 3) : tkc T b s = nI 3 ↔ (s = 3 ∧ T b = 59) := by
  by_cases h : s = 3
  · subst h
    have e : tkc T b 3 = (if T b = 59 then nI 3 else nI 4) := if_pos rfl
    rw [e]
    by_cases g : T b = 59
    · rw [if_pos g]; exact ⟨fun _ => ⟨rfl, g⟩, fun _ => rfl⟩
    · rw [if_neg g]; exact ⟨fun z => absurd z (by decide), fun z => absurd z.2 g⟩
  · rw [tkc_o h]
    exact ⟨fun g => absurd (jI_inj (by omega) (by decide) g) h, fun g => absurd g.1 h⟩
/-- the class stands so -/
def CT (T : Nat → Nat) (c : Nat) (q : PS) (M : mM) : Prop := M 52 3 = nI q.1 ∧ M 52 4 = nI q.2.1 ∧ M 52 2 = tkc T q.1 q.2.2.1 ∧ (q.2.2.1 = 2 → M 52 5 = nI q.2.2.2.1) ∧ M 52 6 = (if q.2.2.2.2 = true then nI q.1 else -1) ∧ M 52 1 = nI c ∧ (∀ k, k < c → M 53 k = bt (T k)) ∧ Pk c q
section CV
variable {X : mSc} {Q : Option Value → mHp → Prop} {M : mM} {T : Nat → Nat} {c : Nat}
theorem CT.nx {N : mM} {e b s x v : Nat} (hL : Lc M N) (hc9 : M 52 1 = nI c) (hc1 : c ≤ 120) (hT : ∀ k, k < c → M 53 k = bt (T k)) (h6 : N 52 6 = -1) (hec : e ≤ c) (hq : pNx T c e = (b, x, s, v, false)) (h10 : N 52 3 = nI b) (h11 : N 52 4 = nI x) (h12 : N 52 2 = tkc T b s) (h13 : s = 2 → N 52 5 = nI v) : CT T c (pNx T c e) N := by
  have hp := (pNx_pk (T := T) hc1 hec).1
  rw [hq] at hp ⊢
  exact ⟨h10, h11, h12, h13, h6, (hL 52 1 (by omega)).trans hc9, fun k hk => (hL 53 k (by omega)).trans (hT k hk), hp⟩
theorem pV_s2 {b j e : Nat} (he : e = b + j) (h8 : T e < 256) (hd : 48 ≤ T e) : (if nI (pV T b j) * nI 10 + nI (T e) - nI 48 < nI 1000 then nI (pV T b j) * nI 10 + nI (T e) - nI 48 else nI 1000) = nI (pV T b (j + 1)) := by
  rw [Int32.mul_comm (nI (pV T b j)) (nI 10)]
  exact pV_s he h8 hd
theorem k93 {v : Int32} : mT X 93 [.int v] (con M) (some (.int (bI (nI 97 ≤ v ∧ v ≤ nI 122)))) (con M) := by
  refine mT.of (row := _) rfl (Nat.le_of_ble_eq_true rfl) ?_
  have hm : mMet 93 = some _ := rfl
  refine x_iload_n hm rfl rfl ?_
  refine x_bipush hm rfl (v := nI 97) (by decide) ?_
  refine x_icmp_lt hm rfl (t := 16) rfl (fun h1 => ?_) (fun h1 => ?_)
  · refine x_iconst hm rfl (v := nI 0) (by decide) ?_
    refine x_iret hm rfl rfl (by first | rfl | exact bI_nar | decide) ?_
    first
      | exact qt (congrArg Value.int (bI_t ⟨Int32.not_lt.mp h1, Int32.not_lt.mp h2⟩))
      | exact qt (congrArg Value.int (bI_f fun q => absurd h2 (Int32.not_lt.mpr q.2)))
      | exact qt (congrArg Value.int (bI_f fun q => absurd h1 (Int32.not_lt.mpr q.1)))
  · refine x_iload_n hm rfl rfl ?_
    refine x_bipush hm rfl (v := nI 122) (by decide) ?_
    refine x_icmp_gt hm rfl (t := 16) rfl (fun h2 => ?_) (fun h2 => ?_)
    · refine x_iconst hm rfl (v := nI 0) (by decide) ?_
      refine x_iret hm rfl rfl (by first | rfl | exact bI_nar | decide) ?_
      first
        | exact qt (congrArg Value.int (bI_t ⟨Int32.not_lt.mp h1, Int32.not_lt.mp h2⟩))
        | exact qt (congrArg Value.int (bI_f fun q => absurd h2 (Int32.not_lt.mpr q.2)))
        | exact qt (congrArg Value.int (bI_f fun q => absurd h1 (Int32.not_lt.mpr q.1)))
    · refine x_iconst hm rfl (v := nI 1) (by decide) ?_
      refine x_goto hm rfl (t := 17) rfl ?_
      refine x_iret hm rfl rfl (by first | rfl | exact bI_nar | decide) ?_
      first
        | exact qt (congrArg Value.int (bI_t ⟨Int32.not_lt.mp h1, Int32.not_lt.mp h2⟩))
        | exact qt (congrArg Value.int (bI_f fun q => absurd h2 (Int32.not_lt.mpr q.2)))
        | exact qt (congrArg Value.int (bI_f fun q => absurd h1 (Int32.not_lt.mpr q.1)))
theorem k94 {v : Int32} : mT X 94 [.int v] (con M) (some (.int (bI (nI 48 ≤ v ∧ v ≤ nI 57)))) (con M) := by
  refine mT.of (row := _) rfl (Nat.le_of_ble_eq_true rfl) ?_
  have hm : mMet 94 = some _ := rfl
  refine x_iload_n hm rfl rfl ?_
  refine x_bipush hm rfl (v := nI 48) (by decide) ?_
  refine x_icmp_lt hm rfl (t := 16) rfl (fun h1 => ?_) (fun h1 => ?_)
  · refine x_iconst hm rfl (v := nI 0) (by decide) ?_
    refine x_iret hm rfl rfl (by first | rfl | exact bI_nar | decide) ?_
    first
      | exact qt (congrArg Value.int (bI_t ⟨Int32.not_lt.mp h1, Int32.not_lt.mp h2⟩))
      | exact qt (congrArg Value.int (bI_f fun q => absurd h2 (Int32.not_lt.mpr q.2)))
      | exact qt (congrArg Value.int (bI_f fun q => absurd h1 (Int32.not_lt.mpr q.1)))
  · refine x_iload_n hm rfl rfl ?_
    refine x_bipush hm rfl (v := nI 57) (by decide) ?_
    refine x_icmp_gt hm rfl (t := 16) rfl (fun h2 => ?_) (fun h2 => ?_)
    · refine x_iconst hm rfl (v := nI 0) (by decide) ?_
      refine x_iret hm rfl rfl (by first | rfl | exact bI_nar | decide) ?_
      first
        | exact qt (congrArg Value.int (bI_t ⟨Int32.not_lt.mp h1, Int32.not_lt.mp h2⟩))
        | exact qt (congrArg Value.int (bI_f fun q => absurd h2 (Int32.not_lt.mpr q.2)))
        | exact qt (congrArg Value.int (bI_f fun q => absurd h1 (Int32.not_lt.mpr q.1)))
    · refine x_iconst hm rfl (v := nI 1) (by decide) ?_
      refine x_goto hm rfl (t := 17) rfl ?_
      refine x_iret hm rfl rfl (by first | rfl | exact bI_nar | decide) ?_
      first
        | exact qt (congrArg Value.int (bI_t ⟨Int32.not_lt.mp h1, Int32.not_lt.mp h2⟩))
        | exact qt (congrArg Value.int (bI_f fun q => absurd h2 (Int32.not_lt.mpr q.2)))
        | exact qt (congrArg Value.int (bI_f fun q => absurd h1 (Int32.not_lt.mpr q.1)))
theorem k92w {e0 : Nat} (hc9 : M 52 1 = nI c) (hc1 : c ≤ 120) (hT : ∀ k, k < c → M 53 k = bt (T k)) (hB : ∀ k, k < c → T k < 256) (hec0 : e0 ≤ c) {b : Nat} (hsk : w1 (sp8 T c) e0 = b) (hbc : b < c) (hlb : lt8 T c b = true) : ∀ (n e : Nat) (M1 : mM), c - e < n → b ≤ e → e ≤ c → w1 (lt8 T c) b = w1 (lt8 T c) e → M1 52 3 = nI b → M1 52 4 = nI e → M1 52 2 = nI 1 → M1 52 6 = -1 → Lc M M1 → mEv X (QV (fun M' => CT T c (pNx T c e0) M' ∧ Lc M M')) 92 93 [some (.ref 52)] [] (con M1) := by
  have hm : mMet 92 = some _ := rfl
  intro n
  induction n with
  | zero =>
    intro e M1 hen hbe hec hw g3 g4 g2 g6 hL
    omega
  | succ n ih =>
    intro e M1 hen hbe hec hw g3 g4 g2 g6 hL
    have hC9 : M1 52 1 = nI c := (hL 52 1 (by omega)).trans hc9
    have hT1 : ∀ k, k < c → M1 53 k = bt (T k) := fun k hk => (hL 53 k (by omega)).trans (hT k hk)
    refine x_aload_n hm rfl rfl ?_
    refine x_getf hm rfl (gI rfl rfl) ?_
    rw [g4]
    refine x_aload_n hm rfl rfl ?_
    refine x_getf hm rfl (gI rfl rfl) ?_
    rw [hC9]
    refine x_icmp_ge hm rfl (t := 259) rfl (fun h1 => ?_) (fun h1 => ?_)
    · have hce : c ≤ e := (jI_le (by omega) (by omega)).mp h1
      have hz : ¬ lt8 T c e = true := fun q => by have := (of_decide_eq_true q).1; omega
      refine x_ret hm rfl rfl ?_
      exact ⟨_, rfl, rfl, CT.nx hL hc9 hc1 hT g6 hec0 (pNx_1 hsk hbc hlb (hw.trans (w1_z hz))) g3 g4 g2 (fun q => absurd q (by decide)), hL⟩
    · have hlt : e < c := Nat.lt_of_not_le fun h => h1 (nI_le h (by omega))
      refine x_aload_n hm rfl rfl ?_
      refine x_getf hm rfl (gR rfl rfl) ?_
      refine x_aload_n hm rfl rfl ?_
      refine x_getf hm rfl (gI rfl rfl) ?_
      rw [g4]
      refine x_bald hm rfl (lB rfl (by omega) (by decide)) ?_
      rw [hT1 _ hlt]
      refine x_callS hm rfl rfl (k93) ?_
      refine x_if_eq hm rfl (t := 259) rfl (fun h2 => ?_) (fun h2 => ?_)
      · have hz : ¬ lt8 T c e = true := fun q => bI_eq0.mp h2 ((bt_in (hB _ hlt) (by decide) (by decide)).mpr (of_decide_eq_true q).2)
        refine x_ret hm rfl rfl ?_
        exact ⟨_, rfl, rfl, CT.nx hL hc9 hc1 hT g6 hec0 (pNx_1 hsk hbc hlb (hw.trans (w1_z hz))) g3 g4 g2 (fun q => absurd q (by decide)), hL⟩
      · have hq := (bt_in (hB _ hlt) (by decide) (by decide)).mp (bI_ne0 h2)
        have hs : lt8 T c e = true := decide_eq_true ⟨hlt, hq⟩
        refine x_aload_n hm rfl rfl ?_
        refine x_dup hm rfl rfl ?_
        refine x_getf hm rfl (gI rfl rfl) ?_
        rw [g4]
        refine x_iconst hm rfl (v := nI 1) (by decide) ?_
        refine x_iadd hm rfl ?_
        rw [jI_add]
        refine x_putf hm rfl (pI rfl rfl (by decide) (by first | exact mFit_int | rfl | decide) rfl) ?_
        refine x_goto hm rfl (t := 93) rfl ?_
        exact ih (e + 1) _ (by omega) (by omega) (by omega) (hw.trans (w1_s hc1 lt8_n hs)) (by rw [mpf (by decide)]; exact g3) mp0 (by rw [mpf (by decide)]; exact g2) (by rw [mpf (by decide)]; exact g6) (hL.trans (Lc.put (by decide) (by decide)))
theorem k92n {e0 : Nat} (hc9 : M 52 1 = nI c) (hc1 : c ≤ 120) (hT : ∀ k, k < c → M 53 k = bt (T k)) (hB : ∀ k, k < c → T k < 256) (hec0 : e0 ≤ c) {b : Nat} (hsk : w1 (sp8 T c) e0 = b) (hbc : b < c) (hnl : ¬ lt8 T c b = true) (hdb : dg8 T c b = true) : ∀ (n e : Nat) (M1 : mM), c - e < n → b ≤ e → e ≤ c → w1 (dg8 T c) b = w1 (dg8 T c) e → M1 52 3 = nI b → M1 52 4 = nI e → M1 52 2 = nI 2 → M1 52 6 = -1 → M1 52 5 = nI (pV T b (e - b)) → Lc M M1 → mEv X (QV (fun M' => CT T c (pNx T c e0) M' ∧ Lc M M')) 92 157 [some (.ref 52)] [] (con M1) := by
  have hm : mMet 92 = some _ := rfl
  intro n
  induction n with
  | zero =>
    intro e M1 hen hbe hec hw g3 g4 g2 g6 g5 hL
    omega
  | succ n ih =>
    intro e M1 hen hbe hec hw g3 g4 g2 g6 g5 hL
    have hC9 : M1 52 1 = nI c := (hL 52 1 (by omega)).trans hc9
    have hT1 : ∀ k, k < c → M1 53 k = bt (T k) := fun k hk => (hL 53 k (by omega)).trans (hT k hk)
    refine x_aload_n hm rfl rfl ?_
    refine x_getf hm rfl (gI rfl rfl) ?_
    rw [g4]
    refine x_aload_n hm rfl rfl ?_
    refine x_getf hm rfl (gI rfl rfl) ?_
    rw [hC9]
    refine x_icmp_ge hm rfl (t := 259) rfl (fun h1 => ?_) (fun h1 => ?_)
    · have hce : c ≤ e := (jI_le (by omega) (by omega)).mp h1
      have hz : ¬ dg8 T c e = true := fun q => by have := (of_decide_eq_true q).1; omega
      refine x_ret hm rfl rfl ?_
      exact ⟨_, rfl, rfl, CT.nx hL hc9 hc1 hT g6 hec0 (pNx_2 hsk hbc hnl hdb (hw.trans (w1_z hz))) g3 g4 g2 (fun _ => g5), hL⟩
    · have hlt : e < c := Nat.lt_of_not_le fun h => h1 (nI_le h (by omega))
      refine x_aload_n hm rfl rfl ?_
      refine x_getf hm rfl (gR rfl rfl) ?_
      refine x_aload_n hm rfl rfl ?_
      refine x_getf hm rfl (gI rfl rfl) ?_
      rw [g4]
      refine x_bald hm rfl (lB rfl (by omega) (by decide)) ?_
      rw [hT1 _ hlt]
      refine x_callS hm rfl rfl (k94) ?_
      refine x_if_eq hm rfl (t := 259) rfl (fun h2 => ?_) (fun h2 => ?_)
      · have hz : ¬ dg8 T c e = true := fun q => bI_eq0.mp h2 ((bt_in (hB _ hlt) (by decide) (by decide)).mpr (of_decide_eq_true q).2)
        refine x_ret hm rfl rfl ?_
        exact ⟨_, rfl, rfl, CT.nx hL hc9 hc1 hT g6 hec0 (pNx_2 hsk hbc hnl hdb (hw.trans (w1_z hz))) g3 g4 g2 (fun _ => g5), hL⟩
      · have hq := (bt_in (hB _ hlt) (by decide) (by decide)).mp (bI_ne0 h2)
        have hs : dg8 T c e = true := decide_eq_true ⟨hlt, hq⟩
        have hbt : bt (T e) = nI (T e) := (bt_all _ (hB _ hlt)).1 (by omega)
        refine x_aload_n hm rfl rfl ?_
        refine x_sipush hm rfl (v := nI 1000) (by decide) ?_
        refine x_aload_n hm rfl rfl ?_
        refine x_getf hm rfl (gI rfl rfl) ?_
        rw [g5]
        refine x_bipush hm rfl (v := nI 10) (by decide) ?_
        refine x_imul hm rfl ?_
        refine x_aload_n hm rfl rfl ?_
        refine x_getf hm rfl (gR rfl rfl) ?_
        refine x_aload_n hm rfl rfl ?_
        refine x_getf hm rfl (gI rfl rfl) ?_
        rw [g4]
        refine x_bald hm rfl (lB rfl (by omega) (by decide)) ?_
        rw [hT1 _ hlt, hbt]
        refine x_iadd hm rfl ?_
        refine x_bipush hm rfl (v := nI 48) (by decide) ?_
        refine x_isub hm rfl ?_
        refine x_lib hm rfl rfl ?_
        dsimp only
        rw [pV_s2 (j := e - b) (by omega) (hB e hlt) hq.1]
        refine x_putf hm rfl (pI rfl rfl (by decide) (by first | exact mFit_int | rfl | decide) rfl) ?_
        refine x_aload_n hm rfl rfl ?_
        refine x_dup hm rfl rfl ?_
        refine x_getf hm rfl (gI rfl rfl) ?_
        rw [mpf (by decide), g4]
        refine x_iconst hm rfl (v := nI 1) (by decide) ?_
        refine x_iadd hm rfl ?_
        rw [jI_add]
        refine x_putf hm rfl (pI rfl rfl (by decide) (by first | exact mFit_int | rfl | decide) rfl) ?_
        refine x_goto hm rfl (t := 157) rfl ?_
        exact ih (e + 1) _ (by omega) (by omega) (by omega) (hw.trans (w1_s hc1 dg8_n hs)) (by rw [mpf (by decide), mpf (by decide)]; exact g3) mp0 (by rw [mpf (by decide), mpf (by decide)]; exact g2) (by rw [mpf (by decide), mpf (by decide)]; exact g6) (by rw [mpf (by decide), mp0, show e + 1 - b = e - b + 1 by omega]) ((hL.trans (Lc.put (by decide) (by decide))).trans (Lc.put (by decide) (by decide)))
theorem k92s {e0 : Nat} (hc9 : M 52 1 = nI c) (hc1 : c ≤ 120) (hT : ∀ k, k < c → M 53 k = bt (T k)) (hB : ∀ k, k < c → T k < 256) (hec0 : e0 ≤ c) : ∀ (n b : Nat) (M1 : mM), c - b < n → e0 ≤ b → b ≤ c → w1 (sp8 T c) e0 = w1 (sp8 T c) b → M1 52 3 = nI b → M1 52 6 = -1 → Lc M M1 → mEv X (QV (fun M' => CT T c (pNx T c e0) M' ∧ Lc M M')) 92 8 [some (.ref 52)] [] (con M1) := by
  have hm : mMet 92 = some _ := rfl
  intro n
  induction n with
  | zero =>
    intro b M1 hbn he0 hbc hsk g3 g6 hL
    omega
  | succ n ih =>
    intro b M1 hbn he0 hbc hsk g3 g6 hL
    have hC9 : M1 52 1 = nI c := (hL 52 1 (by omega)).trans hc9
    have hT1 : ∀ k, k < c → M1 53 k = bt (T k) := fun k hk => (hL 53 k (by omega)).trans (hT k hk)
    refine x_aload_n hm rfl rfl ?_
    refine x_getf hm rfl (gI rfl rfl) ?_
    rw [g3]
    refine x_aload_n hm rfl rfl ?_
    refine x_getf hm rfl (gI rfl rfl) ?_
    rw [hC9]
    refine x_icmp_ge hm rfl (t := 46) rfl (fun h1 => ?_) (fun h1 => ?_)
    · have hcb : c ≤ b := (jI_le (by omega) (by omega)).mp h1
      have hsk2 := hsk.trans (w1_z fun q => by have := (of_decide_eq_true q).1; omega)
      refine x_aload_n hm rfl rfl ?_
      refine x_aload_n hm rfl rfl ?_
      refine x_getf hm rfl (gI rfl rfl) ?_
      rw [g3]
      refine x_putf hm rfl (pI rfl rfl (by decide) (by first | exact mFit_int | rfl | decide) rfl) ?_
      refine x_aload_n hm rfl rfl ?_
      refine x_getf hm rfl (gI rfl rfl) ?_
      rw [mpf (by decide), g3]
      refine x_aload_n hm rfl rfl ?_
      refine x_getf hm rfl (gI rfl rfl) ?_
      rw [mpf (by decide), hC9]
      refine x_icmp_lt hm rfl (t := 73) rfl (fun h2 => ?_) (fun h2 => ?_)
      · have hlt : b < c := (jI_lt (by omega) (by omega)).mp h2
        refine x_aload_n hm rfl rfl ?_
        refine x_getf hm rfl (gR rfl rfl) ?_
        refine x_aload_n hm rfl rfl ?_
        refine x_getf hm rfl (gI rfl rfl) ?_
        rw [mp0]
        refine x_bald hm rfl (lB rfl (by omega) (by decide)) ?_
        rw [mpo (by decide), hT1 _ hlt]
        refine x_callS hm rfl rfl (k93) ?_
        refine x_if_eq hm rfl (t := 132) rfl (fun h3 => ?_) (fun h3 => ?_)
        · have hnl : ¬ lt8 T c b = true := fun q => bI_eq0.mp h3 ((bt_in (hB _ hlt) (by decide) (by decide)).mpr (of_decide_eq_true q).2)
          refine x_aload_n hm rfl rfl ?_
          refine x_getf hm rfl (gR rfl rfl) ?_
          refine x_aload_n hm rfl rfl ?_
          refine x_getf hm rfl (gI rfl rfl) ?_
          rw [mp0]
          refine x_bald hm rfl (lB rfl (by omega) (by decide)) ?_
          rw [mpo (by decide), hT1 _ hlt]
          refine x_callS hm rfl rfl (k94) ?_
          refine x_if_eq hm rfl (t := 226) rfl (fun h4 => ?_) (fun h4 => ?_)
          · have hnd : ¬ dg8 T c b = true := fun q => bI_eq0.mp h4 ((bt_in (hB _ hlt) (by decide) (by decide)).mpr (of_decide_eq_true q).2)
            refine x_aload_n hm rfl rfl ?_
            refine x_aload_n hm rfl rfl ?_
            refine x_getf hm rfl (gR rfl rfl) ?_
            refine x_aload_n hm rfl rfl ?_
            refine x_getf hm rfl (gI rfl rfl) ?_
            rw [mpf (by decide), g3]
            refine x_bald hm rfl (lB rfl (by omega) (by decide)) ?_
            rw [mpo (by decide), hT1 _ hlt]
            refine x_bipush hm rfl (v := nI 59) (by decide) ?_
            refine x_icmp_ne hm rfl (t := 245) rfl (fun h5 => ?_) (fun h5 => ?_)
            · have htk : nI 4 = tkc T b 3 := (if_neg (fun q => h5 (by rw [q]; rfl))).symm
              refine x_iconst hm rfl (v := nI 4) (by decide) ?_
              refine x_putf hm rfl (pI rfl rfl (by decide) (by first | exact mFit_int | rfl | decide) rfl) ?_
              refine x_aload_n hm rfl rfl ?_
              refine x_dup hm rfl rfl ?_
              refine x_getf hm rfl (gI rfl rfl) ?_
              rw [mpf (by decide), mp0]
              refine x_iconst hm rfl (v := nI 1) (by decide) ?_
              refine x_iadd hm rfl ?_
              rw [jI_add]
              refine x_putf hm rfl (pI rfl rfl (by decide) (by first | exact mFit_int | rfl | decide) rfl) ?_
              refine x_ret hm rfl rfl ?_
              first
                | exact ⟨_, rfl, rfl, CT.nx ((hL.trans (Lc.put (M := M1) (x := 4) (v := nI b) (by decide) (by decide))).trans (Lc.put (by decide) (by decide))) hc9 hc1 hT (by rw [mpf (by decide), mpf (by decide)]; exact g6) hec0 (pNx_0 hsk2 hge) (by rw [mpf (by decide), mpf (by decide)]; exact g3) (by rw [mpf (by decide)]; exact mp0) mp0 (fun q => absurd q (by decide)), (hL.trans (Lc.put (M := M1) (x := 4) (v := nI b) (by decide) (by decide))).trans (Lc.put (by decide) (by decide))⟩
                | exact ⟨_, rfl, rfl, CT.nx (((hL.trans (Lc.put (M := M1) (x := 4) (v := nI b) (by decide) (by decide))).trans (Lc.put (by decide) (by decide))).trans (Lc.put (by decide) (by decide))) hc9 hc1 hT (by rw [mpf (by decide), mpf (by decide), mpf (by decide)]; exact g6) hec0 (pNx_3 hsk2 hlt hnl hnd) (by rw [mpf (by decide), mpf (by decide), mpf (by decide)]; exact g3) mp0 (by rw [mpf (by decide), mp0]; exact htk) (fun q => absurd q (by decide)), ((hL.trans (Lc.put (M := M1) (x := 4) (v := nI b) (by decide) (by decide))).trans (Lc.put (by decide) (by decide))).trans (Lc.put (by decide) (by decide))⟩
            · have htk : nI 3 = tkc T b 3 := (if_pos ((bt_eq (hB _ hlt) (by decide)).mp h5)).symm
              refine x_iconst hm rfl (v := nI 3) (by decide) ?_
              refine x_goto hm rfl (t := 246) rfl ?_
              refine x_putf hm rfl (pI rfl rfl (by decide) (by first | exact mFit_int | rfl | decide) rfl) ?_
              refine x_aload_n hm rfl rfl ?_
              refine x_dup hm rfl rfl ?_
              refine x_getf hm rfl (gI rfl rfl) ?_
              rw [mpf (by decide), mp0]
              refine x_iconst hm rfl (v := nI 1) (by decide) ?_
              refine x_iadd hm rfl ?_
              rw [jI_add]
              refine x_putf hm rfl (pI rfl rfl (by decide) (by first | exact mFit_int | rfl | decide) rfl) ?_
              refine x_ret hm rfl rfl ?_
              first
                | exact ⟨_, rfl, rfl, CT.nx ((hL.trans (Lc.put (M := M1) (x := 4) (v := nI b) (by decide) (by decide))).trans (Lc.put (by decide) (by decide))) hc9 hc1 hT (by rw [mpf (by decide), mpf (by decide)]; exact g6) hec0 (pNx_0 hsk2 hge) (by rw [mpf (by decide), mpf (by decide)]; exact g3) (by rw [mpf (by decide)]; exact mp0) mp0 (fun q => absurd q (by decide)), (hL.trans (Lc.put (M := M1) (x := 4) (v := nI b) (by decide) (by decide))).trans (Lc.put (by decide) (by decide))⟩
                | exact ⟨_, rfl, rfl, CT.nx (((hL.trans (Lc.put (M := M1) (x := 4) (v := nI b) (by decide) (by decide))).trans (Lc.put (by decide) (by decide))).trans (Lc.put (by decide) (by decide))) hc9 hc1 hT (by rw [mpf (by decide), mpf (by decide), mpf (by decide)]; exact g6) hec0 (pNx_3 hsk2 hlt hnl hnd) (by rw [mpf (by decide), mpf (by decide), mpf (by decide)]; exact g3) mp0 (by rw [mpf (by decide), mp0]; exact htk) (fun q => absurd q (by decide)), ((hL.trans (Lc.put (M := M1) (x := 4) (v := nI b) (by decide) (by decide))).trans (Lc.put (by decide) (by decide))).trans (Lc.put (by decide) (by decide))⟩
          · have hdb : dg8 T c b = true := decide_eq_true ⟨hlt, (bt_in (hB _ hlt) (by decide) (by decide)).mp (bI_ne0 h4)⟩
            refine x_aload_n hm rfl rfl ?_
            refine x_iconst hm rfl (v := nI 2) (by decide) ?_
            refine x_putf hm rfl (pI rfl rfl (by decide) (by first | exact mFit_int | rfl | decide) rfl) ?_
            refine x_aload_n hm rfl rfl ?_
            refine x_iconst hm rfl (v := nI 0) (by decide) ?_
            refine x_putf hm rfl (pI rfl rfl (by decide) (by first | exact mFit_int | rfl | decide) rfl) ?_
            exact k92n hc9 hc1 hT hB hec0 hsk2 hlt hnl hdb _ b _ (Nat.lt_succ_self _) (Nat.le_refl _) hbc rfl (by rw [mpf (by decide), mpf (by decide), mpf (by decide)]; exact g3) (by rw [mpf (by decide), mpf (by decide)]; exact mp0) (by rw [mpf (by decide)]; exact mp0) (by rw [mpf (by decide), mpf (by decide), mpf (by decide)]; exact g6) (by rw [mp0, Nat.sub_self]; rfl) (((hL.trans (Lc.put (M := M1) (x := 4) (v := nI b) (by decide) (by decide))).trans (Lc.put (by decide) (by decide))).trans (Lc.put (by decide) (by decide)))
        · have hlb : lt8 T c b = true := decide_eq_true ⟨hlt, (bt_in (hB _ hlt) (by decide) (by decide)).mp (bI_ne0 h3)⟩
          refine x_aload_n hm rfl rfl ?_
          refine x_iconst hm rfl (v := nI 1) (by decide) ?_
          refine x_putf hm rfl (pI rfl rfl (by decide) (by first | exact mFit_int | rfl | decide) rfl) ?_
          exact k92w hc9 hc1 hT hB hec0 hsk2 hlt hlb _ b _ (Nat.lt_succ_self _) (Nat.le_refl _) hbc rfl (by rw [mpf (by decide), mpf (by decide)]; exact g3) (by rw [mpf (by decide)]; exact mp0) mp0 (by rw [mpf (by decide), mpf (by decide)]; exact g6) ((hL.trans (Lc.put (M := M1) (x := 4) (v := nI b) (by decide) (by decide))).trans (Lc.put (by decide) (by decide)))
      · have hge : ¬ b < c := fun q => h2 ((jI_lt (by omega) (by omega)).mpr q)
        refine x_aload_n hm rfl rfl ?_
        refine x_iconst hm rfl (v := nI 0) (by decide) ?_
        refine x_putf hm rfl (pI rfl rfl (by decide) (by first | exact mFit_int | rfl | decide) rfl) ?_
        refine x_goto hm rfl (t := 259) rfl ?_
        refine x_ret hm rfl rfl ?_
        first
          | exact ⟨_, rfl, rfl, CT.nx ((hL.trans (Lc.put (M := M1) (x := 4) (v := nI b) (by decide) (by decide))).trans (Lc.put (by decide) (by decide))) hc9 hc1 hT (by rw [mpf (by decide), mpf (by decide)]; exact g6) hec0 (pNx_0 hsk2 hge) (by rw [mpf (by decide), mpf (by decide)]; exact g3) (by rw [mpf (by decide)]; exact mp0) mp0 (fun q => absurd q (by decide)), (hL.trans (Lc.put (M := M1) (x := 4) (v := nI b) (by decide) (by decide))).trans (Lc.put (by decide) (by decide))⟩
          | exact ⟨_, rfl, rfl, CT.nx (((hL.trans (Lc.put (M := M1) (x := 4) (v := nI b) (by decide) (by decide))).trans (Lc.put (by decide) (by decide))).trans (Lc.put (by decide) (by decide))) hc9 hc1 hT (by rw [mpf (by decide), mpf (by decide), mpf (by decide)]; exact g6) hec0 (pNx_3 hsk2 hlt hnl hnd) (by rw [mpf (by decide), mpf (by decide), mpf (by decide)]; exact g3) mp0 (by rw [mpf (by decide), mp0]; exact htk) (fun q => absurd q (by decide)), ((hL.trans (Lc.put (M := M1) (x := 4) (v := nI b) (by decide) (by decide))).trans (Lc.put (by decide) (by decide))).trans (Lc.put (by decide) (by decide))⟩
    · have hlt : b < c := Nat.lt_of_not_le fun h => h1 (nI_le h (by omega))
      refine x_aload_n hm rfl rfl ?_
      refine x_getf hm rfl (gR rfl rfl) ?_
      refine x_aload_n hm rfl rfl ?_
      refine x_getf hm rfl (gI rfl rfl) ?_
      rw [g3]
      refine x_bald hm rfl (lB rfl (by omega) (by decide)) ?_
      rw [hT1 _ hlt]
      refine x_bipush hm rfl (v := nI 32) (by decide) ?_
      refine x_icmp_ne hm rfl (t := 46) rfl (fun h6 => ?_) (fun h6 => ?_)
      · have hsk2 := hsk.trans (w1_z fun q => h6 ((bt_eq (hB _ hlt) (by decide)).mpr (of_decide_eq_true q).2))
        refine x_aload_n hm rfl rfl ?_
        refine x_aload_n hm rfl rfl ?_
        refine x_getf hm rfl (gI rfl rfl) ?_
        rw [g3]
        refine x_putf hm rfl (pI rfl rfl (by decide) (by first | exact mFit_int | rfl | decide) rfl) ?_
        refine x_aload_n hm rfl rfl ?_
        refine x_getf hm rfl (gI rfl rfl) ?_
        rw [mpf (by decide), g3]
        refine x_aload_n hm rfl rfl ?_
        refine x_getf hm rfl (gI rfl rfl) ?_
        rw [mpf (by decide), hC9]
        refine x_icmp_lt hm rfl (t := 73) rfl (fun h7 => ?_) (fun h7 => ?_)
        · have hlt : b < c := (jI_lt (by omega) (by omega)).mp h7
          refine x_aload_n hm rfl rfl ?_
          refine x_getf hm rfl (gR rfl rfl) ?_
          refine x_aload_n hm rfl rfl ?_
          refine x_getf hm rfl (gI rfl rfl) ?_
          rw [mp0]
          refine x_bald hm rfl (lB rfl (by omega) (by decide)) ?_
          rw [mpo (by decide), hT1 _ hlt]
          refine x_callS hm rfl rfl (k93) ?_
          refine x_if_eq hm rfl (t := 132) rfl (fun h8 => ?_) (fun h8 => ?_)
          · have hnl : ¬ lt8 T c b = true := fun q => bI_eq0.mp h8 ((bt_in (hB _ hlt) (by decide) (by decide)).mpr (of_decide_eq_true q).2)
            refine x_aload_n hm rfl rfl ?_
            refine x_getf hm rfl (gR rfl rfl) ?_
            refine x_aload_n hm rfl rfl ?_
            refine x_getf hm rfl (gI rfl rfl) ?_
            rw [mp0]
            refine x_bald hm rfl (lB rfl (by omega) (by decide)) ?_
            rw [mpo (by decide), hT1 _ hlt]
            refine x_callS hm rfl rfl (k94) ?_
            refine x_if_eq hm rfl (t := 226) rfl (fun h9 => ?_) (fun h9 => ?_)
            · have hnd : ¬ dg8 T c b = true := fun q => bI_eq0.mp h9 ((bt_in (hB _ hlt) (by decide) (by decide)).mpr (of_decide_eq_true q).2)
              refine x_aload_n hm rfl rfl ?_
              refine x_aload_n hm rfl rfl ?_
              refine x_getf hm rfl (gR rfl rfl) ?_
              refine x_aload_n hm rfl rfl ?_
              refine x_getf hm rfl (gI rfl rfl) ?_
              rw [mpf (by decide), g3]
              refine x_bald hm rfl (lB rfl (by omega) (by decide)) ?_
              rw [mpo (by decide), hT1 _ hlt]
              refine x_bipush hm rfl (v := nI 59) (by decide) ?_
              refine x_icmp_ne hm rfl (t := 245) rfl (fun h10 => ?_) (fun h10 => ?_)
              · have htk : nI 4 = tkc T b 3 := (if_neg (fun q => h10 (by rw [q]; rfl))).symm
                refine x_iconst hm rfl (v := nI 4) (by decide) ?_
                refine x_putf hm rfl (pI rfl rfl (by decide) (by first | exact mFit_int | rfl | decide) rfl) ?_
                refine x_aload_n hm rfl rfl ?_
                refine x_dup hm rfl rfl ?_
                refine x_getf hm rfl (gI rfl rfl) ?_
                rw [mpf (by decide), mp0]
                refine x_iconst hm rfl (v := nI 1) (by decide) ?_
                refine x_iadd hm rfl ?_
                rw [jI_add]
                refine x_putf hm rfl (pI rfl rfl (by decide) (by first | exact mFit_int | rfl | decide) rfl) ?_
                refine x_ret hm rfl rfl ?_
                first
                  | exact ⟨_, rfl, rfl, CT.nx ((hL.trans (Lc.put (M := M1) (x := 4) (v := nI b) (by decide) (by decide))).trans (Lc.put (by decide) (by decide))) hc9 hc1 hT (by rw [mpf (by decide), mpf (by decide)]; exact g6) hec0 (pNx_0 hsk2 hge) (by rw [mpf (by decide), mpf (by decide)]; exact g3) (by rw [mpf (by decide)]; exact mp0) mp0 (fun q => absurd q (by decide)), (hL.trans (Lc.put (M := M1) (x := 4) (v := nI b) (by decide) (by decide))).trans (Lc.put (by decide) (by decide))⟩
                  | exact ⟨_, rfl, rfl, CT.nx (((hL.trans (Lc.put (M := M1) (x := 4) (v := nI b) (by decide) (by decide))).trans (Lc.put (by decide) (by decide))).trans (Lc.put (by decide) (by decide))) hc9 hc1 hT (by rw [mpf (by decide), mpf (by decide), mpf (by decide)]; exact g6) hec0 (pNx_3 hsk2 hlt hnl hnd) (by rw [mpf (by decide), mpf (by decide), mpf (by decide)]; exact g3) mp0 (by rw [mpf (by decide), mp0]; exact htk) (fun q => absurd q (by decide)), ((hL.trans (Lc.put (M := M1) (x := 4) (v := nI b) (by decide) (by decide))).trans (Lc.put (by decide) (by decide))).trans (Lc.put (by decide) (by decide))⟩
              · have htk : nI 3 = tkc T b 3 := (if_pos ((bt_eq (hB _ hlt) (by decide)).mp h10)).symm
                refine x_iconst hm rfl (v := nI 3) (by decide) ?_
                refine x_goto hm rfl (t := 246) rfl ?_
                refine x_putf hm rfl (pI rfl rfl (by decide) (by first | exact mFit_int | rfl | decide) rfl) ?_
                refine x_aload_n hm rfl rfl ?_
                refine x_dup hm rfl rfl ?_
                refine x_getf hm rfl (gI rfl rfl) ?_
                rw [mpf (by decide), mp0]
                refine x_iconst hm rfl (v := nI 1) (by decide) ?_
                refine x_iadd hm rfl ?_
                rw [jI_add]
                refine x_putf hm rfl (pI rfl rfl (by decide) (by first | exact mFit_int | rfl | decide) rfl) ?_
                refine x_ret hm rfl rfl ?_
                first
                  | exact ⟨_, rfl, rfl, CT.nx ((hL.trans (Lc.put (M := M1) (x := 4) (v := nI b) (by decide) (by decide))).trans (Lc.put (by decide) (by decide))) hc9 hc1 hT (by rw [mpf (by decide), mpf (by decide)]; exact g6) hec0 (pNx_0 hsk2 hge) (by rw [mpf (by decide), mpf (by decide)]; exact g3) (by rw [mpf (by decide)]; exact mp0) mp0 (fun q => absurd q (by decide)), (hL.trans (Lc.put (M := M1) (x := 4) (v := nI b) (by decide) (by decide))).trans (Lc.put (by decide) (by decide))⟩
                  | exact ⟨_, rfl, rfl, CT.nx (((hL.trans (Lc.put (M := M1) (x := 4) (v := nI b) (by decide) (by decide))).trans (Lc.put (by decide) (by decide))).trans (Lc.put (by decide) (by decide))) hc9 hc1 hT (by rw [mpf (by decide), mpf (by decide), mpf (by decide)]; exact g6) hec0 (pNx_3 hsk2 hlt hnl hnd) (by rw [mpf (by decide), mpf (by decide), mpf (by decide)]; exact g3) mp0 (by rw [mpf (by decide), mp0]; exact htk) (fun q => absurd q (by decide)), ((hL.trans (Lc.put (M := M1) (x := 4) (v := nI b) (by decide) (by decide))).trans (Lc.put (by decide) (by decide))).trans (Lc.put (by decide) (by decide))⟩
            · have hdb : dg8 T c b = true := decide_eq_true ⟨hlt, (bt_in (hB _ hlt) (by decide) (by decide)).mp (bI_ne0 h9)⟩
              refine x_aload_n hm rfl rfl ?_
              refine x_iconst hm rfl (v := nI 2) (by decide) ?_
              refine x_putf hm rfl (pI rfl rfl (by decide) (by first | exact mFit_int | rfl | decide) rfl) ?_
              refine x_aload_n hm rfl rfl ?_
              refine x_iconst hm rfl (v := nI 0) (by decide) ?_
              refine x_putf hm rfl (pI rfl rfl (by decide) (by first | exact mFit_int | rfl | decide) rfl) ?_
              exact k92n hc9 hc1 hT hB hec0 hsk2 hlt hnl hdb _ b _ (Nat.lt_succ_self _) (Nat.le_refl _) hbc rfl (by rw [mpf (by decide), mpf (by decide), mpf (by decide)]; exact g3) (by rw [mpf (by decide), mpf (by decide)]; exact mp0) (by rw [mpf (by decide)]; exact mp0) (by rw [mpf (by decide), mpf (by decide), mpf (by decide)]; exact g6) (by rw [mp0, Nat.sub_self]; rfl) (((hL.trans (Lc.put (M := M1) (x := 4) (v := nI b) (by decide) (by decide))).trans (Lc.put (by decide) (by decide))).trans (Lc.put (by decide) (by decide)))
          · have hlb : lt8 T c b = true := decide_eq_true ⟨hlt, (bt_in (hB _ hlt) (by decide) (by decide)).mp (bI_ne0 h8)⟩
            refine x_aload_n hm rfl rfl ?_
            refine x_iconst hm rfl (v := nI 1) (by decide) ?_
            refine x_putf hm rfl (pI rfl rfl (by decide) (by first | exact mFit_int | rfl | decide) rfl) ?_
            exact k92w hc9 hc1 hT hB hec0 hsk2 hlt hlb _ b _ (Nat.lt_succ_self _) (Nat.le_refl _) hbc rfl (by rw [mpf (by decide), mpf (by decide)]; exact g3) (by rw [mpf (by decide)]; exact mp0) mp0 (by rw [mpf (by decide), mpf (by decide)]; exact g6) ((hL.trans (Lc.put (M := M1) (x := 4) (v := nI b) (by decide) (by decide))).trans (Lc.put (by decide) (by decide)))
        · have hge : ¬ b < c := fun q => h7 ((jI_lt (by omega) (by omega)).mpr q)
          refine x_aload_n hm rfl rfl ?_
          refine x_iconst hm rfl (v := nI 0) (by decide) ?_
          refine x_putf hm rfl (pI rfl rfl (by decide) (by first | exact mFit_int | rfl | decide) rfl) ?_
          refine x_goto hm rfl (t := 259) rfl ?_
          refine x_ret hm rfl rfl ?_
          first
            | exact ⟨_, rfl, rfl, CT.nx ((hL.trans (Lc.put (M := M1) (x := 4) (v := nI b) (by decide) (by decide))).trans (Lc.put (by decide) (by decide))) hc9 hc1 hT (by rw [mpf (by decide), mpf (by decide)]; exact g6) hec0 (pNx_0 hsk2 hge) (by rw [mpf (by decide), mpf (by decide)]; exact g3) (by rw [mpf (by decide)]; exact mp0) mp0 (fun q => absurd q (by decide)), (hL.trans (Lc.put (M := M1) (x := 4) (v := nI b) (by decide) (by decide))).trans (Lc.put (by decide) (by decide))⟩
            | exact ⟨_, rfl, rfl, CT.nx (((hL.trans (Lc.put (M := M1) (x := 4) (v := nI b) (by decide) (by decide))).trans (Lc.put (by decide) (by decide))).trans (Lc.put (by decide) (by decide))) hc9 hc1 hT (by rw [mpf (by decide), mpf (by decide), mpf (by decide)]; exact g6) hec0 (pNx_3 hsk2 hlt hnl hnd) (by rw [mpf (by decide), mpf (by decide), mpf (by decide)]; exact g3) mp0 (by rw [mpf (by decide), mp0]; exact htk) (fun q => absurd q (by decide)), ((hL.trans (Lc.put (M := M1) (x := 4) (v := nI b) (by decide) (by decide))).trans (Lc.put (by decide) (by decide))).trans (Lc.put (by decide) (by decide))⟩
      · have hs : sp8 T c b = true := decide_eq_true ⟨hlt, (bt_eq (hB _ hlt) (by decide)).mp h6⟩
        refine x_aload_n hm rfl rfl ?_
        refine x_dup hm rfl rfl ?_
        refine x_getf hm rfl (gI rfl rfl) ?_
        rw [g3]
        refine x_iconst hm rfl (v := nI 1) (by decide) ?_
        refine x_iadd hm rfl ?_
        rw [jI_add]
        refine x_putf hm rfl (pI rfl rfl (by decide) (by first | exact mFit_int | rfl | decide) rfl) ?_
        refine x_goto hm rfl (t := 8) rfl ?_
        exact ih (b + 1) _ (by omega) (by omega) (by omega) (hsk.trans (w1_s hc1 sp8_n hs)) mp0 (by rw [mpf (by decide)]; exact g6) (hL.trans (Lc.put (by decide) (by decide)))
theorem k92 {e0 : Nat} (he : M 52 4 = nI e0) (hc9 : M 52 1 = nI c) (hc1 : c ≤ 120) (hT : ∀ k, k < c → M 53 k = bt (T k)) (hB : ∀ k, k < c → T k < 256) (hec0 : e0 ≤ c) (h6 : M 52 6 = -1) : ∃ M', mT X 92 [.ref 52] (con M) none (con M') ∧ CT T c (pNx T c e0) M' ∧ Lc M M' := by
  refine tv_of (row := _) rfl (Nat.le_of_ble_eq_true rfl) ?_
  have hm : mMet 92 = some _ := rfl
  refine x_aload_n hm rfl rfl ?_
  refine x_aload_n hm rfl rfl ?_
  refine x_getf hm rfl (gI rfl rfl) ?_
  rw [he]
  refine x_putf hm rfl (pI rfl rfl (by decide) (by first | exact mFit_int | rfl | decide) rfl) ?_
  exact k92s hc9 hc1 hT hB hec0 _ e0 _ (Nat.lt_succ_self _) (Nat.le_refl _) hec0 rfl mp0 (by rw [mpf (by decide)]; exact h6) (Lc.put (by decide) (by decide))
theorem CT.f6 {q : PS} {v : Int32} (h : CT T c q M) (hv : v = nI q.1) : CT T c (q.1, q.2.1, q.2.2.1, q.2.2.2.1, true) (mput M 52 6 v) := by
  obtain ⟨h1, h2, h3, h4, h5, h6, h7, hB⟩ := h
  exact ⟨(mpf (by decide)).trans h1, (mpf (by decide)).trans h2, (mpf (by decide)).trans h3, fun z => (mpf (by decide)).trans (h4 z), mp0.trans hv, (mpf (by decide)).trans h6, fun k hk => (congrFun (mpo (by decide)) k).trans (h7 k hk), hB⟩
theorem CT.fw {q : PS} (h : CT T c q M) (g : ¬ M 52 6 = -1) : q.2.2.2.2 = true := by
  have e := h.2.2.2.2.1
  cases hq : q.2.2.2.2 with
  | true => rfl
  | false => rw [hq] at e; exact absurd e g
theorem CT.ff {q : PS} (h : CT T c q M) (g : M 52 6 = -1) : q.2.2.2.2 = false := by
  have e := h.2.2.2.2.1
  obtain ⟨b1, b2, b3, -⟩ := h.2.2.2.2.2.2.2
  cases hq : q.2.2.2.2 with
  | false => rfl
  | true => rw [hq, g] at e; exact absurd e.symm (nI_nm1 (by omega))
/-- advance, where nothing is wrong -/
theorem k92a {q : PS} (h : CT T c q M) (hB : ∀ k, k < c → T k < 256) (g : q.2.2.2.2 = false) : ∃ M', mT X 92 [.ref 52] (con M) none (con M') ∧ CT T c (pMu T c q (nI 1)) M' ∧ Lc M M' := by
  rw [pMu_g g]
  obtain ⟨h1, h2, h3, h4, h5, h6, h7, b1, b2, b3, b4, b5, b6⟩ := h
  exact k92 h2 h6 b1 h7 hB b3 (by rw [h5, g]; rfl)
theorem k112 {q : PS} (h : CT T c q M) : ∃ M', mT X 112 [.ref 52] (con M) none (con M') ∧ CT T c (pMu T c q (nI 0)) M' ∧ Lc M M' := by
  refine tv_of (row := _) rfl (Nat.le_of_ble_eq_true rfl) ?_
  have hm : mMet 112 = some _ := rfl
  refine x_aload_n hm rfl rfl ?_
  refine x_getf hm rfl (gI rfl rfl) ?_
  refine x_iconst hm rfl (v := (-1 : Int32)) (by decide) ?_
  refine x_icmp_ne hm rfl (t := 16) rfl (fun h1 => ?_) (fun h1 => ?_)
  · have hq : pMu T c q (nI 0) = q := pMu_w (h.fw h1)
    refine x_ret hm rfl rfl ?_
    first
      | exact ⟨_, rfl, rfl, by rw [hq]; exact h.f6 rfl, Lc.put (by decide) (by decide)⟩
      | exact ⟨_, rfl, rfl, by rw [hq]; exact h, Lc.rf⟩
  · have hq : pMu T c q (nI 0) = (q.1, q.2.1, q.2.2.1, q.2.2.2.1, true) := if_pos (Or.inr rfl)
    refine x_aload_n hm rfl rfl ?_
    refine x_aload_n hm rfl rfl ?_
    refine x_getf hm rfl (gI rfl rfl) ?_
    rw [h.1]
    refine x_putf hm rfl (pI rfl rfl (by decide) (by first | exact mFit_int | rfl | decide) rfl) ?_
    refine x_ret hm rfl rfl ?_
    first
      | exact ⟨_, rfl, rfl, by rw [hq]; exact h.f6 rfl, Lc.put (by decide) (by decide)⟩
      | exact ⟨_, rfl, rfl, by rw [hq]; exact h, Lc.rf⟩
theorem k111f {q : PS} {hi : Int32} {x2 : Option Value} {M1 : mM} (hk : CT T c (pMu T c q (nI 0)) M1) (hL : Lc M M1) (hq : pNu T c q hi = pMu T c q (nI 0)) : mEv X (QI (fun v M' => CT T c (pNu T c q hi) M' ∧ Lc M M' ∧ ((pNu T c q hi).2.2.2.2 = false → v = nI q.2.2.2.1))) 111 20 [some (.ref 52), some (.int hi), x2] [] (con M1) := by
  have hm : mMet 111 = some _ := rfl
  have hw : (pMu T c q (nI 0)).2.2.2.2 = true := by
    rw [show pMu T c q (nI 0) = (q.1, q.2.1, q.2.2.1, q.2.2.2.1, true) from if_pos (Or.inr rfl)]
  refine x_aload_n hm rfl rfl ?_
  refine x_getf hm rfl (gI rfl rfl) ?_
  refine x_iconst hm rfl (v := (-1 : Int32)) (by decide) ?_
  refine x_icmp_eq hm rfl (t := 30) rfl (fun h1 => ?_) (fun h1 => ?_)
  · exact absurd (hw.symm.trans (hk.ff h1)) (by decide) --stop
  · refine x_iconst hm rfl (v := nI 0) (by decide) ?_
    refine x_iret hm rfl rfl (by first | rfl | exact bI_nar | decide) ?_
    exact ⟨_, _, rfl, rfl, by rw [hq]; exact hk, hL, fun z => absurd ((hw.symm.trans ((congrArg (fun a : PS => a.2.2.2.2) hq).symm.trans z)) : true = false) (by decide)⟩
theorem k111g {q : PS} {hi : Int32} {x2 : Option Value} (h : CT T c q M) (hB : ∀ k, k < c → T k < 256) (h2 : q.2.2.1 = 2) (hle : nI q.2.2.2.1 ≤ hi) : mEv X (QI (fun v M' => CT T c (pNu T c q hi) M' ∧ Lc M M' ∧ ((pNu T c q hi).2.2.2.2 = false → v = nI q.2.2.2.1))) 111 20 [some (.ref 52), some (.int hi), x2] [] (con M) := by
  have hm : mMet 111 = some _ := rfl
  have hq : pNu T c q hi = pMu T c q (nI 1) := congrArg (pMu T c q) (if_pos ⟨h2, hle⟩)
  refine x_aload_n hm rfl rfl ?_
  refine x_getf hm rfl (gI rfl rfl) ?_
  refine x_iconst hm rfl (v := (-1 : Int32)) (by decide) ?_
  refine x_icmp_eq hm rfl (t := 30) rfl (fun h1 => ?_) (fun h1 => ?_)
  · have hf := h.ff h1
    refine x_aload_n hm rfl rfl ?_
    refine x_getf hm rfl (gI rfl rfl) ?_
    rw [h.2.2.2.1 h2]
    refine x_istore_n hm rfl rfl ?_
    refine x_aload_n hm rfl rfl ?_
    refine x_cVv hm rfl rfl (k92a h hB hf) (fun M2 r2 => ?_)
    refine x_iload_n hm rfl rfl ?_
    refine x_iret hm rfl rfl (by first | rfl | exact bI_nar | decide) ?_
    first
      | exact ⟨_, _, rfl, rfl, by rw [hq]; exact r2.1, r2.2, fun _ => rfl⟩
      | exact ⟨_, _, rfl, rfl, by rw [pNu_w hw]; exact h, Lc.rf, fun z => absurd ((hw.symm.trans ((congrArg (fun a : PS => a.2.2.2.2) (pNu_w (T := T) (c := c) (hi := hi) hw)).symm.trans z)) : true = false) (by decide)⟩
  · have hw := h.fw h1
    refine x_iconst hm rfl (v := nI 0) (by decide) ?_
    refine x_iret hm rfl rfl (by first | rfl | exact bI_nar | decide) ?_
    first
      | exact ⟨_, _, rfl, rfl, by rw [pNu_w hw]; exact h, Lc.rf, fun z => absurd ((hw.symm.trans ((congrArg (fun a : PS => a.2.2.2.2) (pNu_w (T := T) (c := c) (hi := hi) hw)).symm.trans z)) : true = false) (by decide)⟩
      | exact ⟨_, _, rfl, rfl, by rw [hq]; exact r0.1, r0.2, fun _ => rfl⟩
theorem k111 {q : PS} {hi : Int32} (h : CT T c q M) (hB : ∀ k, k < c → T k < 256) : ∃ v M', mT X 111 [.ref 52, .int hi] (con M) (some (.int v)) (con M') ∧ CT T c (pNu T c q hi) M' ∧ Lc M M' ∧ ((pNu T c q hi).2.2.2.2 = false → v = nI q.2.2.2.1) := by
  refine ti_of (row := _) rfl (Nat.le_of_ble_eq_true rfl) ?_
  have hm : mMet 111 = some _ := rfl
  have hs3 := h.2.2.2.2.2.2.2.2.2.2.2.1
  refine x_aload_n hm rfl rfl ?_
  refine x_getf hm rfl (gI rfl rfl) ?_
  refine x_iconst hm rfl (v := nI 2) (by decide) ?_
  refine x_icmp_ne hm rfl (t := 16) rfl (fun h1 => ?_) (fun h1 => ?_)
  · have hq : pNu T c q hi = pMu T c q (nI 0) := congrArg (pMu T c q) (if_neg fun z => h1 (h.2.2.1.trans ((tkc_e hs3 (by decide)).mpr z.1)))
    refine x_aload_n hm rfl rfl ?_
    refine x_cVv hm rfl rfl (k112 h) (fun M2 r2 => ?_)
    first
      | exact k111g h hB h2 hle
      | exact k111f r1.1 r1.2 hq
      | exact k111f r2.1 r2.2 hq
      | exact k111f r3.1 r3.2 hq
      | exact k111f r4.1 r4.2 hq
      | exact k111f r5.1 r5.2 hq
      | exact k111f r6.1 r6.2 hq
      | exact k111f r7.1 r7.2 hq
      | exact k111f r8.1 r8.2 hq
  · have h2 := (tkc_e hs3 (by decide)).mp (h.2.2.1.symm.trans h1)
    refine x_aload_n hm rfl rfl ?_
    refine x_getf hm rfl (gI rfl rfl) ?_
    rw [h.2.2.2.1 h2]
    refine x_iload_n hm rfl rfl ?_
    refine x_icmp_le hm rfl (t := 20) rfl (fun h3 => ?_) (fun h3 => ?_)
    · have hle := h3
      first
        | exact k111g h hB h2 hle
        | exact k111f r1.1 r1.2 hq
        | exact k111f r2.1 r2.2 hq
        | exact k111f r3.1 r3.2 hq
        | exact k111f r4.1 r4.2 hq
        | exact k111f r5.1 r5.2 hq
        | exact k111f r6.1 r6.2 hq
        | exact k111f r7.1 r7.2 hq
        | exact k111f r8.1 r8.2 hq
    · have hq : pNu T c q hi = pMu T c q (nI 0) := congrArg (pMu T c q) (if_neg fun z => h3 z.2)
      refine x_aload_n hm rfl rfl ?_
      refine x_cVv hm rfl rfl (k112 h) (fun M4 r4 => ?_)
      first
        | exact k111g h hB h2 hle
        | exact k111f r1.1 r1.2 hq
        | exact k111f r2.1 r2.2 hq
        | exact k111f r3.1 r3.2 hq
        | exact k111f r4.1 r4.2 hq
        | exact k111f r5.1 r5.2 hq
        | exact k111f r6.1 r6.2 hq
        | exact k111f r7.1 r7.2 hq
        | exact k111f r8.1 r8.2 hq
theorem ch_lt2 {t k : Nat} (ht : t < 15) : (mTx.getD t []).getD k 0 < 128 := by
  have e : ∀ t, t < 15 → (mTx.getD t []).all (fun x => decide (x < 128)) = true := by decide +kernel
  have h := List.all_eq_true.mp (e t ht)
  rw [List.getD_eq_getElem?_getD]
  cases hg : (mTx.getD t [])[k]? with
  | none => exact (by decide : (0 : Nat) < 128)
  | some x => exact of_decide_eq_true (h x (List.mem_of_getElem? hg))
theorem k97l {q : PS} {t : Nat} (h : CT T c q M) (hB : ∀ k, k < c → T k < 256) (ht : t < 15) (hs1 : q.2.2.1 = 1) (hlen : q.2.1 - q.1 = (mTx.getD t []).length) : ∀ (n k : Nat), (mTx.getD t []).length - k < n → k ≤ (mTx.getD t []).length → (∀ j, j < k → T (q.1 + j) = (mTx.getD t []).getD j 0) → mEv X (QE M (fun v => v = bI (pWd T q t))) 97 28 [some (.ref 52), some (.ref (1000000 + t)), some (.int (nI k))] [] (con M) := by
  have hm : mMet 97 = some _ := rfl
  intro n
  induction n with
  | zero =>
    intro k hkn hkb hch
    omega
  | succ n ih =>
    intro k hkn hkb hch
    have hle := mTx_le t
    obtain ⟨a1, a2, a3, a4, a5, a6, a7, b1, b2, b3, b4, b5, b6⟩ := id h
    refine x_iload_n hm rfl rfl ?_
    refine x_aload_n hm rfl rfl ?_
    refine x_libV hm rfl (len_call ht rfl) ?_
    dsimp only
    refine x_icmp_ge hm rfl (t := 63) rfl (fun h1 => ?_) (fun h1 => ?_)
    · have hkl : (mTx.getD t []).length ≤ k := (jI_le (by omega) (by omega)).mp h1
      have hv : nI 1 = bI (pWd T q t) := bI_t ⟨hs1, hlen, fun j hj => hch j (by omega)⟩
      refine x_iconst hm rfl (v := nI 1) (by decide) ?_
      refine x_iret hm rfl rfl (by first | rfl | exact bI_nar | decide) ?_
      exact ⟨_, rfl, rfl, hv⟩
    · have hk : k < (mTx.getD t []).length := Nat.lt_of_not_le fun h => h1 (nI_le h (by omega))
      have hkc : q.1 + k < c := by omega
      have hx1 := ch_lt2 (k := k) ht
      have hx2 := hB _ hkc
      refine x_aload_n hm rfl rfl ?_
      refine x_getf hm rfl (gR rfl rfl) ?_
      refine x_aload_n hm rfl rfl ?_
      refine x_getf hm rfl (gI rfl rfl) ?_
      rw [a1]
      refine x_iload_n hm rfl rfl ?_
      refine x_iadd hm rfl ?_
      rw [jI_add]
      refine x_bald hm rfl (lB rfl (by omega) (by decide)) ?_
      rw [a7 _ hkc]
      refine x_aload_n hm rfl rfl ?_
      refine x_iload_n hm rfl rfl ?_
      refine x_libV hm rfl (chr_call ht rfl hk) ?_
      dsimp only
      refine x_icmp_eq hm rfl (t := 57) rfl (fun h2 => ?_) (fun h2 => ?_)
      · have hyes := (bt_eq hx2 hx1).mp h2
        refine x_iinc hm rfl rfl (v := nI 1) (by decide) rfl ?_
        rw [jI_add]
        refine x_goto hm rfl (t := 28) rfl ?_
        exact ih _ (by omega) (by omega) (wd_c hch hyes)
      · have hv : nI 0 = bI (pWd T q t) := bI_f fun z => h2 ((bt_eq hx2 hx1).mpr (z.2.2 k hk))
        refine x_iconst hm rfl (v := nI 0) (by decide) ?_
        refine x_iret hm rfl rfl (by first | rfl | exact bI_nar | decide) ?_
        exact ⟨_, rfl, rfl, hv⟩
theorem k97 {q : PS} {t : Nat} (h : CT T c q M) (hB : ∀ k, k < c → T k < 256) (ht : t < 15) : ∃ v, mT X 97 [.ref 52, .ref (1000000 + t)] (con M) (some (.int v)) (con M) ∧ v = bI (pWd T q t) := by
  refine te_of (row := _) rfl (Nat.le_of_ble_eq_true rfl) ?_
  have hm : mMet 97 = some _ := rfl
  have hle := mTx_le t
  obtain ⟨a1, a2, a3, a4, a5, a6, a7, b1, b2, b3, b4, b5, b6⟩ := id h
  refine x_aload_n hm rfl rfl ?_
  refine x_getf hm rfl (gI rfl rfl) ?_
  refine x_iconst hm rfl (v := nI 1) (by decide) ?_
  refine x_icmp_ne hm rfl (t := 24) rfl (fun h1 => ?_) (fun h1 => ?_)
  · have hv : nI 0 = bI (pWd T q t) := bI_f fun z => h1 (a3.trans ((tkc_e b5 (by decide)).mpr z.1))
    refine x_iconst hm rfl (v := nI 0) (by decide) ?_
    refine x_iret hm rfl rfl (by first | rfl | exact bI_nar | decide) ?_
    exact ⟨_, rfl, rfl, hv⟩
  · have hs1 := (tkc_e b5 (by decide)).mp (a3.symm.trans h1)
    refine x_aload_n hm rfl rfl ?_
    refine x_getf hm rfl (gI rfl rfl) ?_
    rw [a2]
    refine x_aload_n hm rfl rfl ?_
    refine x_getf hm rfl (gI rfl rfl) ?_
    rw [a1]
    refine x_isub hm rfl ?_
    rw [subI b2]
    refine x_aload_n hm rfl rfl ?_
    refine x_libV hm rfl (len_call ht rfl) ?_
    dsimp only
    refine x_icmp_eq hm rfl (t := 26) rfl (fun h2 => ?_) (fun h2 => ?_)
    · have hlen := jI_inj (by omega) (by omega) h2
      refine x_iconst hm rfl (v := nI 0) (by decide) ?_
      refine x_istore_n hm rfl rfl ?_
      exact k97l h hB ht hs1 hlen _ 0 (Nat.lt_succ_self _) (Nat.zero_le _) (fun j hj => absurd hj (Nat.not_lt_zero j))
    · have hv : nI 0 = bI (pWd T q t) := bI_f fun z => h2 (by rw [z.2.1])
      refine x_iconst hm rfl (v := nI 0) (by decide) ?_
      refine x_iret hm rfl rfl (by first | rfl | exact bI_nar | decide) ?_
      exact ⟨_, rfl, rfl, hv⟩
theorem gd_e {A B : List Nat} {i : Nat} (h1 : i < A.length) (h2 : i < B.length) (e : A.getD i 0 = B.getD i 0) : A[i] = B[i] := by
  rw [List.getD_eq_getElem?_getD, List.getD_eq_getElem?_getD, List.getElem?_eq_getElem h1, List.getElem?_eq_getElem h2] at e
  exact e
theorem wd_u {q : PS} {t u : Nat} (h : pWd T q t) (g : pWd T q u) : mTx.getD t [] = mTx.getD u [] := by
  refine List.ext_getElem (h.2.1.symm.trans g.2.1) fun i h1 h2 => ?_
  have e := (h.2.2 i h1).symm.trans (g.2.2 i h2)
  exact gd_e h1 h2 e
theorem kt_u : ∀ j, j < 7 → ∀ k, k < 7 → mTx.getD (kt j) [] = mTx.getD (kt k) [] → j = k := by decide +kernel
theorem kt_t : ∀ j, j < 7 → ¬ mTx.getD (kt j) [] = mTx.getD 0 [] := by decide +kernel
theorem pKd_no {q : PS} : ∀ k, (∀ j, j < k → ¬ pWd T q (kt j)) → pKd T q k = -1 := by
  intro k
  induction k with
  | zero => intro _; rfl
  | succ k ih =>
    intro h
    rw [show pKd T q (k + 1) = pKd T q k from if_neg (h k (Nat.lt_succ_self _))]
    exact ih fun j hj => h j (by omega)
theorem pKd_yes {q : PS} {j : Nat} (h : pWd T q (kt j)) : ∀ k, j < k → k ≤ 7 → pKd T q k = nI j := by
  intro k
  induction k with
  | zero => intro h _; omega
  | succ k ih =>
    intro hj hk
    by_cases g : pWd T q (kt k)
    · rw [show pKd T q (k + 1) = nI k from if_pos g, kt_u j (by omega) k (by omega) (wd_u h g)]
    · rw [show pKd T q (k + 1) = pKd T q k from if_neg g]
      refine ih (Nat.lt_of_le_of_ne (by omega) fun e => g (by rw [← e]; exact h)) (by omega)
theorem k95l {q : PS} (h : CT T c q M) (hB : ∀ k, k < c → T k < 256) : ∀ (n k : Nat), 7 - k < n → k ≤ 7 → (∀ j, j < k → ¬ pWd T q (kt j)) → mEv X (QE M (fun v => v = pKd T q 7)) 95 2 [some (.ref 52), some (.int (nI k))] [] (con M) := by
  have hm : mMet 95 = some _ := rfl
  intro n
  induction n with
  | zero =>
    intro k hkn hkb hno
    omega
  | succ n ih =>
    intro k hkn hkb hno
    refine x_iload_n hm rfl rfl ?_
    refine x_bipush hm rfl (v := nI 7) (by decide) ?_
    refine x_icmp_ge hm rfl (t := 27) rfl (fun h1 => ?_) (fun h1 => ?_)
    · obtain rfl : k = 7 := Nat.le_antisymm hkb ((jI_le (by decide) (by omega)).mp h1)
      have hv : -1 = pKd T q 7 := (pKd_no 7 hno).symm
      refine x_iconst hm rfl (v := (-1 : Int32)) (by decide) ?_
      refine x_iret hm rfl rfl (by first | rfl | exact bI_nar | decide) ?_
      exact ⟨_, rfl, rfl, hv⟩
    · have hk : k < 7 := Nat.lt_of_not_le fun h => h1 (nI_le h (by omega))
      refine x_aload_n hm rfl rfl ?_
      refine x_iload_n hm rfl rfl ?_
      refine x_callS hm rfl rfl (t96 hk) ?_
      refine x_cVe hm rfl rfl (k97 h hB (kt_lt hk)) (fun v2 r2 => ?_)
      subst r2
      refine x_if_eq hm rfl (t := 21) rfl (fun h3 => ?_) (fun h3 => ?_)
      · have hn := bI_eq0.mp h3
        refine x_iinc hm rfl rfl (v := nI 1) (by decide) rfl ?_
        rw [jI_add]
        refine x_goto hm rfl (t := 2) rfl ?_
        refine ih _ (by omega) (by omega) fun j hj => ?_
        by_cases e : j = k
        · subst e; exact hn
        · exact hno j (by omega)
      · have hv : nI k = pKd T q 7 := (pKd_yes (bI_ne0 h3) 7 hk (Nat.le_refl _)).symm
        refine x_iload_n hm rfl rfl ?_
        refine x_iret hm rfl rfl (by first | rfl | exact bI_nar | decide) ?_
        exact ⟨_, rfl, rfl, hv⟩
theorem k95 {q : PS} (h : CT T c q M) (hB : ∀ k, k < c → T k < 256) : ∃ v, mT X 95 [.ref 52] (con M) (some (.int v)) (con M) ∧ v = pKd T q 7 := by
  refine te_of (row := _) rfl (Nat.le_of_ble_eq_true rfl) ?_
  have hm : mMet 95 = some _ := rfl
  refine x_iconst hm rfl (v := nI 0) (by decide) ?_
  refine x_istore_n hm rfl rfl ?_
  exact k95l h hB _ 0 (Nat.lt_succ_self _) (Nat.zero_le _) (fun j hj => absurd hj (Nat.not_lt_zero j))
theorem k110 {q : PS} {t : Nat} {w hi : Int32} (h : CT T c q M) (hB : ∀ k, k < c → T k < 256) (ht : t < 15) : ∃ v M', mT X 110 [.ref 52, .ref (1000000 + t), .int hi, .int w] (con M) (some (.int v)) (con M') ∧ CT T c (pAf T c q t w hi).2 M' ∧ Lc M M' ∧ ((pAf T c q t w hi).2.2.2.2.2 = false → v = (pAf T c q t w hi).1) := by
  refine ti_of (row := _) rfl (Nat.le_of_ble_eq_true rfl) ?_
  have hm : mMet 110 = some _ := rfl
  refine x_aload_n hm rfl rfl ?_
  refine x_getf hm rfl (gI rfl rfl) ?_
  refine x_iconst hm rfl (v := (-1 : Int32)) (by decide) ?_
  refine x_icmp_ne hm rfl (t := 16) rfl (fun h1 => ?_) (fun h1 => ?_)
  · have hq : pAf T c q t w hi = (w, q) := if_pos (Or.inl (h.fw h1))
    refine x_iload_n hm rfl rfl ?_
    refine x_iret hm rfl rfl (by first | rfl | exact bI_nar | decide) ?_
    first
      | exact ⟨_, _, rfl, rfl, by rw [hq]; exact h, Lc.rf, fun _ => by rw [hq]⟩
      | exact ⟨_, _, rfl, rfl, by rw [hq]; exact r0.1, r0.2.trans r0.2.1, by rw [hq]; exact r0.2.2⟩
  · have hf := h.ff h1
    refine x_aload_n hm rfl rfl ?_
    refine x_aload_n hm rfl rfl ?_
    refine x_cVe hm rfl rfl (k97 h hB ht) (fun v2 r2 => ?_)
    subst r2
    refine x_if_ne hm rfl (t := 18) rfl (fun h3 => ?_) (fun h3 => ?_)
    · have hq : pAf T c q t w hi = (nI (pMu T c q (nI 1)).2.2.2.1, pNu T c (pMu T c q (nI 1)) hi) := if_neg (fun g => g.elim (fun g => absurd (hf.symm.trans g) (by decide)) (fun g => g (bI_ne0 h3)))
      refine x_aload_n hm rfl rfl ?_
      refine x_cVv hm rfl rfl (k92a h hB hf) (fun M4 r4 => ?_)
      refine x_aload_n hm rfl rfl ?_
      refine x_iload_n hm rfl rfl ?_
      refine x_cVi hm rfl rfl (k111 r4.1 hB) (fun v5 M5 r5 => ?_)
      refine x_iret hm rfl rfl (by first | rfl | exact bI_nar | decide) ?_
      first
        | exact ⟨_, _, rfl, rfl, by rw [hq]; exact r5.1, r4.2.trans r5.2.1, by rw [hq]; exact r5.2.2⟩
        | exact ⟨_, _, rfl, rfl, by rw [hq]; exact h, Lc.rf, fun _ => by rw [hq]⟩
    · have hq : pAf T c q t w hi = (w, q) := if_pos (Or.inr (bI_eq0.mp (by first | exact h3 | exact Classical.byContradiction h3)))
      refine x_iload_n hm rfl rfl ?_
      refine x_iret hm rfl rfl (by first | rfl | exact bI_nar | decide) ?_
      first
        | exact ⟨_, _, rfl, rfl, by rw [hq]; exact h, Lc.rf, fun _ => by rw [hq]⟩
        | exact ⟨_, _, rfl, rfl, by rw [hq]; exact r2.1, r0.2.trans r2.2.1, by rw [hq]; exact r2.2.2⟩
end CV
