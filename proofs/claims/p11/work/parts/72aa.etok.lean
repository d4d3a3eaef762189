/-! ===== texts: what they tell, and the reference token by token ===== -/
def wh (p : Nat → Bool) : Nat → Nat → Nat
  | 0, b => b
  | f + 1, b => if p b = true then wh p f (b + 1) else b
theorem wh_c {p : Nat → Bool} {c : Nat} (h : ∀ k, c ≤ k → ¬ p k = true) : ∀ (f g b : Nat), c ≤ b + f → c ≤ b + g → wh p f b = wh p g b := by
  intro f
  induction f with
  | zero =>
    intro g b h1 h2
    cases g with
    | zero => rfl
    | succ g => exact (if_neg (h b (by omega))).symm
  | succ f ih =>
    intro g b h1 h2
    cases g with
    | zero => exact if_neg (h b (by omega))
    | succ g =>
      show (if p b = true then wh p f (b + 1) else b) = (if p b = true then wh p g (b + 1) else b)
      rw [ih g (b + 1) (by omega) (by omega)]
theorem wh_le {p : Nat → Bool} {c : Nat} (h : ∀ k, c ≤ k → ¬ p k = true) : ∀ (f b : Nat), b ≤ wh p f b ∧ (b ≤ c → wh p f b ≤ c) := by
  intro f
  induction f with
  | zero => intro b; exact ⟨Nat.le_refl _, fun h => h⟩
  | succ f ih =>
    intro b
    show b ≤ (if p b = true then wh p f (b + 1) else b) ∧ (b ≤ c → (if p b = true then wh p f (b + 1) else b) ≤ c)
    by_cases g : p b = true
    · rw [if_pos g]
      have hb : b < c := Nat.lt_of_not_le fun q => h b q g
      exact ⟨Nat.le_trans (Nat.le_succ b) (ih (b + 1)).1, fun _ => (ih (b + 1)).2 hb⟩
    · rw [if_neg g]
      exact ⟨Nat.le_refl _, fun q => q⟩
def w1 (p : Nat → Bool) (b : Nat) : Nat := wh p 121 b
theorem w1_z {p : Nat → Bool} {b : Nat} (h : ¬ p b = true) : w1 p b = b := if_neg h
theorem w1_s {p : Nat → Bool} {b c : Nat} (hc : c ≤ 120) (hp : ∀ k, c ≤ k → ¬ p k = true) (h : p b = true) : w1 p b = w1 p (b + 1) := by
  have e : w1 p b = wh p 120 (b + 1) := if_pos h
  rw [e]
  exact wh_c hp _ _ _ (by omega) (by omega)
def sp8 (T : Nat → Nat) (c k : Nat) : Bool := decide (k < c ∧ T k = 32)
def lt8 (T : Nat → Nat) (c k : Nat) : Bool := decide (k < c ∧ 97 ≤ T k ∧ T k ≤ 122)
def dg8 (T : Nat → Nat) (c k : Nat) : Bool := decide (k < c ∧ 48 ≤ T k ∧ T k ≤ 57)
theorem sp8_n {T : Nat → Nat} {c : Nat} : ∀ k, c ≤ k → ¬ sp8 T c k = true := fun k h g => by have := (of_decide_eq_true g).1; omega
theorem lt8_n {T : Nat → Nat} {c : Nat} : ∀ k, c ≤ k → ¬ lt8 T c k = true := fun k h g => by have := (of_decide_eq_true g).1; omega
theorem dg8_n {T : Nat → Nat} {c : Nat} : ∀ k, c ≤ k → ¬ dg8 T c k = true := fun k h g => by have := (of_decide_eq_true g).1; omega
/-- a number's value, by so many digits -/
def pV (T : Nat → Nat) (b : Nat) : Nat → Nat
  | 0 => 0
  | j + 1 => min 1000 (10 * pV T b j + T (b + j) - 48)
theorem pV_le {T : Nat → Nat} {b : Nat} : ∀ j, pV T b j ≤ 1000 := by
  intro j
  cases j with
  | zero => exact Nat.zero_le _
  | succ j => exact Nat.min_le_left _ _
/-- where a token begins and ends, its sort, its value, whether something was wrong -/
abbrev PS := Nat × Nat × Nat × Nat × Bool
def pNx (T : Nat → Nat) (c e : Nat) : PS :=
  if ¬ w1 (sp8 T c) e < c then (w1 (sp8 T c) e, w1 (sp8 T c) e, 0, 0, false)
  else if lt8 T c (w1 (sp8 T c) e) = true then (w1 (sp8 T c) e, w1 (lt8 T c) (w1 (sp8 T c) e), 1, 0, false)
  else if dg8 T c (w1 (sp8 T c) e) = true then (w1 (sp8 T c) e, w1 (dg8 T c) (w1 (sp8 T c) e), 2, pV T (w1 (sp8 T c) e) (w1 (dg8 T c) (w1 (sp8 T c) e) - w1 (sp8 T c) e), false)
  else (w1 (sp8 T c) e, w1 (sp8 T c) e + 1, 3, 0, false)
section PX
variable {T : Nat → Nat} {c e b x : Nat}
theorem pNx_0 (h : w1 (sp8 T c) e = b) (hb : ¬ b < c) : pNx T c e = (b, b, 0, 0, false) := by
  unfold pNx
  rw [h, if_pos hb]
theorem pNx_1 (h : w1 (sp8 T c) e = b) (hb : b < c) (hl : lt8 T c b = true) (hx : w1 (lt8 T c) b = x) : pNx T c e = (b, x, 1, 0, false) := by
  unfold pNx
  rw [h, if_neg (fun q => q hb), if_pos hl, hx]
theorem pNx_2 (h : w1 (sp8 T c) e = b) (hb : b < c) (hl : ¬ lt8 T c b = true) (hd : dg8 T c b = true) (hx : w1 (dg8 T c) b = x) : pNx T c e = (b, x, 2, pV T b (x - b), false) := by
  unfold pNx
  rw [h, if_neg (fun q => q hb), if_neg hl, if_pos hd, hx]
theorem pNx_3 (h : w1 (sp8 T c) e = b) (hb : b < c) (hl : ¬ lt8 T c b = true) (hd : ¬ dg8 T c b = true) : pNx T c e = (b, b + 1, 3, 0, false) := by
  unfold pNx
  rw [h, if_neg (fun q => q hb), if_neg hl, if_neg hd]
def Pk (c : Nat) (q : PS) : Prop := c ≤ 120 ∧ q.1 ≤ q.2.1 ∧ q.2.1 ≤ c ∧ (¬ q.2.2.1 = 0 → q.1 < q.2.1) ∧ q.2.2.1 ≤ 3 ∧ q.2.2.2.1 ≤ 1000
theorem pNx_w : (pNx T c e).2.2.2.2 = false := by
  unfold pNx
  repeat' split
  all_goals rfl
theorem pNx_pk (hc : c ≤ 120) (he : e ≤ c) : Pk c (pNx T c e) ∧ e ≤ (pNx T c e).1 := by
  obtain ⟨s1, s2⟩ := wh_le (sp8_n (T := T) (c := c)) 121 e
  have s3 := s2 he
  change e ≤ w1 (sp8 T c) e at s1
  change w1 (sp8 T c) e ≤ c at s3
  generalize hb : w1 (sp8 T c) e = b at s1 s3
  by_cases h1 : b < c
  · by_cases h2 : lt8 T c b = true
    · rw [pNx_1 hb h1 h2 rfl]
      obtain ⟨u1, u2⟩ := wh_le (lt8_n (T := T) (c := c)) 121 (b + 1)
      rw [w1_s hc lt8_n h2]
      exact ⟨⟨hc, Nat.le_trans (Nat.le_succ b) u1, u2 h1, fun _ => u1, Nat.le_of_ble_eq_true rfl, Nat.le_of_ble_eq_true rfl⟩, s1⟩
    · by_cases h3 : dg8 T c b = true
      · rw [pNx_2 hb h1 h2 h3 rfl]
        obtain ⟨u1, u2⟩ := wh_le (dg8_n (T := T) (c := c)) 121 (b + 1)
        rw [w1_s hc dg8_n h3]
        exact ⟨⟨hc, Nat.le_trans (Nat.le_succ b) u1, u2 h1, fun _ => u1, Nat.le_of_ble_eq_true rfl, pV_le _⟩, s1⟩
      · rw [pNx_3 hb h1 h2 h3]
        exact ⟨⟨hc, Nat.le_succ _, h1, fun _ => Nat.lt_succ_self _, Nat.le_of_ble_eq_true rfl, Nat.le_of_ble_eq_true rfl⟩, s1⟩
  · rw [pNx_0 hb h1]
    exact ⟨⟨hc, Nat.le_refl _, s3, fun q => absurd rfl q, Nat.le_of_ble_eq_true rfl, Nat.le_of_ble_eq_true rfl⟩, s1⟩
end PX
def pMu (T : Nat → Nat) (c : Nat) (q : PS) (x : Int32) : PS := if q.2.2.2.2 = true ∨ x = 0 then (q.1, q.2.1, q.2.2.1, q.2.2.2.1, true) else pNx T c q.2.1
def pNu (T : Nat → Nat) (c : Nat) (q : PS) (hi : Int32) : PS := pMu T c q (if q.2.2.1 = 2 ∧ nI q.2.2.2.1 ≤ hi then nI 1 else nI 0)
abbrev pWd (T : Nat → Nat) (q : PS) (t : Nat) : Prop := q.2.2.1 = 1 ∧ q.2.1 - q.1 = (mTx.getD t []).length ∧ ∀ k, k < (mTx.getD t []).length → T (q.1 + k) = (mTx.getD t []).getD k 0
noncomputable def pAf (T : Nat → Nat) (c : Nat) (q : PS) (t : Nat) (w hi : Int32) : Int32 × PS :=
  if q.2.2.2.2 = true ∨ ¬ pWd T q t then (w, q) else (nI (pMu T c q (nI 1)).2.2.2.1, pNu T c (pMu T c q (nI 1)) hi)
noncomputable def pKd (T : Nat → Nat) (q : PS) : Nat → Int32
  | 0 => -1
  | k + 1 => if pWd T q (kt k) then nI k else pKd T q k
section PY
variable {T : Nat → Nat} {c : Nat} {q : PS} {x hi w : Int32} {t : Nat}
theorem pMu_pk (h : Pk c q) : Pk c (pMu T c q x) ∧ q.1 ≤ (pMu T c q x).1 := by
  unfold pMu
  split
  · exact ⟨h, Nat.le_refl _⟩
  · obtain ⟨g1, g2⟩ := pNx_pk (T := T) h.1 h.2.2.1
    exact ⟨g1, Nat.le_trans h.2.1 g2⟩
theorem pMu_ok (h : (pMu T c q x).2.2.2.2 = false) : q.2.2.2.2 = false ∧ ¬ x = 0 := by
  unfold pMu at h
  split at h
  · cases h
  · rename_i g
    exact ⟨Bool.not_eq_true _ ▸ fun e => g (Or.inl e), fun e => g (Or.inr e)⟩
theorem pMu_w (h : q.2.2.2.2 = true) : pMu T c q x = q := by
  obtain ⟨a, b, d, e, f⟩ := q
  subst h
  exact if_pos (Or.inl rfl)
theorem pNu_w (h : q.2.2.2.2 = true) : pNu T c q hi = q := pMu_w h
theorem pNu_pk (h : Pk c q) : Pk c (pNu T c q hi) ∧ q.1 ≤ (pNu T c q hi).1 := pMu_pk h
theorem pNu_ok (h : (pNu T c q hi).2.2.2.2 = false) : q.2.2.2.2 = false ∧ q.2.2.1 = 2 ∧ nI q.2.2.2.1 ≤ hi := by
  obtain ⟨g1, g2⟩ := pMu_ok h
  refine ⟨g1, ?_⟩
  by_cases e : q.2.2.1 = 2 ∧ nI q.2.2.2.1 ≤ hi
  · exact e
  · exact absurd (if_neg e) g2
theorem pAf_pk (h : Pk c q) : Pk c (pAf T c q t w hi).2 ∧ q.1 ≤ (pAf T c q t w hi).2.1 := by
  unfold pAf
  split
  · exact ⟨h, Nat.le_refl _⟩
  · obtain ⟨g1, g2⟩ := pMu_pk (T := T) (x := nI 1) h
    obtain ⟨k1, k2⟩ := pNu_pk (T := T) (hi := hi) g1
    exact ⟨k1, Nat.le_trans g2 k2⟩
theorem pAf_ok (h : Pk c q) (g : (pAf T c q t w hi).2.2.2.2.2 = false) : q.2.2.2.2 = false ∧ ((pAf T c q t w hi).1 = w ∨ ∃ k, k ≤ 1000 ∧ (pAf T c q t w hi).1 = nI k ∧ nI k ≤ hi) := by
  by_cases e : q.2.2.2.2 = true ∨ ¬ pWd T q t
  · rw [show pAf T c q t w hi = (w, q) from if_pos e] at g ⊢
    exact ⟨g, Or.inl rfl⟩
  · rw [show pAf T c q t w hi = (nI (pMu T c q (nI 1)).2.2.2.1, pNu T c (pMu T c q (nI 1)) hi) from if_neg e] at g ⊢
    obtain ⟨g1, g2, g3⟩ := pNu_ok g
    exact ⟨(pMu_ok g1).1, Or.inr ⟨_, (pMu_pk h).1.2.2.2.2.2, rfl, g3⟩⟩
theorem pAf_w (h : q.2.2.2.2 = true) : pAf T c q t w hi = (w, q) := if_pos (Or.inl h)
end PY
/-- the reference stands so -/
def RT (T : Nat → Nat) (c : Nat) (q : PS) (M : mM) : Prop := M 66 10 = nI q.1 ∧ M 66 11 = nI q.2.1 ∧ M 66 12 = nI q.2.2.1 ∧ M 66 13 = nI q.2.2.2.1 ∧ M 66 14 = (if q.2.2.2.2 = true then nI 1 else nI 0) ∧ M 66 9 = nI c ∧ (∀ k, k < c → M 73 k = nI (T k)) ∧ Pk c q
section RT
variable {X : mSc} {Q : Option Value → mHp → Prop} {M : mM} {T : Nat → Nat} {c : Nat}
theorem by8_k {k : Nat} (hT : ∀ k, k < c → M 73 k = nI (T k)) (h : k < c) : by8 M c k = nI (T k) := by
  unfold by8
  rw [if_pos h, hT k h]
theorem by8_o {k : Nat} (h : ¬ k < c) : by8 M c k = -1 := if_neg h
theorem by8_in {k lo hi : Nat} (hT : ∀ k, k < c → M 73 k = nI (T k)) (h8 : ∀ k, k < c → T k < 256) (hl : lo ≤ 1000) (hh : hi ≤ 1000) : (nI lo ≤ by8 M c k ∧ by8 M c k ≤ nI hi) ↔ (k < c ∧ lo ≤ T k ∧ T k ≤ hi) := by
  by_cases h : k < c
  · have := h8 k h
    rw [by8_k hT h, jI_le (by omega) (by omega), jI_le (by omega) (by omega)]
    exact ⟨fun g => ⟨h, g⟩, fun g => g.2⟩
  · refine ⟨fun g => absurd (by8_lt g.1 hl) h, fun g => absurd g.1 h⟩
theorem by8_sp {k : Nat} (hT : ∀ k, k < c → M 73 k = nI (T k)) (h8 : ∀ k, k < c → T k < 256) : by8 M c k = nI 32 ↔ sp8 T c k = true := by
  unfold sp8
  rw [decide_eq_true_iff]
  by_cases h : k < c
  · have := h8 k h
    rw [by8_k hT h]
    exact ⟨fun g => ⟨h, jI_inj (by omega) (by decide) g⟩, fun g => by rw [g.2]⟩
  · rw [by8_o h]
    exact ⟨fun g => absurd g (by decide), fun g => absurd g.1 h⟩
theorem by8_nn {k : Nat} (hT : ∀ k, k < c → M 73 k = nI (T k)) (h8 : ∀ k, k < c → T k < 256) : (nI 0 ≤ by8 M c k) ↔ k < c := by
  refine ⟨fun g => by8_lt g (by decide), fun h => ?_⟩
  have := h8 k h
  rw [by8_k hT h, jI_le (by decide) (by omega)]
  omega
theorem RT.nx {N : mM} {e b s x v : Nat} (hL : Lx M N) (hc9 : M 66 9 = nI c) (hc1 : c ≤ 120) (hT : ∀ k, k < c → M 73 k = nI (T k)) (h14 : M 66 14 = nI 0) (hec : e ≤ c) (hq : pNx T c e = (b, x, s, v, false)) (h10 : N 66 10 = nI b) (h11 : N 66 11 = nI x) (h12 : N 66 12 = nI s) (h13 : N 66 13 = nI v) : RT T c (pNx T c e) N := by
  have hp := (pNx_pk (T := T) hc1 hec).1
  rw [hq] at hp ⊢
  exact ⟨h10, h11, h12, h13, (hL 66 14 (by omega)).trans h14, (hL 66 9 (by omega)).trans hc9, fun k hk => (hL 73 k (by omega)).trans (hT k hk), hp⟩
theorem pV_s {b j e : Nat} (he : e = b + j) (h8 : T e < 256) (hd : 48 ≤ T e) : (if nI 10 * nI (pV T b j) + nI (T e) - nI 48 < nI 1000 then nI 10 * nI (pV T b j) + nI (T e) - nI 48 else nI 1000) = nI (pV T b (j + 1)) := by
  subst he
  have h1 := pV_le (T := T) (b := b) j
  rw [jI_mul, jI_add, sub_k (by omega)]
  show _ = nI (min 1000 (10 * pV T b j + T (b + j) - 48))
  by_cases h : 10 * pV T b j + T (b + j) - 48 < 1000
  · rw [if_pos ((jI_lt (by omega) (by decide)).mpr h), Nat.min_eq_right (by omega)]
  · rw [if_neg (fun g => h ((jI_lt (by omega) (by decide)).mp g)), Nat.min_eq_left (by omega)]
theorem k221w {e0 : Nat} (hc9 : M 66 9 = nI c) (hc1 : c ≤ 120) (hT : ∀ k, k < c → M 73 k = nI (T k)) (h8 : ∀ k, k < c → T k < 256) (h14 : M 66 14 = nI 0) (hec0 : e0 ≤ c) {b : Nat} {v : Int32} (hsk : w1 (sp8 T c) e0 = b) (hbc : b < c) (hlb : lt8 T c b = true) : ∀ (n e : Nat) (M1 : mM), c - e < n → b ≤ e → e ≤ c → w1 (lt8 T c) b = w1 (lt8 T c) e → M1 66 10 = nI b → M1 66 11 = nI e → M1 66 12 = nI 1 → M1 66 13 = nI 0 → Lx M M1 → mEv X (QV (fun M' => RT T c (pNx T c e0) M' ∧ Lx M M')) 221 84 [some (.ref 66), some (.int v)] [] (con M1) := by
  have hm : mMet 221 = some _ := rfl
  intro n
  induction n with
  | zero =>
    intro e M1 hen hbe hec hw h10 h11 h12 h13 hL
    omega
  | succ n ih =>
    intro e M1 hen hbe hec hw h10 h11 h12 h13 hL
    have h9 : M1 66 9 = nI c := (hL 66 9 (by omega)).trans hc9
    have hT1 : ∀ k, k < c → M1 73 k = nI (T k) := fun k hk => (hL 73 k (by omega)).trans (hT k hk)
    refine x_aload_n hm rfl rfl ?_
    refine x_aload_n hm rfl rfl ?_
    refine x_getf hm rfl (gI rfl rfl) ?_
    rw [h11]
    refine x_callV hm rfl rfl (t222 h9 hc1 (by omega)) ?_
    refine x_bipush hm rfl (v := nI 97) (by decide) ?_
    refine x_bipush hm rfl (v := nI 122) (by decide) ?_
    refine x_callS hm rfl rfl (t133) ?_
    refine x_if_eq hm rfl (t := 206) rfl (fun h1 => ?_) (fun h1 => ?_)
    · have hz : ¬ lt8 T c e = true := fun q => bI_eq0.mp h1 ((by8_in hT1 h8 (by decide) (by decide)).mpr (of_decide_eq_true q))
      refine x_ret hm rfl rfl ?_
      exact ⟨_, rfl, rfl, RT.nx hL hc9 hc1 hT h14 hec0 (pNx_1 hsk hbc hlb (hw.trans (w1_z hz))) h10 h11 h12 h13, hL⟩
    · have hq := (by8_in hT1 h8 (by decide) (by decide)).mp (bI_ne0 h1)
      have hlt := hq.1
      have hs : lt8 T c e = true := decide_eq_true hq
      refine x_aload_n hm rfl rfl ?_
      refine x_dup hm rfl rfl ?_
      refine x_getf hm rfl (gI rfl rfl) ?_
      rw [h11]
      refine x_iconst hm rfl (v := nI 1) (by decide) ?_
      refine x_iadd hm rfl ?_
      rw [jI_add]
      refine x_putf hm rfl (pI rfl rfl (by decide) (by first | exact mFit_int | rfl | decide) rfl) ?_
      refine x_goto hm rfl (t := 84) rfl ?_
      exact ih (e + 1) _ (by omega) (by omega) (by omega) (hw.trans (w1_s hc1 lt8_n hs)) (by rw [mpf (by decide)]; exact h10) mp0 (by rw [mpf (by decide)]; exact h12) (by rw [mpf (by decide)]; exact h13) (hL.trans (Lx.put (by decide) (by decide)))
theorem k221n {e0 : Nat} (hc9 : M 66 9 = nI c) (hc1 : c ≤ 120) (hT : ∀ k, k < c → M 73 k = nI (T k)) (h8 : ∀ k, k < c → T k < 256) (h14 : M 66 14 = nI 0) (hec0 : e0 ≤ c) {b : Nat} {v : Int32} (hsk : w1 (sp8 T c) e0 = b) (hbc : b < c) (hnl : ¬ lt8 T c b = true) (hdb : dg8 T c b = true) : ∀ (n e : Nat) (M1 : mM), c - e < n → b ≤ e → e ≤ c → w1 (dg8 T c) b = w1 (dg8 T c) e → M1 66 10 = nI b → M1 66 11 = nI e → M1 66 12 = nI 2 → M1 66 13 = nI (pV T b (e - b)) → Lx M M1 → mEv X (QV (fun M' => RT T c (pNx T c e0) M' ∧ Lx M M')) 221 131 [some (.ref 66), some (.int v)] [] (con M1) := by
  have hm : mMet 221 = some _ := rfl
  intro n
  induction n with
  | zero =>
    intro e M1 hen hbe hec hw h10 h11 h12 h13 hL
    omega
  | succ n ih =>
    intro e M1 hen hbe hec hw h10 h11 h12 h13 hL
    have h9 : M1 66 9 = nI c := (hL 66 9 (by omega)).trans hc9
    have hT1 : ∀ k, k < c → M1 73 k = nI (T k) := fun k hk => (hL 73 k (by omega)).trans (hT k hk)
    refine x_aload_n hm rfl rfl ?_
    refine x_aload_n hm rfl rfl ?_
    refine x_getf hm rfl (gI rfl rfl) ?_
    rw [h11]
    refine x_callV hm rfl rfl (t222 h9 hc1 (by omega)) ?_
    refine x_bipush hm rfl (v := nI 48) (by decide) ?_
    refine x_bipush hm rfl (v := nI 57) (by decide) ?_
    refine x_callS hm rfl rfl (t133) ?_
    refine x_if_eq hm rfl (t := 206) rfl (fun h1 => ?_) (fun h1 => ?_)
    · have hz : ¬ dg8 T c e = true := fun q => bI_eq0.mp h1 ((by8_in hT1 h8 (by decide) (by decide)).mpr (of_decide_eq_true q))
      refine x_ret hm rfl rfl ?_
      exact ⟨_, rfl, rfl, RT.nx hL hc9 hc1 hT h14 hec0 (pNx_2 hsk hbc hnl hdb (hw.trans (w1_z hz))) h10 h11 h12 h13, hL⟩
    · have hq := (by8_in hT1 h8 (by decide) (by decide)).mp (bI_ne0 h1)
      have hlt := hq.1
      have hs : dg8 T c e = true := decide_eq_true hq
      refine x_aload_n hm rfl rfl ?_
      refine x_sipush hm rfl (v := nI 1000) (by decide) ?_
      refine x_bipush hm rfl (v := nI 10) (by decide) ?_
      refine x_aload_n hm rfl rfl ?_
      refine x_getf hm rfl (gI rfl rfl) ?_
      rw [h13]
      refine x_imul hm rfl ?_
      refine x_aload_n hm rfl rfl ?_
      refine x_aload_n hm rfl rfl ?_
      refine x_getf hm rfl (gI rfl rfl) ?_
      rw [h11]
      refine x_callV hm rfl rfl (t222 h9 hc1 (by omega)) ?_
      rw [by8_k hT1 hlt]
      refine x_iadd hm rfl ?_
      refine x_bipush hm rfl (v := nI 48) (by decide) ?_
      refine x_isub hm rfl ?_
      refine x_lib hm rfl rfl ?_
      dsimp only
      rw [pV_s (j := e - b) (by omega) (h8 e hlt) hq.2.1]
      refine x_putf hm rfl (pI rfl rfl (by decide) (by first | exact mFit_int | rfl | decide) rfl) ?_
      refine x_aload_n hm rfl rfl ?_
      refine x_dup hm rfl rfl ?_
      refine x_getf hm rfl (gI rfl rfl) ?_
      rw [mpf (by decide), h11]
      refine x_iconst hm rfl (v := nI 1) (by decide) ?_
      refine x_iadd hm rfl ?_
      rw [jI_add]
      refine x_putf hm rfl (pI rfl rfl (by decide) (by first | exact mFit_int | rfl | decide) rfl) ?_
      refine x_goto hm rfl (t := 131) rfl ?_
      exact ih (e + 1) _ (by omega) (by omega) (by omega) (hw.trans (w1_s hc1 dg8_n hs)) (by rw [mpf (by decide), mpf (by decide)]; exact h10) mp0 (by rw [mpf (by decide), mpf (by decide)]; exact h12) (by rw [mpf (by decide), mp0, show e + 1 - b = e - b + 1 by omega]) ((hL.trans (Lx.put (by decide) (by decide))).trans (Lx.put (by decide) (by decide)))
theorem k221s {e0 : Nat} (hc9 : M 66 9 = nI c) (hc1 : c ≤ 120) (hT : ∀ k, k < c → M 73 k = nI (T k)) (h8 : ∀ k, k < c → T k < 256) (h14 : M 66 14 = nI 0) (hec0 : e0 ≤ c) : ∀ (n b : Nat) (x1 : Option Value) (M1 : mM), c - b < n → e0 ≤ b → b ≤ c → w1 (sp8 T c) e0 = w1 (sp8 T c) b → M1 66 10 = nI b → Lx M M1 → mEv X (QV (fun M' => RT T c (pNx T c e0) M' ∧ Lx M M')) 221 8 [some (.ref 66), x1] [] (con M1) := by
  have hm : mMet 221 = some _ := rfl
  intro n
  induction n with
  | zero =>
    intro b x1 M1 hbn he0 hbc hsk h10 hL
    omega
  | succ n ih =>
    intro b x1 M1 hbn he0 hbc hsk h10 hL
    have h9 : M1 66 9 = nI c := (hL 66 9 (by omega)).trans hc9
    have hT1 : ∀ k, k < c → M1 73 k = nI (T k) := fun k hk => (hL 73 k (by omega)).trans (hT k hk)
    refine x_aload_n hm rfl rfl ?_
    refine x_aload_n hm rfl rfl ?_
    refine x_getf hm rfl (gI rfl rfl) ?_
    rw [h10]
    refine x_callV hm rfl rfl (t222 h9 hc1 (by omega)) ?_
    refine x_bipush hm rfl (v := nI 32) (by decide) ?_
    refine x_icmp_ne hm rfl (t := 34) rfl (fun h1 => ?_) (fun h1 => ?_)
    · have hsk2 := hsk.trans (w1_z fun q => h1 ((by8_sp hT1 h8).mpr q))
      refine x_aload_n hm rfl rfl ?_
      refine x_aload_n hm rfl rfl ?_
      refine x_getf hm rfl (gI rfl rfl) ?_
      rw [h10]
      refine x_callV hm rfl rfl (t222 h9 hc1 (by omega)) ?_
      refine x_istore_n hm rfl rfl ?_
      refine x_aload_n hm rfl rfl ?_
      refine x_aload_n hm rfl rfl ?_
      refine x_getf hm rfl (gI rfl rfl) ?_
      rw [h10]
      refine x_putf hm rfl (pI rfl rfl (by decide) (by first | exact mFit_int | rfl | decide) rfl) ?_
      refine x_aload_n hm rfl rfl ?_
      refine x_iconst hm rfl (v := nI 0) (by decide) ?_
      refine x_putf hm rfl (pI rfl rfl (by decide) (by first | exact mFit_int | rfl | decide) rfl) ?_
      refine x_iload_n hm rfl rfl ?_
      refine x_if_ge hm rfl (t := 68) rfl (fun h2 => ?_) (fun h2 => ?_)
      · have hlt : b < c := (by8_nn hT1 h8).mp h2
        refine x_iload_n hm rfl rfl ?_
        refine x_bipush hm rfl (v := nI 97) (by decide) ?_
        refine x_bipush hm rfl (v := nI 122) (by decide) ?_
        refine x_callS hm rfl rfl (t133) ?_
        refine x_if_eq hm rfl (t := 115) rfl (fun h3 => ?_) (fun h3 => ?_)
        · have hnl : ¬ lt8 T c b = true := fun q => bI_eq0.mp h3 ((by8_in hT1 h8 (by decide) (by decide)).mpr (of_decide_eq_true q))
          refine x_iload_n hm rfl rfl ?_
          refine x_bipush hm rfl (v := nI 48) (by decide) ?_
          refine x_bipush hm rfl (v := nI 57) (by decide) ?_
          refine x_callS hm rfl rfl (t133) ?_
          refine x_if_eq hm rfl (t := 191) rfl (fun h4 => ?_) (fun h4 => ?_)
          · have hnd : ¬ dg8 T c b = true := fun q => bI_eq0.mp h4 ((by8_in hT1 h8 (by decide) (by decide)).mpr (of_decide_eq_true q))
            refine x_aload_n hm rfl rfl ?_
            refine x_iconst hm rfl (v := nI 3) (by decide) ?_
            refine x_putf hm rfl (pI rfl rfl (by decide) (by first | exact mFit_int | rfl | decide) rfl) ?_
            refine x_aload_n hm rfl rfl ?_
            refine x_dup hm rfl rfl ?_
            refine x_getf hm rfl (gI rfl rfl) ?_
            rw [mpf (by decide), mpf (by decide), mp0]
            refine x_iconst hm rfl (v := nI 1) (by decide) ?_
            refine x_iadd hm rfl ?_
            rw [jI_add]
            refine x_putf hm rfl (pI rfl rfl (by decide) (by first | exact mFit_int | rfl | decide) rfl) ?_
            refine x_ret hm rfl rfl ?_
            first
              | exact ⟨_, rfl, rfl, RT.nx (hL.trans (((Lx.put (M := M1) (x := 11) (v := nI b) (by decide) (by decide)).trans (Lx.put (x := 13) (v := nI 0) (by decide) (by decide))).trans (Lx.put (x := 12) (v := nI 0) (by decide) (by decide)))) hc9 hc1 hT h14 hec0 (pNx_0 hsk2 (fun q => hge ((by8_nn hT1 h8).mpr q))) (by rw [mpf (by decide), mpf (by decide), mpf (by decide)]; exact h10) (by rw [mpf (by decide), mpf (by decide)]; exact mp0) mp0 (by rw [mpf (by decide)]; exact mp0), hL.trans (((Lx.put (M := M1) (x := 11) (v := nI b) (by decide) (by decide)).trans (Lx.put (x := 13) (v := nI 0) (by decide) (by decide))).trans (Lx.put (x := 12) (v := nI 0) (by decide) (by decide)))⟩
              | exact ⟨_, rfl, rfl, RT.nx ((hL.trans (((Lx.put (M := M1) (x := 11) (v := nI b) (by decide) (by decide)).trans (Lx.put (x := 13) (v := nI 0) (by decide) (by decide))).trans (Lx.put (x := 12) (v := nI 3) (by decide) (by decide)))).trans (Lx.put (by decide) (by decide))) hc9 hc1 hT h14 hec0 (pNx_3 hsk2 hlt hnl hnd) (by rw [mpf (by decide), mpf (by decide), mpf (by decide), mpf (by decide)]; exact h10) mp0 (by rw [mpf (by decide)]; exact mp0) (by rw [mpf (by decide), mpf (by decide)]; exact mp0), (hL.trans (((Lx.put (M := M1) (x := 11) (v := nI b) (by decide) (by decide)).trans (Lx.put (x := 13) (v := nI 0) (by decide) (by decide))).trans (Lx.put (x := 12) (v := nI 3) (by decide) (by decide)))).trans (Lx.put (by decide) (by decide))⟩
          · have hdb : dg8 T c b = true := decide_eq_true ((by8_in hT1 h8 (by decide) (by decide)).mp (bI_ne0 h4))
            refine x_aload_n hm rfl rfl ?_
            refine x_iconst hm rfl (v := nI 2) (by decide) ?_
            refine x_putf hm rfl (pI rfl rfl (by decide) (by first | exact mFit_int | rfl | decide) rfl) ?_
            exact k221n hc9 hc1 hT h8 h14 hec0 hsk2 hlt hnl hdb _ b _ (Nat.lt_succ_self _) (Nat.le_refl _) hbc rfl (by rw [mpf (by decide), mpf (by decide), mpf (by decide)]; exact h10) (by rw [mpf (by decide), mpf (by decide)]; exact mp0) mp0 (by rw [mpf (by decide), mp0, Nat.sub_self]; rfl) (hL.trans (((Lx.put (M := M1) (x := 11) (v := nI b) (by decide) (by decide)).trans (Lx.put (x := 13) (v := nI 0) (by decide) (by decide))).trans (Lx.put (x := 12) (v := nI 2) (by decide) (by decide))))
        · have hlb : lt8 T c b = true := decide_eq_true ((by8_in hT1 h8 (by decide) (by decide)).mp (bI_ne0 h3))
          refine x_aload_n hm rfl rfl ?_
          refine x_iconst hm rfl (v := nI 1) (by decide) ?_
          refine x_putf hm rfl (pI rfl rfl (by decide) (by first | exact mFit_int | rfl | decide) rfl) ?_
          exact k221w hc9 hc1 hT h8 h14 hec0 hsk2 hlt hlb _ b _ (Nat.lt_succ_self _) (Nat.le_refl _) hbc rfl (by rw [mpf (by decide), mpf (by decide), mpf (by decide)]; exact h10) (by rw [mpf (by decide), mpf (by decide)]; exact mp0) mp0 (by rw [mpf (by decide)]; exact mp0) (hL.trans (((Lx.put (M := M1) (x := 11) (v := nI b) (by decide) (by decide)).trans (Lx.put (x := 13) (v := nI 0) (by decide) (by decide))).trans (Lx.put (x := 12) (v := nI 1) (by decide) (by decide))))
      · have hge : ¬ nI 0 ≤ by8 M1 c b := h2
        refine x_aload_n hm rfl rfl ?_
        refine x_iconst hm rfl (v := nI 0) (by decide) ?_
        refine x_putf hm rfl (pI rfl rfl (by decide) (by first | exact mFit_int | rfl | decide) rfl) ?_
        refine x_goto hm rfl (t := 206) rfl ?_
        refine x_ret hm rfl rfl ?_
        first
          | exact ⟨_, rfl, rfl, RT.nx (hL.trans (((Lx.put (M := M1) (x := 11) (v := nI b) (by decide) (by decide)).trans (Lx.put (x := 13) (v := nI 0) (by decide) (by decide))).trans (Lx.put (x := 12) (v := nI 0) (by decide) (by decide)))) hc9 hc1 hT h14 hec0 (pNx_0 hsk2 (fun q => hge ((by8_nn hT1 h8).mpr q))) (by rw [mpf (by decide), mpf (by decide), mpf (by decide)]; exact h10) (by rw [mpf (by decide), mpf (by decide)]; exact mp0) mp0 (by rw [mpf (by decide)]; exact mp0), hL.trans (((Lx.put (M := M1) (x := 11) (v := nI b) (by decide) (by decide)).trans (Lx.put (x := 13) (v := nI 0) (by decide) (by decide))).trans (Lx.put (x := 12) (v := nI 0) (by decide) (by decide)))⟩
          | exact ⟨_, rfl, rfl, RT.nx ((hL.trans (((Lx.put (M := M1) (x := 11) (v := nI b) (by decide) (by decide)).trans (Lx.put (x := 13) (v := nI 0) (by decide) (by decide))).trans (Lx.put (x := 12) (v := nI 3) (by decide) (by decide)))).trans (Lx.put (by decide) (by decide))) hc9 hc1 hT h14 hec0 (pNx_3 hsk2 hlt hnl hnd) (by rw [mpf (by decide), mpf (by decide), mpf (by decide), mpf (by decide)]; exact h10) mp0 (by rw [mpf (by decide)]; exact mp0) (by rw [mpf (by decide), mpf (by decide)]; exact mp0), (hL.trans (((Lx.put (M := M1) (x := 11) (v := nI b) (by decide) (by decide)).trans (Lx.put (x := 13) (v := nI 0) (by decide) (by decide))).trans (Lx.put (x := 12) (v := nI 3) (by decide) (by decide)))).trans (Lx.put (by decide) (by decide))⟩
    · have hs := (by8_sp hT1 h8).mp h1
      have hlt : b < c := (of_decide_eq_true hs).1
      refine x_aload_n hm rfl rfl ?_
      refine x_dup hm rfl rfl ?_
      refine x_getf hm rfl (gI rfl rfl) ?_
      rw [h10]
      refine x_iconst hm rfl (v := nI 1) (by decide) ?_
      refine x_iadd hm rfl ?_
      rw [jI_add]
      refine x_putf hm rfl (pI rfl rfl (by decide) (by first | exact mFit_int | rfl | decide) rfl) ?_
      refine x_goto hm rfl (t := 8) rfl ?_
      exact ih (b + 1) _ _ (by omega) (by omega) (by omega) (hsk.trans (w1_s hc1 sp8_n hs)) mp0 (hL.trans (Lx.put (by decide) (by decide)))
theorem k221 {e0 : Nat} (he : M 66 11 = nI e0) (hc9 : M 66 9 = nI c) (hc1 : c ≤ 120) (hT : ∀ k, k < c → M 73 k = nI (T k)) (h8 : ∀ k, k < c → T k < 256) (h14 : M 66 14 = nI 0) (hec0 : e0 ≤ c) : ∃ M', mT X 221 [.ref 66] (con M) none (con M') ∧ RT T c (pNx T c e0) M' ∧ Lx M M' := by
  refine tv_of (row := _) rfl (Nat.le_of_ble_eq_true rfl) ?_
  have hm : mMet 221 = some _ := rfl
  refine x_aload_n hm rfl rfl ?_
  refine x_aload_n hm rfl rfl ?_
  refine x_getf hm rfl (gI rfl rfl) ?_
  rw [he]
  refine x_putf hm rfl (pI rfl rfl (by decide) (by first | exact mFit_int | rfl | decide) rfl) ?_
  exact k221s hc9 hc1 hT h8 h14 hec0 _ e0 _ _ (Nat.lt_succ_self _) (Nat.le_refl _) hec0 rfl mp0 (Lx.put (by decide) (by decide))
theorem RT.wr {q : PS} (h : RT T c q M) (g : M 66 14 = nI 1 ∨ True) : RT T c (q.1, q.2.1, q.2.2.1, q.2.2.2.1, true) (mput M 66 14 (nI 1)) := by
  obtain ⟨h1, h2, h3, h4, h5, h6, h7, h8⟩ := h
  exact ⟨(mpf (by decide)).trans h1, (mpf (by decide)).trans h2, (mpf (by decide)).trans h3, (mpf (by decide)).trans h4, mp0, (mpf (by decide)).trans h6, fun k hk => (congrFun (mpo (by decide)) k).trans (h7 k hk), h8⟩
theorem RT.fw {q : PS} (h : RT T c q M) (g : ¬ M 66 14 = 0) : q.2.2.2.2 = true := by
  have e := h.2.2.2.2.1
  cases hq : q.2.2.2.2 with
  | true => rfl
  | false => rw [hq] at e; exact absurd e g
theorem RT.ff {q : PS} (h : RT T c q M) (g : M 66 14 = 0) : q.2.2.2.2 = false := by
  have e := h.2.2.2.2.1
  cases hq : q.2.2.2.2 with
  | false => rfl
  | true => rw [hq, g] at e; exact absurd e (by decide)
theorem k226 {q : PS} {x : Int32} (h : RT T c q M) (h8 : ∀ k, k < c → T k < 256) : ∃ M', mT X 226 [.ref 66, .int x] (con M) none (con M') ∧ RT T c (pMu T c q x) M' ∧ Ly M M' := by
  refine tv_of (row := _) rfl (Nat.le_of_ble_eq_true rfl) ?_
  have hm : mMet 226 = some _ := rfl
  refine x_aload_n hm rfl rfl ?_
  refine x_aload_n hm rfl rfl ?_
  refine x_getf hm rfl (gI rfl rfl) ?_
  refine x_if_ne hm rfl (t := 12) rfl (fun h1 => ?_) (fun h1 => ?_)
  · have hq : pMu T c q x = (q.1, q.2.1, q.2.2.1, q.2.2.2.1, true) := if_pos (Or.inl (h.fw h1))
    refine x_iconst hm rfl (v := nI 1) (by decide) ?_
    refine x_goto hm rfl (t := 17) rfl ?_
    refine x_putf hm rfl (pI rfl rfl (by decide) (by first | exact mFit_int | rfl | decide) rfl) ?_
    refine x_aload_n hm rfl rfl ?_
    refine x_getf hm rfl (gI rfl rfl) ?_
    rw [mp0]
    refine x_if_ne hm rfl (t := 31) rfl (fun h2 => ?_) (fun h2 => ?_)
    · refine x_ret hm rfl rfl ?_
      first
        | exact absurd (by decide : nI 0 = (0 : Int32)) (by assumption)
        | exact absurd (show nI 1 = (0 : Int32) by assumption) (by decide)
        | exact ⟨_, rfl, rfl, by rw [hq]; exact h.wr (Or.inr trivial), Ly.flag⟩
        | exact r1.elim
        | exact r2.elim
        | exact r3.elim
        | exact r4.elim
        | exact r5.elim
        | exact r6.elim
        | exact ⟨_, rfl, rfl, by rw [hq]; exact r1.1, Ly.flag.trans r1.2.ly⟩
        | exact ⟨_, rfl, rfl, by rw [hq]; exact r2.1, Ly.flag.trans r2.2.ly⟩
        | exact ⟨_, rfl, rfl, by rw [hq]; exact r3.1, Ly.flag.trans r3.2.ly⟩
        | exact ⟨_, rfl, rfl, by rw [hq]; exact r4.1, Ly.flag.trans r4.2.ly⟩
        | exact ⟨_, rfl, rfl, by rw [hq]; exact r5.1, Ly.flag.trans r5.2.ly⟩
        | exact ⟨_, rfl, rfl, by rw [hq]; exact r6.1, Ly.flag.trans r6.2.ly⟩
        | exact ⟨_, rfl, rfl, by rw [hq]; exact r7.1, Ly.flag.trans r7.2.ly⟩
        | exact ⟨_, rfl, rfl, by rw [hq]; exact r8.1, Ly.flag.trans r8.2.ly⟩
    · refine x_aload_n hm rfl rfl ?_
      refine x_cVv hm rfl rfl (by first | exact k221 ((mpf (by decide)).trans h.2.1) ((mpf (by decide)).trans h.2.2.2.2.2.1) h.2.2.2.2.2.2.2.1 (fun k hk => (congrFun (mpo (by decide)) k).trans (h.2.2.2.2.2.2.1 k hk)) h8 mp0 h.2.2.2.2.2.2.2.2.2.1 | exact (absurd (show (nI 1 : Int32) = 0 by assumption) (by decide) : ∃ M', mT X 221 [.ref 66] (con (mput M 66 14 (nI 1))) none (con M') ∧ (fun _ => False) M')) (fun M3 r3 => ?_)
      refine x_ret hm rfl rfl ?_
      first
        | exact r3.elim
        | exact ⟨_, rfl, rfl, by rw [hq]; exact r3.1, Ly.flag.trans r3.2.ly⟩
        | exact absurd (by decide : nI 0 = (0 : Int32)) (by assumption)
        | exact absurd (show nI 1 = (0 : Int32) by assumption) (by decide)
        | exact ⟨_, rfl, rfl, by rw [hq]; exact h.wr (Or.inr trivial), Ly.flag⟩
        | exact r1.elim
        | exact r2.elim
        | exact r4.elim
        | exact r5.elim
        | exact r6.elim
        | exact ⟨_, rfl, rfl, by rw [hq]; exact r1.1, Ly.flag.trans r1.2.ly⟩
        | exact ⟨_, rfl, rfl, by rw [hq]; exact r2.1, Ly.flag.trans r2.2.ly⟩
        | exact ⟨_, rfl, rfl, by rw [hq]; exact r4.1, Ly.flag.trans r4.2.ly⟩
        | exact ⟨_, rfl, rfl, by rw [hq]; exact r5.1, Ly.flag.trans r5.2.ly⟩
        | exact ⟨_, rfl, rfl, by rw [hq]; exact r6.1, Ly.flag.trans r6.2.ly⟩
        | exact ⟨_, rfl, rfl, by rw [hq]; exact r7.1, Ly.flag.trans r7.2.ly⟩
        | exact ⟨_, rfl, rfl, by rw [hq]; exact r8.1, Ly.flag.trans r8.2.ly⟩
  · have hf := h.ff h1
    refine x_iload_n hm rfl rfl ?_
    refine x_if_ne hm rfl (t := 16) rfl (fun h4 => ?_) (fun h4 => ?_)
    · have hq : pMu T c q x = pNx T c q.2.1 := if_neg (fun g => g.elim (fun g => absurd (hf.symm.trans g) (by decide)) h4)
      refine x_iconst hm rfl (v := nI 0) (by decide) ?_
      refine x_putf hm rfl (pI rfl rfl (by decide) (by first | exact mFit_int | rfl | decide) rfl) ?_
      refine x_aload_n hm rfl rfl ?_
      refine x_getf hm rfl (gI rfl rfl) ?_
      rw [mp0]
      refine x_if_ne hm rfl (t := 31) rfl (fun h5 => ?_) (fun h5 => ?_)
      · refine x_ret hm rfl rfl ?_
        first
          | exact absurd (by decide : nI 0 = (0 : Int32)) (by assumption)
          | exact absurd (show nI 1 = (0 : Int32) by assumption) (by decide)
          | exact ⟨_, rfl, rfl, by rw [hq]; exact h.wr (Or.inr trivial), Ly.flag⟩
          | exact r1.elim
          | exact r2.elim
          | exact r3.elim
          | exact r4.elim
          | exact r5.elim
          | exact r6.elim
          | exact ⟨_, rfl, rfl, by rw [hq]; exact r1.1, Ly.flag.trans r1.2.ly⟩
          | exact ⟨_, rfl, rfl, by rw [hq]; exact r2.1, Ly.flag.trans r2.2.ly⟩
          | exact ⟨_, rfl, rfl, by rw [hq]; exact r3.1, Ly.flag.trans r3.2.ly⟩
          | exact ⟨_, rfl, rfl, by rw [hq]; exact r4.1, Ly.flag.trans r4.2.ly⟩
          | exact ⟨_, rfl, rfl, by rw [hq]; exact r5.1, Ly.flag.trans r5.2.ly⟩
          | exact ⟨_, rfl, rfl, by rw [hq]; exact r6.1, Ly.flag.trans r6.2.ly⟩
          | exact ⟨_, rfl, rfl, by rw [hq]; exact r7.1, Ly.flag.trans r7.2.ly⟩
          | exact ⟨_, rfl, rfl, by rw [hq]; exact r8.1, Ly.flag.trans r8.2.ly⟩
      · refine x_aload_n hm rfl rfl ?_
        refine x_cVv hm rfl rfl (by first | exact k221 ((mpf (by decide)).trans h.2.1) ((mpf (by decide)).trans h.2.2.2.2.2.1) h.2.2.2.2.2.2.2.1 (fun k hk => (congrFun (mpo (by decide)) k).trans (h.2.2.2.2.2.2.1 k hk)) h8 mp0 h.2.2.2.2.2.2.2.2.2.1 | exact (absurd (show (nI 1 : Int32) = 0 by assumption) (by decide) : ∃ M', mT X 221 [.ref 66] (con (mput M 66 14 (nI 1))) none (con M') ∧ (fun _ => False) M')) (fun M6 r6 => ?_)
        refine x_ret hm rfl rfl ?_
        first
          | exact r6.elim
          | exact ⟨_, rfl, rfl, by rw [hq]; exact r6.1, Ly.flag.trans r6.2.ly⟩
          | exact absurd (by decide : nI 0 = (0 : Int32)) (by assumption)
          | exact absurd (show nI 1 = (0 : Int32) by assumption) (by decide)
          | exact ⟨_, rfl, rfl, by rw [hq]; exact h.wr (Or.inr trivial), Ly.flag⟩
          | exact r1.elim
          | exact r2.elim
          | exact r3.elim
          | exact r4.elim
          | exact r5.elim
          | exact ⟨_, rfl, rfl, by rw [hq]; exact r1.1, Ly.flag.trans r1.2.ly⟩
          | exact ⟨_, rfl, rfl, by rw [hq]; exact r2.1, Ly.flag.trans r2.2.ly⟩
          | exact ⟨_, rfl, rfl, by rw [hq]; exact r3.1, Ly.flag.trans r3.2.ly⟩
          | exact ⟨_, rfl, rfl, by rw [hq]; exact r4.1, Ly.flag.trans r4.2.ly⟩
          | exact ⟨_, rfl, rfl, by rw [hq]; exact r5.1, Ly.flag.trans r5.2.ly⟩
          | exact ⟨_, rfl, rfl, by rw [hq]; exact r7.1, Ly.flag.trans r7.2.ly⟩
          | exact ⟨_, rfl, rfl, by rw [hq]; exact r8.1, Ly.flag.trans r8.2.ly⟩
    · have hq : pMu T c q x = (q.1, q.2.1, q.2.2.1, q.2.2.2.1, true) := if_pos (Or.inr h4)
      refine x_iconst hm rfl (v := nI 1) (by decide) ?_
      refine x_goto hm rfl (t := 17) rfl ?_
      refine x_putf hm rfl (pI rfl rfl (by decide) (by first | exact mFit_int | rfl | decide) rfl) ?_
      refine x_aload_n hm rfl rfl ?_
      refine x_getf hm rfl (gI rfl rfl) ?_
      rw [mp0]
      refine x_if_ne hm rfl (t := 31) rfl (fun h7 => ?_) (fun h7 => ?_)
      · refine x_ret hm rfl rfl ?_
        first
          | exact absurd (by decide : nI 0 = (0 : Int32)) (by assumption)
          | exact absurd (show nI 1 = (0 : Int32) by assumption) (by decide)
          | exact ⟨_, rfl, rfl, by rw [hq]; exact h.wr (Or.inr trivial), Ly.flag⟩
          | exact r1.elim
          | exact r2.elim
          | exact r3.elim
          | exact r4.elim
          | exact r5.elim
          | exact r6.elim
          | exact ⟨_, rfl, rfl, by rw [hq]; exact r1.1, Ly.flag.trans r1.2.ly⟩
          | exact ⟨_, rfl, rfl, by rw [hq]; exact r2.1, Ly.flag.trans r2.2.ly⟩
          | exact ⟨_, rfl, rfl, by rw [hq]; exact r3.1, Ly.flag.trans r3.2.ly⟩
          | exact ⟨_, rfl, rfl, by rw [hq]; exact r4.1, Ly.flag.trans r4.2.ly⟩
          | exact ⟨_, rfl, rfl, by rw [hq]; exact r5.1, Ly.flag.trans r5.2.ly⟩
          | exact ⟨_, rfl, rfl, by rw [hq]; exact r6.1, Ly.flag.trans r6.2.ly⟩
          | exact ⟨_, rfl, rfl, by rw [hq]; exact r7.1, Ly.flag.trans r7.2.ly⟩
          | exact ⟨_, rfl, rfl, by rw [hq]; exact r8.1, Ly.flag.trans r8.2.ly⟩
      · refine x_aload_n hm rfl rfl ?_
        refine x_cVv hm rfl rfl (by first | exact k221 ((mpf (by decide)).trans h.2.1) ((mpf (by decide)).trans h.2.2.2.2.2.1) h.2.2.2.2.2.2.2.1 (fun k hk => (congrFun (mpo (by decide)) k).trans (h.2.2.2.2.2.2.1 k hk)) h8 mp0 h.2.2.2.2.2.2.2.2.2.1 | exact (absurd (show (nI 1 : Int32) = 0 by assumption) (by decide) : ∃ M', mT X 221 [.ref 66] (con (mput M 66 14 (nI 1))) none (con M') ∧ (fun _ => False) M')) (fun M8 r8 => ?_)
        refine x_ret hm rfl rfl ?_
        first
          | exact ⟨_, rfl, rfl, by rw [hq]; exact r8.1, Ly.flag.trans r8.2.ly⟩
          | exact absurd (by decide : nI 0 = (0 : Int32)) (by assumption)
          | exact absurd (show nI 1 = (0 : Int32) by assumption) (by decide)
          | exact ⟨_, rfl, rfl, by rw [hq]; exact h.wr (Or.inr trivial), Ly.flag⟩
          | exact r1.elim
          | exact r2.elim
          | exact r3.elim
          | exact r4.elim
          | exact r5.elim
          | exact r6.elim
          | exact ⟨_, rfl, rfl, by rw [hq]; exact r1.1, Ly.flag.trans r1.2.ly⟩
          | exact ⟨_, rfl, rfl, by rw [hq]; exact r2.1, Ly.flag.trans r2.2.ly⟩
          | exact ⟨_, rfl, rfl, by rw [hq]; exact r3.1, Ly.flag.trans r3.2.ly⟩
          | exact ⟨_, rfl, rfl, by rw [hq]; exact r4.1, Ly.flag.trans r4.2.ly⟩
          | exact ⟨_, rfl, rfl, by rw [hq]; exact r5.1, Ly.flag.trans r5.2.ly⟩
          | exact ⟨_, rfl, rfl, by rw [hq]; exact r6.1, Ly.flag.trans r6.2.ly⟩
          | exact ⟨_, rfl, rfl, by rw [hq]; exact r7.1, Ly.flag.trans r7.2.ly⟩
end RT
