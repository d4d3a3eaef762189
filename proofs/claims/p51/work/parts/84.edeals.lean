/-! ===== deals, who envies, how deep one hangs: both sides ===== -/
section EX
variable {X : mSc} {Q : Option Value → mHp → Prop} {M : mM} {nt np : Nat} {r : Nat → Int32}
abbrev Pt (x y : Nat) : Prop := nI x &&& (nI y ^^^ (-1)) = 0
theorem sub_bits {x y : Nat} (hx : x < 256) : nI x &&& (nI y ^^^ (-1)) = nI (x &&& (255 ^^^ y)) := by
  rw [← Int32.toBitVec_inj, Int32.toBitVec_and, Int32.toBitVec_xor]
  refine BitVec.eq_of_getLsbD_eq fun i hi => ?_
  have e1 : (-1 : Int32).toBitVec = BitVec.allOnes 32 := by decide
  rw [BitVec.getLsbD_and, BitVec.getLsbD_xor, e1, BitVec.getLsbD_allOnes, show (nI x).toBitVec = BitVec.ofNat 32 x from rfl, show (nI y).toBitVec = BitVec.ofNat 32 y from rfl, show (nI (x &&& (255 ^^^ y))).toBitVec = BitVec.ofNat 32 (x &&& (255 ^^^ y)) from rfl, BitVec.getLsbD_ofNat, BitVec.getLsbD_ofNat, BitVec.getLsbD_ofNat, decide_eq_true hi, Bool.true_and, Bool.true_and, Bool.true_and, Nat.testBit_and, Nat.testBit_xor]
  by_cases h8 : i < 8
  · rw [(by decide : ∀ i, i < 8 → (255 : Nat).testBit i = true) i h8, Bool.xor_comm]
  · rw [Nat.testBit_lt_two_pow (Nat.lt_of_lt_of_le hx (show 2 ^ 8 ≤ 2 ^ i from Nat.pow_le_pow_right (by decide) (by omega))), Bool.false_and, Bool.false_and]
theorem part_n : ∀ y, y < 256 → ∀ x, x < 256 → x &&& (255 ^^^ y) = 0 → y &&& (255 ^^^ x) = y - x ∧ x ≤ y := by decide +kernel
theorem part_k (y : Nat) (hy : y < 256) (x : Nat) (hx : x < 256) (h : Pt x y) : nI y &&& (nI x ^^^ (-1)) = nI (y - x) ∧ x ≤ y := by
  have h' : nI x &&& (nI y ^^^ (-1)) = 0 := h
  rw [sub_bits hx] at h'
  obtain ⟨g1, g2⟩ := part_n y hy x hx (jI_inj (b := 0) (Nat.lt_of_le_of_lt Nat.and_le_left (by omega)) (by decide) h')
  exact ⟨by rw [sub_bits hy, g1], g2⟩
abbrev Dl (r : Nat → Int32) (nt a b x z : Nat) : Prop := sWth r a z nt ≤ sWth r a x nt ∧ sWth r b x nt ≤ sWth r b z nt
abbrev CD (nt np : Nat) (a1 a2 a3 : Int32) : Prop := (nI 0 ≤ a1 ∧ a1 ≤ nI np - nI 1) ∧ (nI 0 ≤ a2 ∧ a2 ≤ nI np - nI 1) ∧ ¬ a1 = a2 ∧ (nI 0 ≤ a3 ∧ a3 ≤ nI (2 ^ nt) - nI 1)
def sDn (r : Nat → Int32) (nt a b y : Nat) : Nat → Nat → Int32
  | 0, _ => -1
  | f + 1, k => if Pt k y ∧ Dl r nt a b k (y - k) then nI k else sDn r nt a b y f (k + 1)
def sDc (r : Nat → Int32) (nt a b y n : Nat) : Int32 := fo (fun k s => s + (if Pt k y ∧ Dl r nt a b k (y - k) then nI 1 else nI 0)) n (nI 0)
def sLs (r : Nat → Int32) (nt a b y k : Nat) (z : Int32 × Int32) : Int32 × Int32 := if Pt k y ∧ z.2 < mn2 (sWth r a k nt) (sWth r b (y - k) nt) then (nI k, mn2 (sWth r a k nt) (sWth r b (y - k) nt)) else z
def sEi (r : Nat → Int32) (nt a : Nat) (m : Nat) (s : Int32) : Int32 := fo (fun b s => s + (if ¬ a = b ∧ sWth r a (sOwned r (nI a) nt).toNatClampNeg nt < sWth r a (sOwned r (nI b) nt).toNatClampNeg nt then nI 1 else nI 0)) m s
def sEn (r : Nat → Int32) (nt np n : Nat) : Int32 := fo (fun a s => sEi r nt a np s) n (nI 0)
def fDeal (r : Nat → Int32) (nt np : Nat) (a1 a2 a3 : Int32) : Int32 := if bI (CD nt np a1 a2 a3) = 0 then -1000001 else (orN (sDn r nt a1.toNatClampNeg a2.toNatClampNeg a3.toNatClampNeg (a3.toNatClampNeg + 1) 0)).1
def fDeals (r : Nat → Int32) (nt np : Nat) (a1 a2 a3 : Int32) : Int32 := if bI (CD nt np a1 a2 a3) = 0 then -1000001 else sDc r nt a1.toNatClampNeg a2.toNatClampNeg a3.toNatClampNeg (a3.toNatClampNeg + 1)
def fLess (r : Nat → Int32) (nt np : Nat) (a1 a2 a3 : Int32) : Int32 := if bI (CD nt np a1 a2 a3) = 0 then -1000001 else (fo (sLs r nt a1.toNatClampNeg a2.toNatClampNeg a3.toNatClampNeg) (a3.toNatClampNeg + 1) (nI 0, -1)).1
def fDep (r : Nat → Int32) (nt np : Nat) (a1 : Int32) : Int32 := if bI (nI 0 ≤ a1 ∧ a1 ≤ nI nt - nI 1) = 0 then -1000001 else sDep r 8 (nI 0) (r (14 + 6 * a1.toNatClampNeg + 5))
theorem sOwned_k (r : Nat → Int32) (p : Int32) : ∀ n, n ≤ 8 → ∃ k, k < 2 ^ n ∧ sOwned r p n = nI k := by
  intro n
  induction n with
  | zero => exact fun _ => ⟨0, by decide, rfl⟩
  | succ n ih =>
    intro hn
    obtain ⟨k, hk, e⟩ := ih (by omega)
    have hk8 : k < 256 := Nat.lt_of_lt_of_le hk (Nat.pow_le_pow_right (by decide) (show n ≤ 8 by omega))
    show ∃ j, j < 2 ^ (n + 1) ∧ (sOwned r p n ||| (if r (14 + 6 * n + 4) = p then bit n else nI 0)) = nI j
    by_cases h : r (14 + 6 * n + 4) = p
    · rw [if_pos h, e]
      exact ⟨k ||| 2 ^ n, Nat.or_lt_two_pow (Nat.lt_of_lt_of_le hk (Nat.pow_le_pow_right (by decide) (by omega))) (Nat.pow_lt_pow_right (by decide) (by omega)), bitO k hk8 n (by omega)⟩
    · rw [if_neg h, e]
      exact ⟨k, Nat.lt_of_lt_of_le hk (Nat.pow_le_pow_right (by decide) (by omega)), bit0 k hk8⟩
theorem sub_kk {i z : Nat} (h : i ≤ z) : nI z - nI i = nI (z - i) := sub_le h
theorem gv71 (hR : Rel 1 nt np M r) (hV : Vs nt np r) {a b x z : Nat} (ha : a < np) (hb : b < np) (hx : x < 256) (hz : z < 256) : mT X 71 [.ref 0, .int (nI a), .int (nI b), .int (nI x), .int (nI z)] (con M) (some (.int (bI (Dl r nt a b x z)))) (con M) := by
  refine mT.of (row := _) rfl (Nat.le_of_ble_eq_true rfl) ?_
  have hm : mMet 71 = some _ := rfl
  have hn8 := hV.1
  have hp8 := hV.2.1
  refine x_aload_n hm rfl rfl ?_
  refine x_getf hm rfl (gR rfl rfl) ?_
  refine x_iload_n hm rfl rfl ?_
  refine x_iload_n hm rfl rfl ?_
  refine x_callV hm rfl rfl (gv67 hR hV ha hx) ?_
  refine x_aload_n hm rfl rfl ?_
  refine x_getf hm rfl (gR rfl rfl) ?_
  refine x_iload_n hm rfl rfl ?_
  refine x_iload hm rfl rfl ?_
  refine x_callV hm rfl rfl (gv67 hR hV ha hz) ?_
  refine x_icmp_lt hm rfl (t := 48) rfl (fun h1 => ?_) (fun h1 => ?_)
  · have hv : nI 0 = bI (Dl r nt a b x z) := bI_f fun q => absurd q.1 (Int32.not_le.mpr h1)
    refine x_iconst hm rfl (v := nI 0) (by decide) ?_
    refine x_iret hm rfl rfl (by first | rfl | exact bI_nar | decide) ?_
    exact qt (congrArg Value.int hv)
  · have k1 := Int32.not_lt.mp h1
    refine x_aload_n hm rfl rfl ?_
    refine x_getf hm rfl (gR rfl rfl) ?_
    refine x_iload_n hm rfl rfl ?_
    refine x_iload hm rfl rfl ?_
    refine x_callV hm rfl rfl (gv67 hR hV hb hz) ?_
    refine x_aload_n hm rfl rfl ?_
    refine x_getf hm rfl (gR rfl rfl) ?_
    refine x_iload_n hm rfl rfl ?_
    refine x_iload_n hm rfl rfl ?_
    refine x_callV hm rfl rfl (gv67 hR hV hb hx) ?_
    refine x_icmp_lt hm rfl (t := 48) rfl (fun h2 => ?_) (fun h2 => ?_)
    · have hv : nI 0 = bI (Dl r nt a b x z) := bI_f fun q => absurd q.2 (Int32.not_le.mpr h2)
      refine x_iconst hm rfl (v := nI 0) (by decide) ?_
      refine x_iret hm rfl rfl (by first | rfl | exact bI_nar | decide) ?_
      exact qt (congrArg Value.int hv)
    · have hv : nI 1 = bI (Dl r nt a b x z) := bI_t ⟨k1, Int32.not_lt.mp h2⟩
      refine x_iconst hm rfl (v := nI 1) (by decide) ?_
      refine x_goto hm rfl (t := 49) rfl ?_
      refine x_iret hm rfl rfl (by first | rfl | exact bI_nar | decide) ?_
      exact qt (congrArg Value.int hv)
theorem gr203 (hW : Wf M) (h6 : M 66 6 = -1) (h67 : M 67 = r) (hV : Vs nt np r) (hnt : M 67 1 = nI nt) {a b x z : Nat} (ha : a < np) (hb : b < np) (hx : x < 256) (hz : z < 256) : mT X 203 [.ref 66, .int (nI a), .int (nI b), .int (nI x), .int (nI z)] (con M) (some (.int (bI (Dl r nt a b x z)))) (con M) := by
  refine mT.of (row := _) rfl (Nat.le_of_ble_eq_true rfl) ?_
  have hm : mMet 203 = some _ := rfl
  have hn8 := hV.1
  have hp8 := hV.2.1
  refine x_aload_n hm rfl rfl ?_
  refine x_iload_n hm rfl rfl ?_
  refine x_iload hm rfl rfl ?_
  refine x_callV hm rfl rfl (gr200 hW h6 h67 hV hnt ha hz) ?_
  refine x_aload_n hm rfl rfl ?_
  refine x_iload_n hm rfl rfl ?_
  refine x_iload_n hm rfl rfl ?_
  refine x_callV hm rfl rfl (gr200 hW h6 h67 hV hnt ha hx) ?_
  refine x_icmp_gt hm rfl (t := 36) rfl (fun h1 => ?_) (fun h1 => ?_)
  · have hv : nI 0 = bI (Dl r nt a b x z) := bI_f fun q => absurd q.1 (Int32.not_le.mpr h1)
    refine x_iconst hm rfl (v := nI 0) (by decide) ?_
    refine x_iret hm rfl rfl (by first | rfl | exact bI_nar | decide) ?_
    exact qt (congrArg Value.int hv)
  · have k1 := Int32.not_lt.mp h1
    refine x_aload_n hm rfl rfl ?_
    refine x_iload_n hm rfl rfl ?_
    refine x_iload_n hm rfl rfl ?_
    refine x_callV hm rfl rfl (gr200 hW h6 h67 hV hnt hb hx) ?_
    refine x_aload_n hm rfl rfl ?_
    refine x_iload_n hm rfl rfl ?_
    refine x_iload hm rfl rfl ?_
    refine x_callV hm rfl rfl (gr200 hW h6 h67 hV hnt hb hz) ?_
    refine x_icmp_gt hm rfl (t := 36) rfl (fun h2 => ?_) (fun h2 => ?_)
    · have hv : nI 0 = bI (Dl r nt a b x z) := bI_f fun q => absurd q.2 (Int32.not_le.mpr h2)
      refine x_iconst hm rfl (v := nI 0) (by decide) ?_
      refine x_iret hm rfl rfl (by first | rfl | exact bI_nar | decide) ?_
      exact qt (congrArg Value.int hv)
    · have hv : nI 1 = bI (Dl r nt a b x z) := bI_t ⟨k1, Int32.not_lt.mp h2⟩
      refine x_iconst hm rfl (v := nI 1) (by decide) ?_
      refine x_goto hm rfl (t := 37) rfl ?_
      refine x_iret hm rfl rfl (by first | rfl | exact bI_nar | decide) ?_
      exact qt (congrArg Value.int hv)
theorem gv69 {a1 a2 a3 : Int32} (hR : Rel 1 nt np M r) (hn8 : nt ≤ 8) : mT X 69 [.ref 0, .int a1, .int a2, .int a3] (con M) (some (.int (bI (CD nt np a1 a2 a3)))) (con M) := by
  refine mT.of (row := _) rfl (Nat.le_of_ble_eq_true rfl) ?_
  have hm : mMet 69 = some _ := rfl
  refine x_aload_n hm rfl rfl ?_
  refine x_getf hm rfl (gR rfl rfl) ?_
  refine x_iload_n hm rfl rfl ?_
  refine x_callV hm rfl rfl (t19 (by decide)) ?_
  rw [hR.2.1]
  refine x_if_eq hm rfl (t := 42) rfl (fun h1 => ?_) (fun h1 => ?_)
  · have hv : nI 0 = bI (CD nt np a1 a2 a3) := bI_f fun q => bI_eq0.mp h1 q.1
    refine x_iconst hm rfl (v := nI 0) (by decide) ?_
    refine x_iret hm rfl rfl (by first | rfl | exact bI_nar | decide) ?_
    exact qt (congrArg Value.int hv)
  · have k1 := bI_ne0 h1
    refine x_aload_n hm rfl rfl ?_
    refine x_getf hm rfl (gR rfl rfl) ?_
    refine x_iload_n hm rfl rfl ?_
    refine x_callV hm rfl rfl (t19 (by decide)) ?_
    rw [hR.2.1]
    refine x_if_eq hm rfl (t := 42) rfl (fun h2 => ?_) (fun h2 => ?_)
    · have hv : nI 0 = bI (CD nt np a1 a2 a3) := bI_f fun q => bI_eq0.mp h2 q.2.1
      refine x_iconst hm rfl (v := nI 0) (by decide) ?_
      refine x_iret hm rfl rfl (by first | rfl | exact bI_nar | decide) ?_
      exact qt (congrArg Value.int hv)
    · have k2 := bI_ne0 h2
      refine x_iload_n hm rfl rfl ?_
      refine x_iload_n hm rfl rfl ?_
      refine x_icmp_eq hm rfl (t := 42) rfl (fun h3 => ?_) (fun h3 => ?_)
      · have hv : nI 0 = bI (CD nt np a1 a2 a3) := bI_f fun q => q.2.2.1 h3
        refine x_iconst hm rfl (v := nI 0) (by decide) ?_
        refine x_iret hm rfl rfl (by first | rfl | exact bI_nar | decide) ?_
        exact qt (congrArg Value.int hv)
      · have k3 := h3
        refine x_aload_n hm rfl rfl ?_
        refine x_getf hm rfl (gR rfl rfl) ?_
        refine x_iload_n hm rfl rfl ?_
        refine x_callV hm rfl rfl (t66 (by decide) hR.1 hn8) ?_
        refine x_if_eq hm rfl (t := 42) rfl (fun h4 => ?_) (fun h4 => ?_)
        · have hv : nI 0 = bI (CD nt np a1 a2 a3) := bI_f fun q => bI_eq0.mp h4 q.2.2.2
          refine x_iconst hm rfl (v := nI 0) (by decide) ?_
          refine x_iret hm rfl rfl (by first | rfl | exact bI_nar | decide) ?_
          exact qt (congrArg Value.int hv)
        · have hv : nI 1 = bI (CD nt np a1 a2 a3) := bI_t ⟨k1, k2, k3, bI_ne0 h4⟩
          refine x_iconst hm rfl (v := nI 1) (by decide) ?_
          refine x_goto hm rfl (t := 43) rfl ?_
          refine x_iret hm rfl rfl (by first | rfl | exact bI_nar | decide) ?_
          exact qt (congrArg Value.int hv)
theorem gr202 {a1 a2 a3 : Int32} (hnt : M 67 1 = nI nt) (hn8 : nt ≤ 8) (hnp : M 67 2 = nI np) : mT X 202 [.ref 66, .int a1, .int a2, .int a3] (con M) (some (.int (bI (CD nt np a1 a2 a3)))) (con M) := by
  refine mT.of (row := _) rfl (Nat.le_of_ble_eq_true rfl) ?_
  have hm : mMet 202 = some _ := rfl
  refine x_aload_n hm rfl rfl ?_
  refine x_iload_n hm rfl rfl ?_
  refine x_callV hm rfl rfl (t153) ?_
  rw [hnp]
  refine x_if_eq hm rfl (t := 33) rfl (fun h1 => ?_) (fun h1 => ?_)
  · have hv : nI 0 = bI (CD nt np a1 a2 a3) := bI_f fun q => bI_eq0.mp h1 q.1
    refine x_iconst hm rfl (v := nI 0) (by decide) ?_
    refine x_iret hm rfl rfl (by first | rfl | exact bI_nar | decide) ?_
    exact qt (congrArg Value.int hv)
  · have k1 := bI_ne0 h1
    refine x_aload_n hm rfl rfl ?_
    refine x_iload_n hm rfl rfl ?_
    refine x_callV hm rfl rfl (t153) ?_
    rw [hnp]
    refine x_if_eq hm rfl (t := 33) rfl (fun h2 => ?_) (fun h2 => ?_)
    · have hv : nI 0 = bI (CD nt np a1 a2 a3) := bI_f fun q => bI_eq0.mp h2 q.2.1
      refine x_iconst hm rfl (v := nI 0) (by decide) ?_
      refine x_iret hm rfl rfl (by first | rfl | exact bI_nar | decide) ?_
      exact qt (congrArg Value.int hv)
    · have k2 := bI_ne0 h2
      refine x_iload_n hm rfl rfl ?_
      refine x_iload_n hm rfl rfl ?_
      refine x_icmp_eq hm rfl (t := 33) rfl (fun h3 => ?_) (fun h3 => ?_)
      · have hv : nI 0 = bI (CD nt np a1 a2 a3) := bI_f fun q => q.2.2.1 h3
        refine x_iconst hm rfl (v := nI 0) (by decide) ?_
        refine x_iret hm rfl rfl (by first | rfl | exact bI_nar | decide) ?_
        exact qt (congrArg Value.int hv)
      · have k3 := h3
        refine x_aload_n hm rfl rfl ?_
        refine x_iload_n hm rfl rfl ?_
        refine x_callV hm rfl rfl (t199 hnt hn8) ?_
        refine x_if_eq hm rfl (t := 33) rfl (fun h4 => ?_) (fun h4 => ?_)
        · have hv : nI 0 = bI (CD nt np a1 a2 a3) := bI_f fun q => bI_eq0.mp h4 q.2.2.2
          refine x_iconst hm rfl (v := nI 0) (by decide) ?_
          refine x_iret hm rfl rfl (by first | rfl | exact bI_nar | decide) ?_
          exact qt (congrArg Value.int hv)
        · have hv : nI 1 = bI (CD nt np a1 a2 a3) := bI_t ⟨k1, k2, k3, bI_ne0 h4⟩
          refine x_iconst hm rfl (v := nI 1) (by decide) ?_
          refine x_goto hm rfl (t := 34) rfl ?_
          refine x_iret hm rfl rfl (by first | rfl | exact bI_nar | decide) ?_
          exact qt (congrArg Value.int hv)
theorem gv70 {x y : Nat} : mT X 70 [.int (nI x), .int (nI y)] (con M) (some (.int (bI (Pt x y)))) (con M) := by
  refine mT.of (row := _) rfl (Nat.le_of_ble_eq_true rfl) ?_
  have hm : mMet 70 = some _ := rfl
  refine x_iload_n hm rfl rfl ?_
  refine x_iload_n hm rfl rfl ?_
  refine x_iconst hm rfl (v := (-1 : Int32)) (by decide) ?_
  refine x_ixor hm rfl ?_
  refine x_iand hm rfl ?_
  refine x_if_ne hm rfl (t := 12) rfl (fun h1 => ?_) (fun h1 => ?_)
  · refine x_iconst hm rfl (v := nI 0) (by decide) ?_
    refine x_iret hm rfl rfl (by first | rfl | exact bI_nar | decide) ?_
    first
      | exact qt (congrArg Value.int (bI_f h1))
      | exact qt (congrArg Value.int (bI_t h1))
  · refine x_iconst hm rfl (v := nI 1) (by decide) ?_
    refine x_goto hm rfl (t := 13) rfl ?_
    refine x_iret hm rfl rfl (by first | rfl | exact bI_nar | decide) ?_
    first
      | exact qt (congrArg Value.int (bI_f h1))
      | exact qt (congrArg Value.int (bI_t h1))
theorem gv68l (hR : Rel 1 nt np M r) (hV : Vs nt np r) {a b y : Nat} (ha : a < np) (hb : b < np) (hy : y < 256) : ∀ (n k : Nat), y + 1 - k < n → k ≤ y + 1 → sDn r nt a b y (y + 1) 0 = sDn r nt a b y (y + 1 - k) k → mEv X (QI (fun v _ => v = (orN (sDn r nt a b y (y + 1) 0)).1)) 68 20 [some (.ref 0), some (.int (nI a)), some (.int (nI b)), some (.int (nI y)), some (.int (nI k))] [] (con M) := by
  have hm : mMet 68 = some _ := rfl
  intro n
  induction n with
  | zero =>
    intro k hkn hkb hq
    omega
  | succ n ih =>
    intro k hkn hkb hq
    have hn8 := hV.1
    have hp8 := hV.2.1
    refine x_iload hm rfl rfl ?_
    refine x_iload_n hm rfl rfl ?_
    refine x_icmp_gt hm rfl (t := 59) rfl (fun h1 => ?_) (fun h1 => ?_)
    · have hk : k = y + 1 := by
        have := (jI_lt (by omega) (by omega)).mp h1
        omega
      have hq9 : sDn r nt a b y (y + 1) 0 = -1 := by rw [hq, hk, Nat.sub_self]; rfl
      refine x_aload_n hm rfl rfl ?_
      refine x_ldcI hm rfl (v := (-1000004 : Int32)) (by decide) ?_
      refine x_cVi hm rfl rfl (t7 (by decide)) (fun v2 M2 r2 => ?_)
      refine x_iret hm rfl rfl (by first | rfl | exact bI_nar | decide) ?_
      exact ⟨_, _, rfl, rfl, by rw [hq9, orN_m]; exact r2.1⟩
    · have hk : k ≤ y := Nat.le_of_not_lt fun h => h1 ((jI_lt (by omega) (by omega)).mpr h)
      have hst : sDn r nt a b y (y + 1 - k) k = if (Pt k y ∧ Dl r nt a b k (y - k)) then nI k else sDn r nt a b y (y + 1 - (k + 1)) (k + 1) := by rw [show y + 1 - k = (y + 1 - (k + 1)) + 1 by omega]; rfl
      refine x_iload hm rfl rfl ?_
      refine x_iload_n hm rfl rfl ?_
      refine x_callS hm rfl rfl (gv70) ?_
      refine x_if_eq hm rfl (t := 53) rfl (fun h3 => ?_) (fun h3 => ?_)
      · have hq2 := hq.trans (hst.trans (if_neg fun z => bI_eq0.mp h3 z.1))
        refine x_iinc hm rfl rfl (v := nI 1) (by decide) rfl ?_
        rw [jI_add]
        refine x_goto hm rfl (t := 20) rfl ?_
        exact ih _ (by omega) (by omega) hq2
      · have hpt := bI_ne0 h3
        refine x_aload_n hm rfl rfl ?_
        refine x_iload_n hm rfl rfl ?_
        refine x_iload_n hm rfl rfl ?_
        refine x_iload hm rfl rfl ?_
        refine x_iload_n hm rfl rfl ?_
        refine x_iload hm rfl rfl ?_
        refine x_isub hm rfl ?_
        rw [sub_kk hk]
        refine x_callV hm rfl rfl (gv71 hR hV ha hb (by omega) (by omega)) ?_
        refine x_if_eq hm rfl (t := 53) rfl (fun h4 => ?_) (fun h4 => ?_)
        · have hq2 := hq.trans (hst.trans (if_neg fun z => bI_eq0.mp h4 z.2))
          refine x_iinc hm rfl rfl (v := nI 1) (by decide) rfl ?_
          rw [jI_add]
          refine x_goto hm rfl (t := 20) rfl ?_
          exact ih _ (by omega) (by omega) hq2
        · have hq9 := hq.trans (hst.trans (if_pos ⟨hpt, bI_ne0 h4⟩))
          refine x_iload hm rfl rfl ?_
          refine x_iret hm rfl rfl (by first | rfl | exact bI_nar | decide) ?_
          exact ⟨_, _, rfl, rfl, by rw [hq9, orN_k (by omega)]⟩
theorem gv68 {a1 a2 a3 : Int32} (hR : Rel 1 nt np M r) (hG : Gd nt np r) (hc : M 1 7 = -1) : ∃ v M', mT X 68 [.ref 0, .int a1, .int a2, .int a3] (con M) (some (.int v)) (con M') ∧ v = fDeal r nt np a1 a2 a3 := by
  refine ti_of (row := _) rfl (Nat.le_of_ble_eq_true rfl) ?_
  have hm : mMet 68 = some _ := rfl
  have hV := hG.2.2.1
  have hn8 := hV.1
  have hp8 := hV.2.1
  refine x_aload_n hm rfl rfl ?_
  refine x_iload_n hm rfl rfl ?_
  refine x_iload_n hm rfl rfl ?_
  refine x_iload_n hm rfl rfl ?_
  refine x_callV hm rfl rfl (gv69 hR hn8) ?_
  refine x_if_ne hm rfl (t := 17) rfl (fun h1 => ?_) (fun h1 => ?_)
  · have hcd := bI_ne0 h1
    obtain ⟨a, ha, rfl⟩ := in_k rfl (by omega) hcd.1
    obtain ⟨b, hb, rfl⟩ := in_k rfl (by omega) hcd.2.1
    obtain ⟨y, hy, rfl⟩ := set_k hn8 hcd.2.2.2
    have hy8 : y < 256 := Nat.lt_of_lt_of_le hy (pow_k hn8)
    refine x_iconst hm rfl (v := nI 0) (by decide) ?_
    refine x_istore hm rfl rfl ?_
    have hq : fDeal r nt np (nI a) (nI b) (nI y) = (orN (sDn r nt a b y (y + 1) 0)).1 := by
      unfold fDeal
      rw [if_neg (by assumption)]
      rw [jI_nat (k := a) (by omega), jI_nat (k := b) (by omega), jI_nat (k := y) (by omega)]
    rw [hq]
    exact gv68l hR hV ha hb hy8 _ 0 (Nat.lt_succ_self _) (Nat.zero_le _) rfl
  · refine x_aload_n hm rfl rfl ?_
    refine x_ldcI hm rfl (v := (-1000001 : Int32)) (by decide) ?_
    refine x_cVi hm rfl rfl (t7 (by decide)) (fun v2 M2 r2 => ?_)
    refine x_iret hm rfl rfl (by first | rfl | exact bI_nar | decide) ?_
    have hq : fDeal r nt np a1 a2 a3 = -1000001 := by
      unfold fDeal
      rw [if_pos (by assumption)]
    exact ⟨_, _, rfl, rfl, r2.1.trans hq.symm⟩
theorem gr201l (hW : Wf M) (h6 : M 66 6 = -1) (h67 : M 67 = r) (hV : Vs nt np r) (hnt : M 67 1 = nI nt) {a b y : Nat} (ha : a < np) (hb : b < np) (hy : y < 256) : ∀ (n j : Nat) (s : Int32), j < n → j ≤ y + 1 → s = sDn r nt a b y (y + 1 - j) j → mEv X (QI (fun v _ => v = (orN (sDn r nt a b y (y + 1) 0)).1)) 201 23 [some (.ref 66), some (.int (nI a)), some (.int (nI b)), some (.int (nI y)), some (.int s), some (.int (nI j + (-1)))] [] (con M) := by
  have hm : mMet 201 = some _ := rfl
  intro n
  induction n with
  | zero =>
    intro j s hjn hj hs
    omega
  | succ n ih =>
    intro j s hjn hj hs
    have hn8 := hV.1
    have hp8 := hV.2.1
    refine x_iload hm rfl rfl ?_
    refine x_if_lt hm rfl (t := 69) rfl (fun h1 => ?_) (fun h1 => ?_)
    · obtain rfl : j = 0 := by
        cases j with
        | zero => rfl
        | succ i => rw [dec1] at h1; exact absurd h1 (jI_nn (by omega))
      refine x_aload_n hm rfl rfl ?_
      refine x_iload hm rfl rfl ?_
      refine x_cVi hm rfl rfl (e177) (fun v2 M2 r2 => ?_)
      refine x_iret hm rfl rfl (by first | rfl | exact bI_nar | decide) ?_
      have h7 := r2.1
      exact ⟨_, _, rfl, rfl, h7.trans (congrArg (fun z => (orN z).1) hs)⟩
    · obtain ⟨i, rfl⟩ : ∃ i, j = i + 1 := by
        cases j with
        | zero => exact absurd (by decide) h1
        | succ i => exact ⟨i, rfl⟩
      rw [dec1]
      have hst : sDn r nt a b y (y + 1 - i) i = if (Pt i y ∧ Dl r nt a b i (y - i)) then nI i else sDn r nt a b y (y + 1 - (i + 1)) (i + 1) := by rw [show y + 1 - i = (y + 1 - (i + 1)) + 1 by omega]; rfl
      refine x_iload hm rfl rfl ?_
      refine x_iload_n hm rfl rfl ?_
      refine x_iconst hm rfl (v := (-1 : Int32)) (by decide) ?_
      refine x_ixor hm rfl ?_
      refine x_iand hm rfl ?_
      refine x_if_ne hm rfl (t := 59) rfl (fun h3 => ?_) (fun h3 => ?_)
      · have hs2 := hs.trans (hst.trans (if_neg fun z => h3 z.1)).symm
        refine x_iload hm rfl rfl ?_
        refine x_istore hm rfl rfl ?_
        refine x_iinc hm rfl rfl (v := (-1 : Int32)) (by decide) rfl ?_
        refine x_goto hm rfl (t := 23) rfl ?_
        exact ih i _ (by omega) (by omega) hs2
      · have hpt : Pt i y := h3
        obtain ⟨hrest, hle⟩ := part_k y hy i (by omega) hpt
        refine x_aload_n hm rfl rfl ?_
        refine x_iload_n hm rfl rfl ?_
        refine x_iload_n hm rfl rfl ?_
        refine x_iload hm rfl rfl ?_
        refine x_iload_n hm rfl rfl ?_
        refine x_iload hm rfl rfl ?_
        refine x_iconst hm rfl (v := (-1 : Int32)) (by decide) ?_
        refine x_ixor hm rfl ?_
        refine x_iand hm rfl ?_
        rw [hrest]
        refine x_callV hm rfl rfl (gr203 hW h6 h67 hV hnt ha hb (by omega) (by omega)) ?_
        refine x_if_eq hm rfl (t := 59) rfl (fun h4 => ?_) (fun h4 => ?_)
        · have hs2 := hs.trans (hst.trans (if_neg fun z => bI_eq0.mp h4 z.2)).symm
          refine x_iload hm rfl rfl ?_
          refine x_istore hm rfl rfl ?_
          refine x_iinc hm rfl rfl (v := (-1 : Int32)) (by decide) rfl ?_
          refine x_goto hm rfl (t := 23) rfl ?_
          exact ih i _ (by omega) (by omega) hs2
        · have hs2 := (hst.trans (if_pos ⟨hpt, bI_ne0 h4⟩)).symm
          refine x_iload hm rfl rfl ?_
          refine x_goto hm rfl (t := 61) rfl ?_
          refine x_istore hm rfl rfl ?_
          refine x_iinc hm rfl rfl (v := (-1 : Int32)) (by decide) rfl ?_
          refine x_goto hm rfl (t := 23) rfl ?_
          exact ih i _ (by omega) (by omega) hs2
theorem gr201 {a1 a2 a3 : Int32} (hI : Inv M) (h67 : M 67 = r) (hG : Gd nt np r) (h6 : M 66 6 = -1) : ∃ v M', mT X 201 [.ref 66, .int a1, .int a2, .int a3] (con M) (some (.int v)) (con M') ∧ v = fDeal r nt np a1 a2 a3 := by
  refine ti_of (row := _) rfl (Nat.le_of_ble_eq_true rfl) ?_
  have hm : mMet 201 = some _ := rfl
  have hV := hG.2.2.1
  have hn8 := hV.1
  have hp8 := hV.2.1
  have hW := hI.1
  have hnt : M 67 1 = nI nt := (congrFun h67 1).trans hG.1
  have hnp : M 67 2 = nI np := (congrFun h67 2).trans hG.2.1
  refine x_aload_n hm rfl rfl ?_
  refine x_iload_n hm rfl rfl ?_
  refine x_iload_n hm rfl rfl ?_
  refine x_iload_n hm rfl rfl ?_
  refine x_callV hm rfl rfl (gr202 hnt hn8 hnp) ?_
  refine x_if_ne hm rfl (t := 17) rfl (fun h1 => ?_) (fun h1 => ?_)
  · have hcd := bI_ne0 h1
    obtain ⟨a, ha, rfl⟩ := in_k rfl (by omega) hcd.1
    obtain ⟨b, hb, rfl⟩ := in_k rfl (by omega) hcd.2.1
    obtain ⟨y, hy, rfl⟩ := set_k hn8 hcd.2.2.2
    have hy8 : y < 256 := Nat.lt_of_lt_of_le hy (pow_k hn8)
    refine x_iconst hm rfl (v := (-1 : Int32)) (by decide) ?_
    refine x_istore hm rfl rfl ?_
    refine x_iload_n hm rfl rfl ?_
    refine x_istore hm rfl rfl ?_
    have hq : fDeal r nt np (nI a) (nI b) (nI y) = (orN (sDn r nt a b y (y + 1) 0)).1 := by
      unfold fDeal
      rw [if_neg (by assumption)]
      rw [jI_nat (k := a) (by omega), jI_nat (k := b) (by omega), jI_nat (k := y) (by omega)]
    rw [hq]
    have e := gr201l (X := X) hW h6 h67 hV hnt ha hb hy8 _ (y + 1) _ (Nat.lt_succ_self _) (Nat.le_refl _) (show (-1 : Int32) = _ by rw [Nat.sub_self]; rfl)
    rw [dec1 y] at e
    exact e
  · refine x_aload_n hm rfl rfl ?_
    refine x_ldcI hm rfl (v := (-1000001 : Int32)) (by decide) ?_
    refine x_callV hm rfl rfl (e135 (by decide)) ?_
    refine x_iret hm rfl rfl (by first | rfl | exact bI_nar | decide) ?_
    have hq : fDeal r nt np a1 a2 a3 = -1000001 := by
      unfold fDeal
      rw [if_pos (by assumption)]
    exact ⟨_, _, rfl, rfl, hq.symm⟩
theorem sDc_1 {a b y k : Nat} (h : Pt k y ∧ Dl r nt a b k (y - k)) : sDc r nt a b y k + nI 1 = sDc r nt a b y (k + 1) := by
  show _ = sDc r nt a b y k + (if Pt k y ∧ Dl r nt a b k (y - k) then nI 1 else nI 0)
  rw [if_pos h]
theorem sDc_0 {a b y k : Nat} (h : ¬ (Pt k y ∧ Dl r nt a b k (y - k))) : sDc r nt a b y k + nI 0 = sDc r nt a b y (k + 1) := by
  show _ = sDc r nt a b y k + (if Pt k y ∧ Dl r nt a b k (y - k) then nI 1 else nI 0)
  rw [if_neg h]
theorem gv72l (hR : Rel 1 nt np M r) (hV : Vs nt np r) {a b y : Nat} (ha : a < np) (hb : b < np) (hy : y < 256) : ∀ (n k : Nat) (s : Int32), y + 1 - k < n → k ≤ y + 1 → s = sDc r nt a b y k → mEv X (QI (fun v _ => v = sDc r nt a b y (y + 1))) 72 23 [some (.ref 0), some (.int (nI a)), some (.int (nI b)), some (.int (nI y)), some (.int s), some (.int (nI k))] [] (con M) := by
  have hm : mMet 72 = some _ := rfl
  intro n
  induction n with
  | zero =>
    intro k s hkn hkb hs
    omega
  | succ n ih =>
    intro k s hkn hkb hs
    have hn8 := hV.1
    have hp8 := hV.2.1
    refine x_iload hm rfl rfl ?_
    refine x_iload_n hm rfl rfl ?_
    refine x_icmp_gt hm rfl (t := 62) rfl (fun h1 => ?_) (fun h1 => ?_)
    · obtain rfl : k = y + 1 := by
        have := (jI_lt (by omega) (by omega)).mp h1
        omega
      refine x_iload hm rfl rfl ?_
      refine x_iret hm rfl rfl (by first | rfl | exact bI_nar | decide) ?_
      exact ⟨_, _, rfl, rfl, hs⟩
    · have hk : k ≤ y := Nat.le_of_not_lt fun h => h1 ((jI_lt (by omega) (by omega)).mpr h)
      refine x_iload hm rfl rfl ?_
      refine x_iload_n hm rfl rfl ?_
      refine x_callS hm rfl rfl (gv70) ?_
      refine x_if_eq hm rfl (t := 56) rfl (fun h2 => ?_) (fun h2 => ?_)
      · have hno : ¬ (Pt k y ∧ Dl r nt a b k (y - k)) := fun z => bI_eq0.mp h2 z.1
        refine x_iinc hm rfl rfl (v := nI 1) (by decide) rfl ?_
        rw [jI_add]
        refine x_goto hm rfl (t := 23) rfl ?_
        first
          | exact ih _ _ (by omega) (by omega) (by rw [hs]; exact sDc_1 hyes)
          | exact ih _ _ (by omega) (by omega) (by rw [hs]; exact addz.trans (sDc_0 hno))
      · have hpt := bI_ne0 h2
        refine x_aload_n hm rfl rfl ?_
        refine x_iload_n hm rfl rfl ?_
        refine x_iload_n hm rfl rfl ?_
        refine x_iload hm rfl rfl ?_
        refine x_iload_n hm rfl rfl ?_
        refine x_iload hm rfl rfl ?_
        refine x_isub hm rfl ?_
        rw [sub_kk hk]
        refine x_callV hm rfl rfl (gv71 hR hV ha hb (by omega) (by omega)) ?_
        refine x_if_eq hm rfl (t := 56) rfl (fun h3 => ?_) (fun h3 => ?_)
        · have hno : ¬ (Pt k y ∧ Dl r nt a b k (y - k)) := fun z => bI_eq0.mp h3 z.2
          refine x_iinc hm rfl rfl (v := nI 1) (by decide) rfl ?_
          rw [jI_add]
          refine x_goto hm rfl (t := 23) rfl ?_
          first
            | exact ih _ _ (by omega) (by omega) (by rw [hs]; exact sDc_1 hyes)
            | exact ih _ _ (by omega) (by omega) (by rw [hs]; exact addz.trans (sDc_0 hno))
        · have hyes : (Pt k y ∧ Dl r nt a b k (y - k)) := ⟨hpt, bI_ne0 h3⟩
          refine x_iinc hm rfl rfl (v := nI 1) (by decide) rfl ?_
          refine x_iinc hm rfl rfl (v := nI 1) (by decide) rfl ?_
          rw [jI_add]
          refine x_goto hm rfl (t := 23) rfl ?_
          first
            | exact ih _ _ (by omega) (by omega) (by rw [hs]; exact sDc_1 hyes)
            | exact ih _ _ (by omega) (by omega) (by rw [hs]; exact addz.trans (sDc_0 hno))
theorem gv72 {a1 a2 a3 : Int32} (hR : Rel 1 nt np M r) (hG : Gd nt np r) (hc : M 1 7 = -1) : ∃ v M', mT X 72 [.ref 0, .int a1, .int a2, .int a3] (con M) (some (.int v)) (con M') ∧ v = fDeals r nt np a1 a2 a3 := by
  refine ti_of (row := _) rfl (Nat.le_of_ble_eq_true rfl) ?_
  have hm : mMet 72 = some _ := rfl
  have hV := hG.2.2.1
  have hn8 := hV.1
  have hp8 := hV.2.1
  refine x_aload_n hm rfl rfl ?_
  refine x_iload_n hm rfl rfl ?_
  refine x_iload_n hm rfl rfl ?_
  refine x_iload_n hm rfl rfl ?_
  refine x_callV hm rfl rfl (gv69 hR hn8) ?_
  refine x_if_ne hm rfl (t := 17) rfl (fun h1 => ?_) (fun h1 => ?_)
  · have hcd := bI_ne0 h1
    obtain ⟨a, ha, rfl⟩ := in_k rfl (by omega) hcd.1
    obtain ⟨b, hb, rfl⟩ := in_k rfl (by omega) hcd.2.1
    obtain ⟨y, hy, rfl⟩ := set_k hn8 hcd.2.2.2
    have hy8 : y < 256 := Nat.lt_of_lt_of_le hy (pow_k hn8)
    refine x_iconst hm rfl (v := nI 0) (by decide) ?_
    refine x_istore hm rfl rfl ?_
    refine x_iconst hm rfl (v := nI 0) (by decide) ?_
    refine x_istore hm rfl rfl ?_
    have hq : fDeals r nt np (nI a) (nI b) (nI y) = sDc r nt a b y (y + 1) := by
      unfold fDeals
      rw [if_neg (by assumption)]
      rw [jI_nat (k := a) (by omega), jI_nat (k := b) (by omega), jI_nat (k := y) (by omega)]
    rw [hq]
    exact gv72l hR hV ha hb hy8 _ 0 _ (Nat.lt_succ_self _) (Nat.zero_le _) rfl
  · refine x_aload_n hm rfl rfl ?_
    refine x_ldcI hm rfl (v := (-1000001 : Int32)) (by decide) ?_
    refine x_cVi hm rfl rfl (t7 (by decide)) (fun v2 M2 r2 => ?_)
    refine x_iret hm rfl rfl (by first | rfl | exact bI_nar | decide) ?_
    have hq : fDeals r nt np a1 a2 a3 = -1000001 := by
      unfold fDeals
      rw [if_pos (by assumption)]
    exact ⟨_, _, rfl, rfl, r2.1.trans hq.symm⟩
theorem gr205l (hW : Wf M) (h6 : M 66 6 = -1) (h67 : M 67 = r) (hV : Vs nt np r) (hnt : M 67 1 = nI nt) {a b y : Nat} (ha : a < np) (hb : b < np) (hy : y < 256) : ∀ (n k : Nat) (s : Int32), y + 1 - k < n → k ≤ y + 1 → s = sDc r nt a b y k → mEv X (fun z D => z = some (.int (sDc r nt a b y (y + 1))) ∧ D = con M) 205 6 [some (.ref 66), some (.int (nI a)), some (.int (nI b)), some (.int (nI y)), some (.int s), some (.int (nI k))] [] (con M) := by
  have hm : mMet 205 = some _ := rfl
  intro n
  induction n with
  | zero =>
    intro k s hkn hkb hs
    omega
  | succ n ih =>
    intro k s hkn hkb hs
    have hn8 := hV.1
    have hp8 := hV.2.1
    refine x_iload hm rfl rfl ?_
    refine x_iload_n hm rfl rfl ?_
    refine x_icmp_gt hm rfl (t := 54) rfl (fun h1 => ?_) (fun h1 => ?_)
    · obtain rfl : k = y + 1 := by
        have := (jI_lt (by omega) (by omega)).mp h1
        omega
      refine x_iload hm rfl rfl ?_
      refine x_iret hm rfl rfl (by first | rfl | exact bI_nar | decide) ?_
      rw [hs]
      exact ⟨rfl, rfl⟩
    · have hk : k ≤ y := Nat.le_of_not_lt fun h => h1 ((jI_lt (by omega) (by omega)).mpr h)
      refine x_iload hm rfl rfl ?_
      refine x_iload hm rfl rfl ?_
      refine x_iload_n hm rfl rfl ?_
      refine x_iconst hm rfl (v := (-1 : Int32)) (by decide) ?_
      refine x_ixor hm rfl ?_
      refine x_iand hm rfl ?_
      refine x_if_ne hm rfl (t := 44) rfl (fun h2 => ?_) (fun h2 => ?_)
      · have hno : ¬ (Pt k y ∧ Dl r nt a b k (y - k)) := fun z => h2 z.1
        refine x_iconst hm rfl (v := nI 0) (by decide) ?_
        refine x_iadd hm rfl ?_
        refine x_istore hm rfl rfl ?_
        refine x_iinc hm rfl rfl (v := nI 1) (by decide) rfl ?_
        rw [jI_add]
        refine x_goto hm rfl (t := 6) rfl ?_
        first
          | exact ih _ _ (by omega) (by omega) (by rw [hs]; exact sDc_1 hyes)
          | exact ih _ _ (by omega) (by omega) (by rw [hs]; exact sDc_0 hno)
      · have hpt : Pt k y := h2
        obtain ⟨hrest, hle⟩ := part_k y hy k (by omega) hpt
        refine x_aload_n hm rfl rfl ?_
        refine x_iload_n hm rfl rfl ?_
        refine x_iload_n hm rfl rfl ?_
        refine x_iload hm rfl rfl ?_
        refine x_iload_n hm rfl rfl ?_
        refine x_iload hm rfl rfl ?_
        refine x_iconst hm rfl (v := (-1 : Int32)) (by decide) ?_
        refine x_ixor hm rfl ?_
        refine x_iand hm rfl ?_
        rw [hrest]
        refine x_callV hm rfl rfl (gr203 hW h6 h67 hV hnt ha hb (by omega) (by omega)) ?_
        refine x_if_eq hm rfl (t := 44) rfl (fun h3 => ?_) (fun h3 => ?_)
        · have hno : ¬ (Pt k y ∧ Dl r nt a b k (y - k)) := fun z => bI_eq0.mp h3 z.2
          refine x_iconst hm rfl (v := nI 0) (by decide) ?_
          refine x_iadd hm rfl ?_
          refine x_istore hm rfl rfl ?_
          refine x_iinc hm rfl rfl (v := nI 1) (by decide) rfl ?_
          rw [jI_add]
          refine x_goto hm rfl (t := 6) rfl ?_
          first
            | exact ih _ _ (by omega) (by omega) (by rw [hs]; exact sDc_1 hyes)
            | exact ih _ _ (by omega) (by omega) (by rw [hs]; exact sDc_0 hno)
        · have hyes : (Pt k y ∧ Dl r nt a b k (y - k)) := ⟨hpt, bI_ne0 h3⟩
          refine x_iconst hm rfl (v := nI 1) (by decide) ?_
          refine x_goto hm rfl (t := 45) rfl ?_
          refine x_iadd hm rfl ?_
          refine x_istore hm rfl rfl ?_
          refine x_iinc hm rfl rfl (v := nI 1) (by decide) rfl ?_
          rw [jI_add]
          refine x_goto hm rfl (t := 6) rfl ?_
          first
            | exact ih _ _ (by omega) (by omega) (by rw [hs]; exact sDc_1 hyes)
            | exact ih _ _ (by omega) (by omega) (by rw [hs]; exact sDc_0 hno)
theorem gr205 (hW : Wf M) (h6 : M 66 6 = -1) (h67 : M 67 = r) (hV : Vs nt np r) (hnt : M 67 1 = nI nt) {a b y : Nat} (ha : a < np) (hb : b < np) (hy : y < 256) : mT X 205 [.ref 66, .int (nI a), .int (nI b), .int (nI y)] (con M) (some (.int (sDc r nt a b y (y + 1)))) (con M) := by
  refine mT.of (row := _) rfl (Nat.le_of_ble_eq_true rfl) ?_
  have hm : mMet 205 = some _ := rfl
  refine x_iconst hm rfl (v := nI 0) (by decide) ?_
  refine x_istore hm rfl rfl ?_
  refine x_iconst hm rfl (v := nI 0) (by decide) ?_
  refine x_istore hm rfl rfl ?_
  exact gr205l hW h6 h67 hV hnt ha hb hy _ 0 _ (Nat.lt_succ_self _) (Nat.zero_le _) rfl
theorem gr204 {a1 a2 a3 : Int32} (hI : Inv M) (h67 : M 67 = r) (hG : Gd nt np r) (h6 : M 66 6 = -1) : ∃ v M', mT X 204 [.ref 66, .int a1, .int a2, .int a3] (con M) (some (.int v)) (con M') ∧ v = fDeals r nt np a1 a2 a3 := by
  refine ti_of (row := _) rfl (Nat.le_of_ble_eq_true rfl) ?_
  have hm : mMet 204 = some _ := rfl
  have hV := hG.2.2.1
  have hn8 := hV.1
  have hp8 := hV.2.1
  have hW := hI.1
  have hnt : M 67 1 = nI nt := (congrFun h67 1).trans hG.1
  have hnp : M 67 2 = nI np := (congrFun h67 2).trans hG.2.1
  refine x_aload_n hm rfl rfl ?_
  refine x_iload_n hm rfl rfl ?_
  refine x_iload_n hm rfl rfl ?_
  refine x_iload_n hm rfl rfl ?_
  refine x_callV hm rfl rfl (gr202 hnt hn8 hnp) ?_
  refine x_if_eq hm rfl (t := 20) rfl (fun h1 => ?_) (fun h1 => ?_)
  · refine x_aload_n hm rfl rfl ?_
    refine x_ldcI hm rfl (v := (-1000001 : Int32)) (by decide) ?_
    refine x_callV hm rfl rfl (e135 (by decide)) ?_
    refine x_iret hm rfl rfl (by first | rfl | exact bI_nar | decide) ?_
    first
      | (have hq : fDeals r nt np a1 a2 a3 = -1000001 := by
           unfold fDeals
           rw [if_pos (by assumption)]
         exact ⟨_, _, rfl, rfl, hq.symm⟩)
      | (have hq : fDeals r nt np (nI a) (nI b) (nI y) = sDc r nt a b y (y + 1) := by
           unfold fDeals
           rw [if_neg (by assumption)]
           rw [jI_nat (k := a) (by omega), jI_nat (k := b) (by omega), jI_nat (k := y) (by omega)]
         exact ⟨_, _, rfl, rfl, hq.symm⟩)
  · have hcd := bI_ne0 h1
    obtain ⟨a, ha, rfl⟩ := in_k rfl (by omega) hcd.1
    obtain ⟨b, hb, rfl⟩ := in_k rfl (by omega) hcd.2.1
    obtain ⟨y, hy, rfl⟩ := set_k hn8 hcd.2.2.2
    have hy8 : y < 256 := Nat.lt_of_lt_of_le hy (pow_k hn8)
    refine x_aload_n hm rfl rfl ?_
    refine x_iload_n hm rfl rfl ?_
    refine x_iload_n hm rfl rfl ?_
    refine x_iload_n hm rfl rfl ?_
    refine x_callV hm rfl rfl (gr205 hW h6 h67 hV hnt ha hb hy8) ?_
    refine x_goto hm rfl (t := 26) rfl ?_
    refine x_iret hm rfl rfl (by first | rfl | exact bI_nar | decide) ?_
    first
      | (have hq : fDeals r nt np a1 a2 a3 = -1000001 := by
           unfold fDeals
           rw [if_pos (by assumption)]
         exact ⟨_, _, rfl, rfl, hq.symm⟩)
      | (have hq : fDeals r nt np (nI a) (nI b) (nI y) = sDc r nt a b y (y + 1) := by
           unfold fDeals
           rw [if_neg (by assumption)]
           rw [jI_nat (k := a) (by omega), jI_nat (k := b) (by omega), jI_nat (k := y) (by omega)]
         exact ⟨_, _, rfl, rfl, hq.symm⟩)
theorem gv73l (hR : Rel 1 nt np M r) (hV : Vs nt np r) {a b y : Nat} (ha : a < np) (hb : b < np) (hy : y < 256) : ∀ (n k : Nat) (s g : Int32) (x7 : Option Value), y + 1 - k < n → k ≤ y + 1 → (s, g) = fo (sLs r nt a b y) k (nI 0, -1) → ¬ g < -1 → mEv X (QI (fun v _ => v = (fo (sLs r nt a b y) (y + 1) (nI 0, -1)).1)) 73 26 [some (.ref 0), some (.int (nI a)), some (.int (nI b)), some (.int (nI y)), some (.int s), some (.int g), some (.int (nI k)), x7] [] (con M) := by
  have hm : mMet 73 = some _ := rfl
  intro n
  induction n with
  | zero =>
    intro k s g x7 hkn hkb hz hg
    omega
  | succ n ih =>
    intro k s g x7 hkn hkb hz hg
    have hn8 := hV.1
    have hp8 := hV.2.1
    refine x_iload hm rfl rfl ?_
    refine x_iload_n hm rfl rfl ?_
    refine x_icmp_gt hm rfl (t := 89) rfl (fun h1 => ?_) (fun h1 => ?_)
    · obtain rfl : k = y + 1 := by
        have := (jI_lt (by omega) (by omega)).mp h1
        omega
      refine x_iload hm rfl rfl ?_
      refine x_iret hm rfl rfl (by first | rfl | exact bI_nar | decide) ?_
      exact ⟨_, _, rfl, rfl, congrArg Prod.fst hz⟩
    · have hk : k ≤ y := Nat.le_of_not_lt fun h => h1 ((jI_lt (by omega) (by omega)).mpr h)
      refine x_iload hm rfl rfl ?_
      refine x_iload_n hm rfl rfl ?_
      refine x_callS hm rfl rfl (gv70) ?_
      refine x_if_eq hm rfl (t := 83) rfl (fun h2 => ?_) (fun h2 => ?_)
      · have hno : ¬ (Pt k y ∧ g < mn2 (sWth r a k nt) (sWth r b (y - k) nt)) := fun z => bI_eq0.mp h2 z.1
        refine x_iinc hm rfl rfl (v := nI 1) (by decide) rfl ?_
        rw [jI_add]
        refine x_goto hm rfl (t := 26) rfl ?_
        first
          | exact ih _ _ _ _ (by omega) (by omega) (by show _ = sLs r nt a b y k _; rw [← hz]; exact (if_pos ⟨hpt, hlt⟩).symm) hg2
          | exact ih _ _ _ _ (by omega) (by omega) (by show _ = sLs r nt a b y k _; rw [← hz]; exact (if_neg hno).symm) hg
      · have hpt := bI_ne0 h2
        refine x_aload_n hm rfl rfl ?_
        refine x_getf hm rfl (gR rfl rfl) ?_
        refine x_iload_n hm rfl rfl ?_
        refine x_iload hm rfl rfl ?_
        refine x_callV hm rfl rfl (gv67 hR hV (by assumption) (by omega)) ?_
        refine x_aload_n hm rfl rfl ?_
        refine x_getf hm rfl (gR rfl rfl) ?_
        refine x_iload_n hm rfl rfl ?_
        refine x_iload_n hm rfl rfl ?_
        refine x_iload hm rfl rfl ?_
        refine x_isub hm rfl ?_
        rw [sub_kk hk]
        refine x_callV hm rfl rfl (gv67 hR hV (by assumption) (by omega)) ?_
        refine x_lib hm rfl rfl ?_
        dsimp only
        refine x_istore hm rfl rfl ?_
        refine x_iload hm rfl rfl ?_
        refine x_iload hm rfl rfl ?_
        refine x_icmp_le hm rfl (t := 83) rfl (fun h3 => ?_) (fun h3 => ?_)
        · have hno : ¬ (Pt k y ∧ g < mn2 (sWth r a k nt) (sWth r b (y - k) nt)) := fun z => absurd z.2 (Int32.not_lt.mpr h3)
          refine x_iinc hm rfl rfl (v := nI 1) (by decide) rfl ?_
          rw [jI_add]
          refine x_goto hm rfl (t := 26) rfl ?_
          first
            | exact ih _ _ _ _ (by omega) (by omega) (by show _ = sLs r nt a b y k _; rw [← hz]; exact (if_pos ⟨hpt, hlt⟩).symm) hg2
            | exact ih _ _ _ _ (by omega) (by omega) (by show _ = sLs r nt a b y k _; rw [← hz]; exact (if_neg hno).symm) hg
        · have hlt : g < mn2 (sWth r a k nt) (sWth r b (y - k) nt) := Int32.not_le.mp h3
          have hg2 : ¬ mn2 (sWth r a k nt) (sWth r b (y - k) nt) < -1 := fun q => hg (by rw [Int32.lt_iff_toInt_lt] at q hlt ⊢; omega)
          refine x_iload hm rfl rfl ?_
          refine x_istore hm rfl rfl ?_
          refine x_iload hm rfl rfl ?_
          refine x_istore hm rfl rfl ?_
          refine x_iinc hm rfl rfl (v := nI 1) (by decide) rfl ?_
          rw [jI_add]
          refine x_goto hm rfl (t := 26) rfl ?_
          first
            | exact ih _ _ _ _ (by omega) (by omega) (by show _ = sLs r nt a b y k _; rw [← hz]; exact (if_pos ⟨hpt, hlt⟩).symm) hg2
            | exact ih _ _ _ _ (by omega) (by omega) (by show _ = sLs r nt a b y k _; rw [← hz]; exact (if_neg hno).symm) hg
theorem gv73 {a1 a2 a3 : Int32} (hR : Rel 1 nt np M r) (hG : Gd nt np r) (hc : M 1 7 = -1) : ∃ v M', mT X 73 [.ref 0, .int a1, .int a2, .int a3] (con M) (some (.int v)) (con M') ∧ v = fLess r nt np a1 a2 a3 := by
  refine ti_of (row := _) rfl (Nat.le_of_ble_eq_true rfl) ?_
  have hm : mMet 73 = some _ := rfl
  have hV := hG.2.2.1
  have hn8 := hV.1
  have hp8 := hV.2.1
  refine x_aload_n hm rfl rfl ?_
  refine x_iload_n hm rfl rfl ?_
  refine x_iload_n hm rfl rfl ?_
  refine x_iload_n hm rfl rfl ?_
  refine x_callV hm rfl rfl (gv69 hR hn8) ?_
  refine x_if_ne hm rfl (t := 17) rfl (fun h1 => ?_) (fun h1 => ?_)
  · have hcd := bI_ne0 h1
    obtain ⟨a, ha, rfl⟩ := in_k rfl (by omega) hcd.1
    obtain ⟨b, hb, rfl⟩ := in_k rfl (by omega) hcd.2.1
    obtain ⟨y, hy, rfl⟩ := set_k hn8 hcd.2.2.2
    have hy8 : y < 256 := Nat.lt_of_lt_of_le hy (pow_k hn8)
    refine x_iconst hm rfl (v := nI 0) (by decide) ?_
    refine x_istore hm rfl rfl ?_
    refine x_iconst hm rfl (v := (-1 : Int32)) (by decide) ?_
    refine x_istore hm rfl rfl ?_
    refine x_iconst hm rfl (v := nI 0) (by decide) ?_
    refine x_istore hm rfl rfl ?_
    have hq : fLess r nt np (nI a) (nI b) (nI y) = (fo (sLs r nt a b y) (y + 1) (nI 0, -1)).1 := by
      unfold fLess
      rw [if_neg (by assumption)]
      rw [jI_nat (k := a) (by omega), jI_nat (k := b) (by omega), jI_nat (k := y) (by omega)]
    rw [hq]
    exact gv73l hR hV ha hb hy8 _ 0 _ _ _ (Nat.lt_succ_self _) (Nat.zero_le _) rfl (by decide)
  · refine x_aload_n hm rfl rfl ?_
    refine x_ldcI hm rfl (v := (-1000001 : Int32)) (by decide) ?_
    refine x_cVi hm rfl rfl (t7 (by decide)) (fun v2 M2 r2 => ?_)
    refine x_iret hm rfl rfl (by first | rfl | exact bI_nar | decide) ?_
    have hq : fLess r nt np a1 a2 a3 = -1000001 := by
      unfold fLess
      rw [if_pos (by assumption)]
    exact ⟨_, _, rfl, rfl, r2.1.trans hq.symm⟩
theorem gr206l (hW : Wf M) (h6 : M 66 6 = -1) (h67 : M 67 = r) (hV : Vs nt np r) (hnt : M 67 1 = nI nt) {a b y : Nat} (ha : a < np) (hb : b < np) (hy : y < 256) : ∀ (n k : Nat) (s g : Int32) (x7 : Option Value), y + 1 - k < n → k ≤ y + 1 → (s, g) = fo (sLs r nt a b y) k (nI 0, -1) → ¬ g < -1 → mEv X (QI (fun v _ => v = (fo (sLs r nt a b y) (y + 1) (nI 0, -1)).1)) 206 26 [some (.ref 66), some (.int (nI a)), some (.int (nI b)), some (.int (nI y)), some (.int s), some (.int g), some (.int (nI k)), x7] [] (con M) := by
  have hm : mMet 206 = some _ := rfl
  intro n
  induction n with
  | zero =>
    intro k s g x7 hkn hkb hz hg
    omega
  | succ n ih =>
    intro k s g x7 hkn hkb hz hg
    have hn8 := hV.1
    have hp8 := hV.2.1
    refine x_iload hm rfl rfl ?_
    refine x_iload_n hm rfl rfl ?_
    refine x_icmp_gt hm rfl (t := 99) rfl (fun h1 => ?_) (fun h1 => ?_)
    · obtain rfl : k = y + 1 := by
        have := (jI_lt (by omega) (by omega)).mp h1
        omega
      refine x_iload hm rfl rfl ?_
      refine x_iret hm rfl rfl (by first | rfl | exact bI_nar | decide) ?_
      exact ⟨_, _, rfl, rfl, congrArg Prod.fst hz⟩
    · have hk : k ≤ y := Nat.le_of_not_lt fun h => h1 ((jI_lt (by omega) (by omega)).mpr h)
      refine x_iload hm rfl rfl ?_
      refine x_iload_n hm rfl rfl ?_
      refine x_iconst hm rfl (v := (-1 : Int32)) (by decide) ?_
      refine x_ixor hm rfl ?_
      refine x_iand hm rfl ?_
      refine x_if_ne hm rfl (t := 65) rfl (fun h2 => ?_) (fun h2 => ?_)
      · have hno : ¬ (Pt k y ∧ g < mn2 (sWth r a k nt) (sWth r b (y - k) nt)) := fun z => h2 z.1
        have hv1 : ¬ g < (-1 : Int32) := hg
        refine x_iconst hm rfl (v := (-1 : Int32)) (by decide) ?_
        refine x_istore hm rfl rfl ?_
        refine x_iload hm rfl rfl ?_
        refine x_iload hm rfl rfl ?_
        refine x_icmp_le hm rfl (t := 80) rfl (fun h3 => ?_) (fun h3 => ?_)
        · have hle9 := Int32.not_lt.mpr h3
          refine x_iload hm rfl rfl ?_
          refine x_istore hm rfl rfl ?_
          refine x_iload hm rfl rfl ?_
          refine x_iload hm rfl rfl ?_
          refine x_lib hm rfl rfl ?_
          dsimp only
          refine x_istore hm rfl rfl ?_
          refine x_iinc hm rfl rfl (v := nI 1) (by decide) rfl ?_
          rw [jI_add]
          refine x_goto hm rfl (t := 26) rfl ?_
          first
            | exact absurd hlt9 (Int32.not_lt.mpr (Int32.not_lt.mp hv1))
            | (have hlt : g < mn2 (sWth r a k nt) (sWth r b (y - k) nt) := hlt9
               have hg2 : ¬ mn2 (sWth r a k nt) (sWth r b (y - k) nt) < -1 := fun q => hg (by rw [Int32.lt_iff_toInt_lt] at q hlt ⊢; omega)
               exact ih _ _ _ _ (by omega) (by omega) (by show _ = sLs r nt a b y k _; rw [← hz]; exact Eq.trans (b := (nI k, mn2 (sWth r a k nt) (sWth r b (y - k) nt))) (Prod.ext rfl (if_pos hlt)) (if_pos ⟨hpt, hlt⟩).symm) (by rw [if_pos hlt9]; exact hg2))
            | (have hno2 : ¬ g < mn2 (sWth r a k nt) (sWth r b (y - k) nt) := hle9
               exact ih _ _ _ _ (by omega) (by omega) (by show _ = sLs r nt a b y k _; rw [← hz]; exact Eq.trans (b := (s, g)) (Prod.ext rfl (if_neg hno2)) (if_neg fun z => hno2 z.2).symm) (by rw [if_neg hle9]; exact hg))
            | exact ih _ _ _ _ (by omega) (by omega) (by show _ = sLs r nt a b y k _; rw [← hz]; exact Eq.trans (b := (s, g)) (Prod.ext rfl (if_neg hle9)) (if_neg hno).symm) (by rw [if_neg hle9]; exact hg)
        · have hlt9 := Int32.not_le.mp h3
          refine x_iload hm rfl rfl ?_
          refine x_goto hm rfl (t := 82) rfl ?_
          refine x_istore hm rfl rfl ?_
          refine x_iload hm rfl rfl ?_
          refine x_iload hm rfl rfl ?_
          refine x_lib hm rfl rfl ?_
          dsimp only
          refine x_istore hm rfl rfl ?_
          refine x_iinc hm rfl rfl (v := nI 1) (by decide) rfl ?_
          rw [jI_add]
          refine x_goto hm rfl (t := 26) rfl ?_
          first
            | exact absurd hlt9 (Int32.not_lt.mpr (Int32.not_lt.mp hv1))
            | (have hlt : g < mn2 (sWth r a k nt) (sWth r b (y - k) nt) := hlt9
               have hg2 : ¬ mn2 (sWth r a k nt) (sWth r b (y - k) nt) < -1 := fun q => hg (by rw [Int32.lt_iff_toInt_lt] at q hlt ⊢; omega)
               exact ih _ _ _ _ (by omega) (by omega) (by show _ = sLs r nt a b y k _; rw [← hz]; exact Eq.trans (b := (nI k, mn2 (sWth r a k nt) (sWth r b (y - k) nt))) (Prod.ext rfl (if_pos hlt)) (if_pos ⟨hpt, hlt⟩).symm) (by rw [if_pos hlt9]; exact hg2))
            | (have hno2 : ¬ g < mn2 (sWth r a k nt) (sWth r b (y - k) nt) := hle9
               exact ih _ _ _ _ (by omega) (by omega) (by show _ = sLs r nt a b y k _; rw [← hz]; exact Eq.trans (b := (s, g)) (Prod.ext rfl (if_neg hno2)) (if_neg fun z => hno2 z.2).symm) (by rw [if_neg hle9]; exact hg))
            | exact ih _ _ _ _ (by omega) (by omega) (by show _ = sLs r nt a b y k _; rw [← hz]; exact Eq.trans (b := (s, g)) (Prod.ext rfl (if_neg hle9)) (if_neg hno).symm) (by rw [if_neg hle9]; exact hg)
      · have hpt : Pt k y := h2
        obtain ⟨hrest, hle⟩ := part_k y hy k (by omega) hpt
        refine x_aload_n hm rfl rfl ?_
        refine x_iload_n hm rfl rfl ?_
        refine x_iload hm rfl rfl ?_
        refine x_callV hm rfl rfl (gr200 hW h6 h67 hV hnt (by assumption) (by omega)) ?_
        refine x_aload_n hm rfl rfl ?_
        refine x_iload_n hm rfl rfl ?_
        refine x_iload_n hm rfl rfl ?_
        refine x_iload hm rfl rfl ?_
        refine x_iconst hm rfl (v := (-1 : Int32)) (by decide) ?_
        refine x_ixor hm rfl ?_
        refine x_iand hm rfl ?_
        rw [hrest]
        refine x_callV hm rfl rfl (gr200 hW h6 h67 hV hnt (by assumption) (by omega)) ?_
        refine x_lib hm rfl rfl ?_
        dsimp only
        refine x_goto hm rfl (t := 66) rfl ?_
        refine x_istore hm rfl rfl ?_
        refine x_iload hm rfl rfl ?_
        refine x_iload hm rfl rfl ?_
        refine x_icmp_le hm rfl (t := 80) rfl (fun h4 => ?_) (fun h4 => ?_)
        · have hle9 := Int32.not_lt.mpr h4
          refine x_iload hm rfl rfl ?_
          refine x_istore hm rfl rfl ?_
          refine x_iload hm rfl rfl ?_
          refine x_iload hm rfl rfl ?_
          refine x_lib hm rfl rfl ?_
          dsimp only
          refine x_istore hm rfl rfl ?_
          refine x_iinc hm rfl rfl (v := nI 1) (by decide) rfl ?_
          rw [jI_add]
          refine x_goto hm rfl (t := 26) rfl ?_
          first
            | exact absurd hlt9 (Int32.not_lt.mpr (Int32.not_lt.mp hv1))
            | (have hlt : g < mn2 (sWth r a k nt) (sWth r b (y - k) nt) := hlt9
               have hg2 : ¬ mn2 (sWth r a k nt) (sWth r b (y - k) nt) < -1 := fun q => hg (by rw [Int32.lt_iff_toInt_lt] at q hlt ⊢; omega)
               exact ih _ _ _ _ (by omega) (by omega) (by show _ = sLs r nt a b y k _; rw [← hz]; exact Eq.trans (b := (nI k, mn2 (sWth r a k nt) (sWth r b (y - k) nt))) (Prod.ext rfl (if_pos hlt)) (if_pos ⟨hpt, hlt⟩).symm) (by rw [if_pos hlt9]; exact hg2))
            | (have hno2 : ¬ g < mn2 (sWth r a k nt) (sWth r b (y - k) nt) := hle9
               exact ih _ _ _ _ (by omega) (by omega) (by show _ = sLs r nt a b y k _; rw [← hz]; exact Eq.trans (b := (s, g)) (Prod.ext rfl (if_neg hno2)) (if_neg fun z => hno2 z.2).symm) (by rw [if_neg hle9]; exact hg))
            | exact ih _ _ _ _ (by omega) (by omega) (by show _ = sLs r nt a b y k _; rw [← hz]; exact Eq.trans (b := (s, g)) (Prod.ext rfl (if_neg hle9)) (if_neg hno).symm) (by rw [if_neg hle9]; exact hg)
        · have hlt9 := Int32.not_le.mp h4
          refine x_iload hm rfl rfl ?_
          refine x_goto hm rfl (t := 82) rfl ?_
          refine x_istore hm rfl rfl ?_
          refine x_iload hm rfl rfl ?_
          refine x_iload hm rfl rfl ?_
          refine x_lib hm rfl rfl ?_
          dsimp only
          refine x_istore hm rfl rfl ?_
          refine x_iinc hm rfl rfl (v := nI 1) (by decide) rfl ?_
          rw [jI_add]
          refine x_goto hm rfl (t := 26) rfl ?_
          first
            | exact absurd hlt9 (Int32.not_lt.mpr (Int32.not_lt.mp hv1))
            | (have hlt : g < mn2 (sWth r a k nt) (sWth r b (y - k) nt) := hlt9
               have hg2 : ¬ mn2 (sWth r a k nt) (sWth r b (y - k) nt) < -1 := fun q => hg (by rw [Int32.lt_iff_toInt_lt] at q hlt ⊢; omega)
               exact ih _ _ _ _ (by omega) (by omega) (by show _ = sLs r nt a b y k _; rw [← hz]; exact Eq.trans (b := (nI k, mn2 (sWth r a k nt) (sWth r b (y - k) nt))) (Prod.ext rfl (if_pos hlt)) (if_pos ⟨hpt, hlt⟩).symm) (by rw [if_pos hlt9]; exact hg2))
            | (have hno2 : ¬ g < mn2 (sWth r a k nt) (sWth r b (y - k) nt) := hle9
               exact ih _ _ _ _ (by omega) (by omega) (by show _ = sLs r nt a b y k _; rw [← hz]; exact Eq.trans (b := (s, g)) (Prod.ext rfl (if_neg hno2)) (if_neg fun z => hno2 z.2).symm) (by rw [if_neg hle9]; exact hg))
            | exact ih _ _ _ _ (by omega) (by omega) (by show _ = sLs r nt a b y k _; rw [← hz]; exact Eq.trans (b := (s, g)) (Prod.ext rfl (if_neg hle9)) (if_neg hno).symm) (by rw [if_neg hle9]; exact hg)
theorem gr206 {a1 a2 a3 : Int32} (hI : Inv M) (h67 : M 67 = r) (hG : Gd nt np r) (h6 : M 66 6 = -1) : ∃ v M', mT X 206 [.ref 66, .int a1, .int a2, .int a3] (con M) (some (.int v)) (con M') ∧ v = fLess r nt np a1 a2 a3 := by
  refine ti_of (row := _) rfl (Nat.le_of_ble_eq_true rfl) ?_
  have hm : mMet 206 = some _ := rfl
  have hV := hG.2.2.1
  have hn8 := hV.1
  have hp8 := hV.2.1
  have hW := hI.1
  have hnt : M 67 1 = nI nt := (congrFun h67 1).trans hG.1
  have hnp : M 67 2 = nI np := (congrFun h67 2).trans hG.2.1
  refine x_aload_n hm rfl rfl ?_
  refine x_iload_n hm rfl rfl ?_
  refine x_iload_n hm rfl rfl ?_
  refine x_iload_n hm rfl rfl ?_
  refine x_callV hm rfl rfl (gr202 hnt hn8 hnp) ?_
  refine x_if_ne hm rfl (t := 17) rfl (fun h1 => ?_) (fun h1 => ?_)
  · have hcd := bI_ne0 h1
    obtain ⟨a, ha, rfl⟩ := in_k rfl (by omega) hcd.1
    obtain ⟨b, hb, rfl⟩ := in_k rfl (by omega) hcd.2.1
    obtain ⟨y, hy, rfl⟩ := set_k hn8 hcd.2.2.2
    have hy8 : y < 256 := Nat.lt_of_lt_of_le hy (pow_k hn8)
    refine x_iconst hm rfl (v := nI 0) (by decide) ?_
    refine x_istore hm rfl rfl ?_
    refine x_iconst hm rfl (v := (-1 : Int32)) (by decide) ?_
    refine x_istore hm rfl rfl ?_
    refine x_iconst hm rfl (v := nI 0) (by decide) ?_
    refine x_istore hm rfl rfl ?_
    have hq : fLess r nt np (nI a) (nI b) (nI y) = (fo (sLs r nt a b y) (y + 1) (nI 0, -1)).1 := by
      unfold fLess
      rw [if_neg (by assumption)]
      rw [jI_nat (k := a) (by omega), jI_nat (k := b) (by omega), jI_nat (k := y) (by omega)]
    rw [hq]
    exact gr206l hW h6 h67 hV hnt ha hb hy8 _ 0 _ _ _ (Nat.lt_succ_self _) (Nat.zero_le _) rfl (by decide)
  · refine x_aload_n hm rfl rfl ?_
    refine x_ldcI hm rfl (v := (-1000001 : Int32)) (by decide) ?_
    refine x_callV hm rfl rfl (e135 (by decide)) ?_
    refine x_iret hm rfl rfl (by first | rfl | exact bI_nar | decide) ?_
    have hq : fLess r nt np a1 a2 a3 = -1000001 := by
      unfold fLess
      rw [if_pos (by assumption)]
    exact ⟨_, _, rfl, rfl, hq.symm⟩
theorem sEi_1 {a k : Nat} {s : Int32} (h : (¬ a = k ∧ sWth r a (sOwned r (nI a) nt).toNatClampNeg nt < sWth r a (sOwned r (nI k) nt).toNatClampNeg nt)) : sEi r nt a k s + nI 1 = sEi r nt a (k + 1) s := by
  show _ = sEi r nt a k s + (if (¬ a = k ∧ sWth r a (sOwned r (nI a) nt).toNatClampNeg nt < sWth r a (sOwned r (nI k) nt).toNatClampNeg nt) then nI 1 else nI 0)
  rw [if_pos h]
theorem sEi_0 {a k : Nat} {s : Int32} (h : ¬ (¬ a = k ∧ sWth r a (sOwned r (nI a) nt).toNatClampNeg nt < sWth r a (sOwned r (nI k) nt).toNatClampNeg nt)) : sEi r nt a k s + nI 0 = sEi r nt a (k + 1) s := by
  show _ = sEi r nt a k s + (if (¬ a = k ∧ sWth r a (sOwned r (nI a) nt).toNatClampNeg nt < sWth r a (sOwned r (nI k) nt).toNatClampNeg nt) then nI 1 else nI 0)
  rw [if_neg h]
theorem gv74i (hR : Rel 1 nt np M r) (hV : Vs nt np r) {a : Nat} (ha : a < np) {s0 : Int32} (hout : ∀ (s : Int32) (x3 x4 : Option Value), s = sEi r nt a np s0 → mEv X (QI (fun v _ => v = sEn r nt np np)) 74 4 [some (.ref 0), some (.int s), some (.int (nI (a + 1))), x3, x4] [] (con M)) : ∀ (n k : Nat) (s : Int32), np - k < n → k ≤ np → s = sEi r nt a k s0 → mEv X (QI (fun v _ => v = sEn r nt np np)) 74 35 [some (.ref 0), some (.int s), some (.int (nI a)), some (.int (sWth r a (sOwned r (nI a) nt).toNatClampNeg nt)), some (.int (nI k))] [] (con M) := by
  have hm : mMet 74 = some _ := rfl
  intro n
  induction n with
  | zero =>
    intro k s hkn hkb hs
    omega
  | succ n ih =>
    intro k s hkn hkb hs
    have hn8 := hV.1
    have hp8 := hV.2.1
    refine x_iload hm rfl rfl ?_
    refine x_aload_n hm rfl rfl ?_
    refine x_getf hm rfl (gR rfl rfl) ?_
    refine x_getf hm rfl (gI rfl rfl) ?_
    rw [hR.2.1]
    refine x_icmp_ge hm rfl (t := 83) rfl (fun h1 => ?_) (fun h1 => ?_)
    · obtain rfl : k = np := Nat.le_antisymm hkb ((jI_le (by omega) (by omega)).mp h1)
      refine x_iinc hm rfl rfl (v := nI 1) (by decide) rfl ?_
      rw [jI_add]
      refine x_goto hm rfl (t := 4) rfl ?_
      exact hout _ _ _ hs
    · have hk : k < np := Nat.lt_of_not_le fun h => h1 (nI_le h (by omega))
      obtain ⟨ok, hok, eok⟩ := sOwned_k r (nI k) nt hn8
      have hok8 : ok < 256 := Nat.lt_of_lt_of_le hok (pow_k hn8)
      have eok2 : (sOwned r (nI k) nt).toNatClampNeg = ok := by rw [eok, jI_nat (by omega)]
      refine x_iload hm rfl rfl ?_
      refine x_iload_n hm rfl rfl ?_
      refine x_icmp_eq hm rfl (t := 77) rfl (fun h2 => ?_) (fun h2 => ?_)
      · have hno : ¬ (¬ a = k ∧ sWth r a (sOwned r (nI a) nt).toNatClampNeg nt < sWth r a (sOwned r (nI k) nt).toNatClampNeg nt) := fun z => z.1 (jI_inj (by omega) (by omega) h2).symm
        refine x_iinc hm rfl rfl (v := nI 1) (by decide) rfl ?_
        rw [jI_add]
        refine x_goto hm rfl (t := 35) rfl ?_
        first
          | exact ih _ _ (by omega) (by omega) (by rw [hs]; exact sEi_1 hyes)
          | exact ih _ _ (by omega) (by omega) (by rw [hs]; exact addz.trans (sEi_0 hno))
      · have hne : ¬ a = k := fun e => h2 (by rw [e])
        refine x_aload_n hm rfl rfl ?_
        refine x_getf hm rfl (gR rfl rfl) ?_
        refine x_iload_n hm rfl rfl ?_
        refine x_aload_n hm rfl rfl ?_
        refine x_getf hm rfl (gR rfl rfl) ?_
        refine x_iload hm rfl rfl ?_
        refine x_callV hm rfl rfl (e25 (by decide) hR hV) ?_
        rw [eok]
        refine x_callV hm rfl rfl (gv67 hR hV ha hok8) ?_
        refine x_iload_n hm rfl rfl ?_
        refine x_icmp_le hm rfl (t := 77) rfl (fun h3 => ?_) (fun h3 => ?_)
        · have hno : ¬ (¬ a = k ∧ sWth r a (sOwned r (nI a) nt).toNatClampNeg nt < sWth r a (sOwned r (nI k) nt).toNatClampNeg nt) := fun z => by
            have z2 := z.2
            rw [eok2] at z2
            exact absurd z2 (Int32.not_lt.mpr h3)
          refine x_iinc hm rfl rfl (v := nI 1) (by decide) rfl ?_
          rw [jI_add]
          refine x_goto hm rfl (t := 35) rfl ?_
          first
            | exact ih _ _ (by omega) (by omega) (by rw [hs]; exact sEi_1 hyes)
            | exact ih _ _ (by omega) (by omega) (by rw [hs]; exact addz.trans (sEi_0 hno))
        · have hyes : (¬ a = k ∧ sWth r a (sOwned r (nI a) nt).toNatClampNeg nt < sWth r a (sOwned r (nI k) nt).toNatClampNeg nt) := ⟨hne, by rw [eok2]; exact Int32.not_le.mp h3⟩
          refine x_iinc hm rfl rfl (v := nI 1) (by decide) rfl ?_
          refine x_iinc hm rfl rfl (v := nI 1) (by decide) rfl ?_
          rw [jI_add]
          refine x_goto hm rfl (t := 35) rfl ?_
          first
            | exact ih _ _ (by omega) (by omega) (by rw [hs]; exact sEi_1 hyes)
            | exact ih _ _ (by omega) (by omega) (by rw [hs]; exact addz.trans (sEi_0 hno))
theorem gv74l (hR : Rel 1 nt np M r) (hV : Vs nt np r) : ∀ (n a : Nat) (s : Int32) (x3 x4 : Option Value), np - a < n → a ≤ np → s = sEn r nt np a → mEv X (QI (fun v _ => v = sEn r nt np np)) 74 4 [some (.ref 0), some (.int s), some (.int (nI a)), x3, x4] [] (con M) := by
  have hm : mMet 74 = some _ := rfl
  intro n
  induction n with
  | zero =>
    intro a s x3 x4 hkn hkb hs
    omega
  | succ n ih =>
    intro a s x3 x4 hkn hkb hs
    have hn8 := hV.1
    have hp8 := hV.2.1
    refine x_iload_n hm rfl rfl ?_
    refine x_aload_n hm rfl rfl ?_
    refine x_getf hm rfl (gR rfl rfl) ?_
    refine x_getf hm rfl (gI rfl rfl) ?_
    rw [hR.2.1]
    refine x_icmp_ge hm rfl (t := 89) rfl (fun h1 => ?_) (fun h1 => ?_)
    · obtain rfl : a = np := Nat.le_antisymm hkb ((jI_le (by omega) (by omega)).mp h1)
      refine x_iload_n hm rfl rfl ?_
      refine x_iret hm rfl rfl (by first | rfl | exact bI_nar | decide) ?_
      exact ⟨_, _, rfl, rfl, hs⟩
    · have ha : a < np := Nat.lt_of_not_le fun h => h1 (nI_le h (by omega))
      obtain ⟨oa, hoa, eoa⟩ := sOwned_k r (nI a) nt hn8
      have hoa8 : oa < 256 := Nat.lt_of_lt_of_le hoa (pow_k hn8)
      have eoa2 : (sOwned r (nI a) nt).toNatClampNeg = oa := by rw [eoa, jI_nat (by omega)]
      refine x_aload_n hm rfl rfl ?_
      refine x_getf hm rfl (gR rfl rfl) ?_
      refine x_iload_n hm rfl rfl ?_
      refine x_aload_n hm rfl rfl ?_
      refine x_getf hm rfl (gR rfl rfl) ?_
      refine x_iload_n hm rfl rfl ?_
      refine x_callV hm rfl rfl (e25 (by decide) hR hV) ?_
      rw [eoa]
      refine x_callV hm rfl rfl (gv67 hR hV ha hoa8) ?_
      rw [show sWth r a oa nt = sWth r a (sOwned r (nI a) nt).toNatClampNeg nt by rw [eoa2]]
      refine x_istore_n hm rfl rfl ?_
      refine x_iconst hm rfl (v := nI 0) (by decide) ?_
      refine x_istore hm rfl rfl ?_
      exact gv74i hR hV ha (s0 := s) (fun s2 x3 x4 e => ih (a + 1) s2 x3 x4 (by omega) (by omega) (by rw [e, hs]; rfl)) _ 0 _ (Nat.lt_succ_self _) (Nat.zero_le _) rfl
theorem gv74  (hR : Rel 1 nt np M r) (hG : Gd nt np r) (hc : M 1 7 = -1) : ∃ v M', mT X 74 [.ref 0] (con M) (some (.int v)) (con M') ∧ v = sEn r nt np np := by
  refine ti_of (row := _) rfl (Nat.le_of_ble_eq_true rfl) ?_
  have hm : mMet 74 = some _ := rfl
  have hV := hG.2.2.1
  have hn8 := hV.1
  have hp8 := hV.2.1
  refine x_iconst hm rfl (v := nI 0) (by decide) ?_
  refine x_istore_n hm rfl rfl ?_
  refine x_iconst hm rfl (v := nI 0) (by decide) ?_
  refine x_istore_n hm rfl rfl ?_
  exact gv74l hR hV _ 0 _ _ _ (Nat.lt_succ_self _) (Nat.zero_le _) rfl
theorem gr207i (hW : Wf M) (h6 : M 66 6 = -1) (h67 : M 67 = r) (hV : Vs nt np r) (hnt : M 67 1 = nI nt) (hnp : M 67 2 = nI np) {a : Nat} (ha : a < np) {s0 : Int32} (hout : ∀ (s : Int32) (x3 : Option Value), s = sEi r nt a np s0 → mEv X (QI (fun v _ => v = sEn r nt np np)) 207 4 [some (.ref 66), some (.int s), some (.int (nI (a + 1))), x3] [] (con M)) : ∀ (n k : Nat) (s : Int32), np - k < n → k ≤ np → s = sEi r nt a k s0 → mEv X (QI (fun v _ => v = sEn r nt np np)) 207 16 [some (.ref 66), some (.int s), some (.int (nI a)), some (.int (nI k))] [] (con M) := by
  have hm : mMet 207 = some _ := rfl
  intro n
  induction n with
  | zero =>
    intro k s hkn hkb hs
    omega
  | succ n ih =>
    intro k s hkn hkb hs
    have hn8 := hV.1
    have hp8 := hV.2.1
    refine x_iload_n hm rfl rfl ?_
    refine x_aload_n hm rfl rfl ?_
    refine x_getf hm rfl (gR rfl rfl) ?_
    refine x_iconst hm rfl (v := nI 2) (by decide) ?_
    refine x_iald hm rfl (lI rfl (by omega) (by decide)) ?_
    rw [hnp]
    refine x_icmp_ge hm rfl (t := 68) rfl (fun h1 => ?_) (fun h1 => ?_)
    · obtain rfl : k = np := Nat.le_antisymm hkb ((jI_le (by omega) (by omega)).mp h1)
      refine x_iinc hm rfl rfl (v := nI 1) (by decide) rfl ?_
      rw [jI_add]
      refine x_goto hm rfl (t := 4) rfl ?_
      exact hout _ _ hs
    · have hk : k < np := Nat.lt_of_not_le fun h => h1 (nI_le h (by omega))
      obtain ⟨ok, hok, eok⟩ := sOwned_k r (nI k) nt hn8
      have hok8 : ok < 256 := Nat.lt_of_lt_of_le hok (pow_k hn8)
      have eok2 : (sOwned r (nI k) nt).toNatClampNeg = ok := by rw [eok, jI_nat (by omega)]
      obtain ⟨oa, hoa, eoa⟩ := sOwned_k r (nI a) nt hn8
      have hoa8 : oa < 256 := Nat.lt_of_lt_of_le hoa (pow_k hn8)
      have eoa2 : (sOwned r (nI a) nt).toNatClampNeg = oa := by rw [eoa, jI_nat (by omega)]
      refine x_iload_n hm rfl rfl ?_
      refine x_iload_n hm rfl rfl ?_
      refine x_iload_n hm rfl rfl ?_
      refine x_icmp_eq hm rfl (t := 59) rfl (fun h2 => ?_) (fun h2 => ?_)
      · have hno : ¬ (¬ a = k ∧ sWth r a (sOwned r (nI a) nt).toNatClampNeg nt < sWth r a (sOwned r (nI k) nt).toNatClampNeg nt) := fun z => z.1 (jI_inj (by omega) (by omega) h2)
        refine x_iconst hm rfl (v := nI 0) (by decide) ?_
        refine x_iadd hm rfl ?_
        refine x_istore_n hm rfl rfl ?_
        refine x_iinc hm rfl rfl (v := nI 1) (by decide) rfl ?_
        rw [jI_add]
        refine x_goto hm rfl (t := 16) rfl ?_
        first
          | exact ih _ _ (by omega) (by omega) (by rw [hs]; exact sEi_1 hyes)
          | exact ih _ _ (by omega) (by omega) (by rw [hs]; exact sEi_0 hno)
      · have hne : ¬ a = k := fun e => h2 (by rw [e])
        refine x_aload_n hm rfl rfl ?_
        refine x_iload_n hm rfl rfl ?_
        refine x_aload_n hm rfl rfl ?_
        refine x_iload_n hm rfl rfl ?_
        refine x_callV hm rfl rfl (e160 hnt hn8) ?_
        rw [h67, eok]
        refine x_callV hm rfl rfl (gr200 hW h6 h67 hV hnt ha hok8) ?_
        refine x_aload_n hm rfl rfl ?_
        refine x_iload_n hm rfl rfl ?_
        refine x_aload_n hm rfl rfl ?_
        refine x_iload_n hm rfl rfl ?_
        refine x_callV hm rfl rfl (e160 hnt hn8) ?_
        rw [h67, eoa]
        refine x_callV hm rfl rfl (gr200 hW h6 h67 hV hnt ha hoa8) ?_
        refine x_icmp_le hm rfl (t := 59) rfl (fun h3 => ?_) (fun h3 => ?_)
        · have hno : ¬ (¬ a = k ∧ sWth r a (sOwned r (nI a) nt).toNatClampNeg nt < sWth r a (sOwned r (nI k) nt).toNatClampNeg nt) := fun z => by
            have z2 := z.2
            rw [eok2, eoa2] at z2
            exact absurd z2 (Int32.not_lt.mpr h3)
          refine x_iconst hm rfl (v := nI 0) (by decide) ?_
          refine x_iadd hm rfl ?_
          refine x_istore_n hm rfl rfl ?_
          refine x_iinc hm rfl rfl (v := nI 1) (by decide) rfl ?_
          rw [jI_add]
          refine x_goto hm rfl (t := 16) rfl ?_
          first
            | exact ih _ _ (by omega) (by omega) (by rw [hs]; exact sEi_1 hyes)
            | exact ih _ _ (by omega) (by omega) (by rw [hs]; exact sEi_0 hno)
        · have hyes : (¬ a = k ∧ sWth r a (sOwned r (nI a) nt).toNatClampNeg nt < sWth r a (sOwned r (nI k) nt).toNatClampNeg nt) := ⟨hne, by rw [eok2, eoa2]; exact Int32.not_le.mp h3⟩
          refine x_iconst hm rfl (v := nI 1) (by decide) ?_
          refine x_goto hm rfl (t := 60) rfl ?_
          refine x_iadd hm rfl ?_
          refine x_istore_n hm rfl rfl ?_
          refine x_iinc hm rfl rfl (v := nI 1) (by decide) rfl ?_
          rw [jI_add]
          refine x_goto hm rfl (t := 16) rfl ?_
          first
            | exact ih _ _ (by omega) (by omega) (by rw [hs]; exact sEi_1 hyes)
            | exact ih _ _ (by omega) (by omega) (by rw [hs]; exact sEi_0 hno)
theorem gr207l (hW : Wf M) (h6 : M 66 6 = -1) (h67 : M 67 = r) (hV : Vs nt np r) (hnt : M 67 1 = nI nt) (hnp : M 67 2 = nI np) : ∀ (n a : Nat) (s : Int32) (x3 : Option Value), np - a < n → a ≤ np → s = sEn r nt np a → mEv X (QI (fun v _ => v = sEn r nt np np)) 207 4 [some (.ref 66), some (.int s), some (.int (nI a)), x3] [] (con M) := by
  have hm : mMet 207 = some _ := rfl
  intro n
  induction n with
  | zero =>
    intro a s x3 hkn hkb hs
    omega
  | succ n ih =>
    intro a s x3 hkn hkb hs
    have hn8 := hV.1
    have hp8 := hV.2.1
    refine x_iload_n hm rfl rfl ?_
    refine x_aload_n hm rfl rfl ?_
    refine x_getf hm rfl (gR rfl rfl) ?_
    refine x_iconst hm rfl (v := nI 2) (by decide) ?_
    refine x_iald hm rfl (lI rfl (by omega) (by decide)) ?_
    rw [hnp]
    refine x_icmp_ge hm rfl (t := 74) rfl (fun h1 => ?_) (fun h1 => ?_)
    · obtain rfl : a = np := Nat.le_antisymm hkb ((jI_le (by omega) (by omega)).mp h1)
      refine x_iload_n hm rfl rfl ?_
      refine x_iret hm rfl rfl (by first | rfl | exact bI_nar | decide) ?_
      exact ⟨_, _, rfl, rfl, hs⟩
    · have ha : a < np := Nat.lt_of_not_le fun h => h1 (nI_le h (by omega))
      refine x_iconst hm rfl (v := nI 0) (by decide) ?_
      refine x_istore_n hm rfl rfl ?_
      exact gr207i hW h6 h67 hV hnt hnp ha (s0 := s) (fun s2 x3 e => ih (a + 1) s2 x3 (by omega) (by omega) (by rw [e, hs]; rfl)) _ 0 _ (Nat.lt_succ_self _) (Nat.zero_le _) rfl
theorem gr207  (hI : Inv M) (h67 : M 67 = r) (hG : Gd nt np r) (h6 : M 66 6 = -1) : ∃ v M', mT X 207 [.ref 66] (con M) (some (.int v)) (con M') ∧ v = sEn r nt np np := by
  refine ti_of (row := _) rfl (Nat.le_of_ble_eq_true rfl) ?_
  have hm : mMet 207 = some _ := rfl
  have hV := hG.2.2.1
  have hn8 := hV.1
  have hp8 := hV.2.1
  have hW := hI.1
  have hnt : M 67 1 = nI nt := (congrFun h67 1).trans hG.1
  have hnp : M 67 2 = nI np := (congrFun h67 2).trans hG.2.1
  refine x_iconst hm rfl (v := nI 0) (by decide) ?_
  refine x_istore_n hm rfl rfl ?_
  refine x_iconst hm rfl (v := nI 0) (by decide) ?_
  refine x_istore_n hm rfl rfl ?_
  exact gr207l hW h6 h67 hV hnt hnp _ 0 _ _ (Nat.lt_succ_self _) (Nat.zero_le _) rfl
theorem gv62l (hR : Rel 1 nt np M r) (hV : Vs nt np r) {t : Nat} : ∀ (n k : Nat) (u : Int32), 8 - k < n → k ≤ 8 → (u = -1 ∨ ∃ w, w < nt ∧ u = nI w) → sDep r 8 (nI 0) (r (14 + 6 * t + 5)) = sDep r (8 - k) (nI k) u → mEv X (fun z D => z = some (.int (sDep r 8 (nI 0) (r (14 + 6 * t + 5)))) ∧ D = con M) 62 11 [some (.ref 1), some (.int (nI t)), some (.int (nI k)), some (.int u)] [] (con M) := by
  have hm : mMet 62 = some _ := rfl
  intro n
  induction n with
  | zero =>
    intro k u hkn hkb hu hq
    omega
  | succ n ih =>
    intro k u hkn hkb hu hq
    have hn8 := hV.1
    have hp8 := hV.2.1
    refine x_iload_n hm rfl rfl ?_
    refine x_bipush hm rfl (v := nI 8) (by decide) ?_
    refine x_icmp_ge hm rfl (t := 37) rfl (fun h1 => ?_) (fun h1 => ?_)
    · have hk8 : k = 8 := Nat.le_antisymm hkb ((jI_le (by decide) (by omega)).mp h1)
      have hq9 : sDep r 8 (nI 0) (r (14 + 6 * t + 5)) = nI k := by rw [hq, hk8]; rfl
      refine x_iload_n hm rfl rfl ?_
      refine x_iret hm rfl rfl (by first | rfl | exact bI_nar | decide) ?_
      rw [hq9]
      exact ⟨rfl, rfl⟩
    · have hk : k < 8 := Nat.lt_of_not_le fun h => h1 (nI_le h (by omega))
      have hst : sDep r (8 - k) (nI k) u = if u < 0 then nI k else sDep r (8 - (k + 1)) (nI k + nI 1) (r (14 + 6 * u.toNatClampNeg + 5)) := by rw [show 8 - k = (8 - (k + 1)) + 1 by omega]; rfl
      refine x_iload_n hm rfl rfl ?_
      refine x_iconst hm rfl (v := (-1 : Int32)) (by decide) ?_
      refine x_icmp_eq hm rfl (t := 37) rfl (fun h2 => ?_) (fun h2 => ?_)
      · have hq9 : sDep r 8 (nI 0) (r (14 + 6 * t + 5)) = nI k := hq.trans (hst.trans (if_pos (by rw [h2]; decide)))
        refine x_iload_n hm rfl rfl ?_
        refine x_iret hm rfl rfl (by first | rfl | exact bI_nar | decide) ?_
        rw [hq9]
        exact ⟨rfl, rfl⟩
      · obtain ⟨w, hw, rfl⟩ := hu.resolve_left h2
        have hq2 := hq.trans (hst.trans (if_neg (jI_nn (by omega))))
        rw [jI_nat (by omega), jI_add] at hq2
        refine x_iinc hm rfl rfl (v := nI 1) (by decide) rfl ?_
        rw [jI_add]
        refine x_aload_n hm rfl rfl ?_
        refine x_getf hm rfl (gR rfl rfl) ?_
        refine x_iconst hm rfl (v := nI 5) (by decide) ?_
        refine x_aald hm rfl (lQ _ (by decide) rfl rfl (by omega) (by decide)) ?_
        refine x_iload_n hm rfl rfl ?_
        refine x_iald hm rfl (lI rfl (by omega) (by decide)) ?_
        rw [show M 8 w = _ from hR.on hw]
        refine x_istore_n hm rfl rfl ?_
        refine x_goto hm rfl (t := 11) rfl ?_
        exact ih _ _ (by omega) (by omega) (hV.on hw) hq2
theorem gv62 (hR : Rel 1 nt np M r) (hV : Vs nt np r) {t : Nat} (ht : t < nt) : mT X 62 [.ref 1, .int (nI t)] (con M) (some (.int (sDep r 8 (nI 0) (r (14 + 6 * t + 5))))) (con M) := by
  refine mT.of (row := _) rfl (Nat.le_of_ble_eq_true rfl) ?_
  have hm : mMet 62 = some _ := rfl
  have hn8 := hV.1
  have hp8 := hV.2.1
  refine x_iconst hm rfl (v := nI 0) (by decide) ?_
  refine x_istore_n hm rfl rfl ?_
  refine x_aload_n hm rfl rfl ?_
  refine x_getf hm rfl (gR rfl rfl) ?_
  refine x_iconst hm rfl (v := nI 5) (by decide) ?_
  refine x_aald hm rfl (lQ _ (by decide) rfl rfl (by omega) (by decide)) ?_
  refine x_iload_n hm rfl rfl ?_
  refine x_iald hm rfl (lI rfl (by omega) (by decide)) ?_
  rw [show M 8 t = _ from hR.on ht]
  refine x_istore_n hm rfl rfl ?_
  exact gv62l hR hV _ 0 _ (Nat.lt_succ_self _) (Nat.zero_le _) (hV.on ht) rfl
theorem gv61 {a1 : Int32} (hR : Rel 1 nt np M r) (hG : Gd nt np r) (hc : M 1 7 = -1) : ∃ v M', mT X 61 [.ref 0, .int a1] (con M) (some (.int v)) (con M') ∧ v = fDep r nt np a1 := by
  refine ti_of (row := _) rfl (Nat.le_of_ble_eq_true rfl) ?_
  have hm : mMet 61 = some _ := rfl
  have hV := hG.2.2.1
  have hn8 := hV.1
  have hp8 := hV.2.1
  refine x_aload_n hm rfl rfl ?_
  refine x_getf hm rfl (gR rfl rfl) ?_
  refine x_iload_n hm rfl rfl ?_
  refine x_callV hm rfl rfl (t10 (by decide)) ?_
  rw [hR.1]
  refine x_if_eq hm rfl (t := 22) rfl (fun h1 => ?_) (fun h1 => ?_)
  · refine x_aload_n hm rfl rfl ?_
    refine x_ldcI hm rfl (v := (-1000001 : Int32)) (by decide) ?_
    refine x_cVi hm rfl rfl (t7 (by decide)) (fun v2 M2 r2 => ?_)
    refine x_iret hm rfl rfl (by first | rfl | exact bI_nar | decide) ?_
    first
      | (have hq : fDep r nt np a1 = -1000001 := by
           unfold fDep
           rw [if_pos (by assumption)]
         exact ⟨_, _, rfl, rfl, r2.1.trans hq.symm⟩)
      | (have hq : fDep r nt np (nI t) = sDep r 8 (nI 0) (r (14 + 6 * t + 5)) := by
           unfold fDep
           rw [if_neg (by assumption), jI_nat (by omega)]
         exact ⟨_, _, rfl, rfl, hq.symm⟩)
  · obtain ⟨t, ht, rfl⟩ := in_k rfl (by omega) (bI_ne0 h1)
    refine x_aload_n hm rfl rfl ?_
    refine x_getf hm rfl (gR rfl rfl) ?_
    refine x_iload_n hm rfl rfl ?_
    refine x_callV hm rfl rfl (gv62 hR hV ht) ?_
    refine x_goto hm rfl (t := 28) rfl ?_
    refine x_iret hm rfl rfl (by first | rfl | exact bI_nar | decide) ?_
    first
      | (have hq : fDep r nt np (nI t) = sDep r 8 (nI 0) (r (14 + 6 * t + 5)) := by
           unfold fDep
           rw [if_neg (by assumption), jI_nat (by omega)]
         exact ⟨_, _, rfl, rfl, hq.symm⟩)
      | (have hq : fDep r nt np a1 = -1000001 := by
           unfold fDep
           rw [if_pos (by assumption)]
         exact ⟨_, _, rfl, rfl, r0.1.trans hq.symm⟩)
theorem gr195l (h67 : M 67 = r) (hV : Vs nt np r) (hnt : M 67 1 = nI nt) {t : Nat} {rk : Nat → Nat} (hrk : ∀ t u, t < nt → u ≤ 7 → r (14 + 6 * t + 5) = nI u → u < nt ∧ rk u < rk t) : ∀ (n k : Nat) (u : Int32) (V : Nat), 8 - k < n → k ≤ 7 → V < 256 → c8 V = k + 1 → (u = -1 ∨ ∃ w, w < nt ∧ u = nI w ∧ ∀ v, V.testBit v = true → rk w < rk v) → sDep r 8 (nI 0) (r (14 + 6 * t + 5)) = sDep r (8 - k) (nI k) u → mEv X (QI (fun v _ => v = sDep r 8 (nI 0) (r (14 + 6 * t + 5)))) 195 24 [some (.ref 66), some (.int (nI t)), some (.int (nI k)), some (.int u)] [] (con M) := by
  have hm : mMet 195 = some _ := rfl
  intro n
  induction n with
  | zero =>
    intro k u V hkn hkb hV8 hc hu hq
    omega
  | succ n ih =>
    intro k u V hkn hkb hV8 hc hu hq
    have hn8 := hV.1
    have hp8 := hV.2.1
    have hst : sDep r (8 - k) (nI k) u = if u < 0 then nI k else sDep r (8 - (k + 1)) (nI k + nI 1) (r (14 + 6 * u.toNatClampNeg + 5)) := by rw [show 8 - k = (8 - (k + 1)) + 1 by omega]; rfl
    refine x_iload_n hm rfl rfl ?_
    refine x_if_lt hm rfl (t := 41) rfl (fun h1 => ?_) (fun h1 => ?_)
    · have hq9 : sDep r 8 (nI 0) (r (14 + 6 * t + 5)) = nI k := hq.trans (hst.trans (if_pos h1))
      refine x_iload_n hm rfl rfl ?_
      refine x_iret hm rfl rfl (by first | rfl | exact bI_nar | decide) ?_
      exact ⟨_, _, rfl, rfl, hq9.symm⟩
    · obtain ⟨w, hw, rfl, hlow⟩ := hu.resolve_left fun e => h1 (by rw [e]; decide)
      have hq2 := hq.trans (hst.trans (if_neg (jI_nn (by omega))))
      rw [jI_nat (by omega), jI_add] at hq2
      have hnw : V.testBit w = false := by
        rcases e : V.testBit w with _ | _
        · rfl
        · exact absurd (hlow w e) (Nat.lt_irrefl _)
      have hc2 := c8_or V hV8 w (by omega) hnw
      have hle := c8_le (s := V ||| 2 ^ w)
      have hu2 : r (14 + 6 * w + 5) = -1 ∨ ∃ w2, w2 < nt ∧ r (14 + 6 * w + 5) = nI w2 ∧ ∀ v, (V ||| 2 ^ w).testBit v = true → rk w2 < rk v := by
        rcases hV.on hw with e | ⟨w2, hw2, e⟩
        · exact Or.inl e
        · have g := (hrk w w2 hw (by omega) e).2
          refine Or.inr ⟨w2, hw2, e, fun v hv => ?_⟩
          rcases tb_or.mp hv with h8 | rfl
          · exact Nat.lt_trans g (hlow v h8)
          · exact g
      refine x_iinc hm rfl rfl (v := nI 1) (by decide) rfl ?_
      rw [jI_add]
      refine x_aload_n hm rfl rfl ?_
      refine x_iload_n hm rfl rfl ?_
      refine x_iconst hm rfl (v := nI 5) (by decide) ?_
      refine x_callV hm rfl rfl (t143 (by omega) (by omega)) ?_
      rw [h67]
      refine x_istore_n hm rfl rfl ?_
      refine x_goto hm rfl (t := 24) rfl ?_
      exact ih _ _ (V ||| 2 ^ w) (by omega) (by omega) (or_lt hV8 (by omega)) (by omega) hu2 hq2
theorem gr195 {a1 : Int32} (hI : Inv M) (h67 : M 67 = r) (hG : Gd nt np r) (h6 : M 66 6 = -1) : ∃ v M', mT X 195 [.ref 66, .int a1] (con M) (some (.int v)) (con M') ∧ v = fDep r nt np a1 := by
  refine ti_of (row := _) rfl (Nat.le_of_ble_eq_true rfl) ?_
  have hm : mMet 195 = some _ := rfl
  have hV := hG.2.2.1
  have hn8 := hV.1
  have hp8 := hV.2.1
  have hW := hI.1
  have hnt : M 67 1 = nI nt := (congrFun h67 1).trans hG.1
  have hnp : M 67 2 = nI np := (congrFun h67 2).trans hG.2.1
  refine x_aload_n hm rfl rfl ?_
  refine x_iload_n hm rfl rfl ?_
  refine x_callV hm rfl rfl (t139) ?_
  rw [hnt]
  refine x_if_ne hm rfl (t := 15) rfl (fun h1 => ?_) (fun h1 => ?_)
  · obtain ⟨t, ht, rfl⟩ := in_k rfl (by omega) (bI_ne0 h1)
    refine x_iconst hm rfl (v := nI 0) (by decide) ?_
    refine x_istore_n hm rfl rfl ?_
    refine x_aload_n hm rfl rfl ?_
    refine x_iload_n hm rfl rfl ?_
    refine x_iconst hm rfl (v := nI 5) (by decide) ?_
    refine x_callV hm rfl rfl (t143 (by omega) (by omega)) ?_
    rw [h67]
    refine x_istore_n hm rfl rfl ?_
    have hq : fDep r nt np (nI t) = sDep r 8 (nI 0) (r (14 + 6 * t + 5)) := by
      unfold fDep
      rw [if_neg (by assumption), jI_nat (by omega)]
    rw [hq]
    obtain ⟨rk, hrk⟩ := hI.2.1 nt hn8 hnt
    rw [h67] at hrk
    refine gr195l h67 hV hnt hrk _ 0 _ (2 ^ t) (Nat.lt_succ_self _) (Nat.zero_le _) (Nat.pow_lt_pow_right (n := 8) (by decide) (by omega)) (c8_one t (by omega)) ?_ rfl
    rcases hV.on ht with e | ⟨w, hw, e⟩
    · exact Or.inl e
    · refine Or.inr ⟨w, hw, e, fun v hv => ?_⟩
      rw [Nat.testBit_two_pow, decide_eq_true_iff] at hv
      subst hv
      exact (hrk t w ht (by omega) e).2
  · refine x_aload_n hm rfl rfl ?_
    refine x_ldcI hm rfl (v := (-1000001 : Int32)) (by decide) ?_
    refine x_callV hm rfl rfl (e135 (by decide)) ?_
    refine x_iret hm rfl rfl (by first | rfl | exact bI_nar | decide) ?_
    have hq : fDep r nt np a1 = -1000001 := by
      unfold fDep
      rw [if_pos (by assumption)]
    exact ⟨_, _, rfl, rfl, hq.symm⟩
theorem j_deal {a1 a2 a3 : Int32} (hJ : J M) : JJ X 68 201 [.ref 0, .int a1, .int a2, .int a3] [.ref 66, .int a1, .int a2, .int a3] M Eq := hJ.asi (F := fun r nt np => fDeal r nt np a1 a2 a3) (t68 hJ.1.1) (fun nt np hR g h7 => gv68 hR g h7) (fun M1 j => rq_of (t201 j.1)) (fun M1 nt np j k g => gr201 j.1 (k 67 (by decide)) g j.2.2.2.2.2.2)
theorem j_deals {a1 a2 a3 : Int32} (hJ : J M) : JJ X 72 204 [.ref 0, .int a1, .int a2, .int a3] [.ref 66, .int a1, .int a2, .int a3] M Eq := hJ.asi (F := fun r nt np => fDeals r nt np a1 a2 a3) (t72 hJ.1.1) (fun nt np hR g h7 => gv72 hR g h7) (fun M1 j => rq_of (t204 j.1)) (fun M1 nt np j k g => gr204 j.1 (k 67 (by decide)) g j.2.2.2.2.2.2)
theorem j_lesser {a1 a2 a3 : Int32} (hJ : J M) : JJ X 73 206 [.ref 0, .int a1, .int a2, .int a3] [.ref 66, .int a1, .int a2, .int a3] M Eq := hJ.asi (F := fun r nt np => fLess r nt np a1 a2 a3) (t73 hJ.1.1) (fun nt np hR g h7 => gv73 hR g h7) (fun M1 j => rq_of (t206 j.1)) (fun M1 nt np j k g => gr206 j.1 (k 67 (by decide)) g j.2.2.2.2.2.2)
theorem j_envious (hJ : J M) : JJ X 74 207 [.ref 0] [.ref 66] M Eq := hJ.asi (F := fun r nt np => sEn r nt np np) (t74 hJ.1.1) (fun nt np hR g h7 => gv74 hR g h7) (fun M1 j => rq_of (t207 j.1)) (fun M1 nt np j k g => gr207 j.1 (k 67 (by decide)) g j.2.2.2.2.2.2)
theorem j_depth {a1 : Int32} (hJ : J M) : JJ X 61 195 [.ref 0, .int a1] [.ref 66, .int a1] M Eq := hJ.asi (F := fun r nt np => fDep r nt np a1) (t61 hJ.1.1) (fun nt np hR g h7 => gv61 hR g h7) (fun M1 j => rq_of (t195 j.1)) (fun M1 nt np j k g => gr195 j.1 (k 67 (by decide)) g j.2.2.2.2.2.2)
end EX
