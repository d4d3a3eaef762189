/-! ===== what is asked of what will be, more; the reference ===== -/
def sWo (r : Nat → Int32) (nt np n k : Nat) (z : Int32 × Int32) : Int32 × Int32 :=
  (if sThick r nt - sThick (sDays (nI k) nt np n r) nt < z.2 then nI k else z.1, mn2 z.2 (sThick r nt - sThick (sDays (nI k) nt np n r) nt))
def sNd (r : Nat → Int32) (w : Int32) (nt np n t k : Nat) (z : Int32) : Int32 := if 0 < sDays w nt np n (put1 r (14 + 6 * t + 3) (nI (9 - k))) (14 + 6 * t + 2) then nI (9 - k) else z
def sLa (w : Int32) (nt np t : Nat) : Nat → Nat → (Nat → Int32) → Int32
  | 0, n, r => if r (14 + 6 * t + 2) = 0 then nI n else -1
  | f + 1, n, r => if r (14 + 6 * t + 2) = 0 then nI n else sLa w nt np t f (n + 1) (sDay w nt np r)
def sSe (goal walk : Int32) : Nat → Nat → Int32 → Int32 × Bool
  | 0, _, _ => (-1000004, true)
  | f + 1, n, x => if x = goal then (nI n, false) else sSe goal walk f (n + 1) (rem16 (x + walk))
def qWorst (r : Nat → Int32) (nt np : Nat) (a1 : Int32) : Int32 × Bool := if bI (nI 0 ≤ a1 ∧ a1 ≤ nI 60) = 0 then (-1000001, true) else orN (fo (sWo r nt np a1.toNatClampNeg) np (-1, 2147483647)).1
def qNeeds (r : Nat → Int32) (nt np : Nat) (a1 a2 : Int32) : Int32 × Bool := if bI (nI 0 ≤ a1 ∧ a1 ≤ nI nt - nI 1) = 0 then (-1000001, true) else if bI (nI 0 ≤ a2 ∧ a2 ≤ nI 60) = 0 then (-1000001, true) else orN (fo (sNd r (-1) nt np a2.toNatClampNeg a1.toNatClampNeg) 10 (-1))
def qLasts (r : Nat → Int32) (nt np : Nat) (a1 : Int32) : Int32 × Bool := if bI (nI 0 ≤ a1 ∧ a1 ≤ nI nt - nI 1) = 0 then (-1000001, true) else orN (sLa (-1) nt np a1.toNatClampNeg 100 0 r)
def qSees (r : Nat → Int32) (nt np : Nat) (a1 a2 : Int32) : Int32 × Bool := if bI (nI 0 ≤ a1 ∧ a1 ≤ nI np - nI 1) = 0 then (-1000001, true) else if bI (nI 0 ≤ a2 ∧ a2 ≤ nI nt - nI 1) = 0 then (-1000001, true) else sSe (r (14 + 6 * a2.toNatClampNeg + 1)) (r (62 + 7 * a1.toNatClampNeg + 2)) 16 0 (r (62 + 7 * a1.toNatClampNeg + 1))
section EH
variable {X : mSc} {Q : Option Value → mHp → Prop} {M : mM}
end EH
