/-! ===== what the town does, over a row of numbers (as the reference has it: 0 day, 1 things, 2 people, 3 draw, 4.. spots, 14.. things, 62.. people) ===== -/
def fo {α : Type} (f : Nat → α → α) : Nat → α → α
  | 0, a => a
  | n + 1, a => f n (fo f n a)
theorem fo_c {α : Type} {f g : Nat → α → α} : ∀ (n : Nat) (a : α), (∀ k x, k < n → f k x = g k x) → fo f n a = fo g n a := by
  intro n
  induction n with
  | zero => intro a _; rfl
  | succ n ih =>
    intro a h
    show f n (fo f n a) = g n (fo g n a)
    rw [ih a fun k x hk => h k x (by omega), h n _ (Nat.lt_succ_self n)]
theorem fo_p {α : Type} {f : Nat → α → α} {P : α → Prop} : ∀ (n : Nat) (a : α), P a → (∀ k x, k < n → P x → P (f k x)) → P (fo f n a) := by
  intro n
  induction n with
  | zero => intro a h _; exact h
  | succ n ih =>
    intro a h hs
    exact hs n _ (Nat.lt_succ_self n) (ih a h fun k x hk hp => hs k x (by omega) hp)
/-- of or under a kind -/
def uo : Nat → Int32 → Int32 → Bool
  | 0, _, _ => false
  | f + 1, k, o => if k < 0 then false else if k = o then true else uo f (ab k) o
/-- one town's envy, by kind: plain, with what a rival adds -/
def sKd (k o th pl ri : Int32) : Int32 :=
  if k = nI 1 then pl / nI 2 else if k = nI 2 then ri else if k = nI 3 then ri - nI 3 else if k = nI 4 then ri - nI 3 + th / nI 100 else if k = nI 5 then nI 2 * pl else if k = nI 6 then (if o < 0 then nI 0 else pl / nI 2) else pl
def mx0 (v : Int32) : Int32 := if nI 0 < v then v else nI 0
def sPl (r : Nat → Int32) (p t : Nat) : Int32 := r (62 + 7 * p + (3 + (r (14 + 6 * t + 0)).toNatClampNeg)) - r (14 + 6 * t + 3)
def sRi (r : Nat → Int32) (o : Int32) (p t : Nat) : Int32 := if ¬ o < 0 ∧ uo 5 (r (62 + 7 * o.toNatClampNeg + 0)) (nI 2) = true then sPl r p t + nI 2 else sPl r p t
/-- envy for a thing with an owner as told, but none for one w -/
def sEnv (r : Nat → Int32) (w o : Int32) (p t : Nat) : Int32 :=
  if o = nI p ∨ r (14 + 6 * t + 2) = 0 ∨ nI p = w then nI 0 else mx0 (sKd (r (62 + 7 * p + 0)) o (r (14 + 6 * t + 2)) (sPl r p t) (sRi r o p t))
def mn2 (x y : Int32) : Int32 := if y < x then y else x
def sWs (r : Nat → Int32) (w : Int32) (t k : Nat) : Int32 := fo (fun p s => s + (if r (62 + 7 * p + 1) = r (14 + 6 * t + 1) then sEnv r w (r (14 + 6 * t + 4)) p t else nI 0)) k (nI 0)
def sWear (r : Nat → Int32) (w : Int32) (np t : Nat) : Int32 := mn2 (sWs r w t np) (r (14 + 6 * t + 2))
def bit (k : Nat) : Int32 := nI 1 <<< (nI k &&& 31)
def sGone (r : Nat → Int32) (n : Nat) : Int32 := fo (fun t s => s ||| (if r (14 + 6 * t + 2) = 0 then bit t else nI 0)) n (nI 0)
def sThick (r : Nat → Int32) (n : Nat) : Int32 := fo (fun t s => s + r (14 + 6 * t + 2)) n (nI 0)
def sOwned (r : Nat → Int32) (p : Int32) (n : Nat) : Int32 := fo (fun t s => s ||| (if r (14 + 6 * t + 4) = p then bit t else nI 0)) n (nI 0)
def sAtAny (r : Nat → Int32) (pl : Int32) (n : Nat) : Int32 := fo (fun p s => if s = nI 0 then (if r (62 + 7 * p + 1) = pl then nI 1 else nI 0) else nI 1) n (nI 0)
def put1 (r : Nat → Int32) (i : Nat) (v : Int32) : Nat → Int32 := fun j => if j = i then v else r j
def rem16 (x : Int32) : Int32 := x - x / nI 16 * nI 16
/-- worn all at once -/
def sWorn (r0 : Nat → Int32) (w : Int32) (np n : Nat) (r : Nat → Int32) : Nat → Int32 := fo (fun t q => put1 q (14 + 6 * t + 2) (q (14 + 6 * t + 2) - sWear r0 w np t)) n r
/-- one pass of the falling -/
def sFp1 (t : Nat) (q : (Nat → Int32) × Int32) : (Nat → Int32) × Int32 :=
  if ¬ q.1 (14 + 6 * t + 2) = 0 ∧ ¬ q.1 (14 + 6 * t + 5) < 0 ∧ q.1 (14 + 6 * (q.1 (14 + 6 * t + 5)).toNatClampNeg + 2) = 0 then (put1 q.1 (14 + 6 * t + 2) (nI 0), nI 1) else q
def sFp (n : Nat) (r : Nat → Int32) : (Nat → Int32) × Int32 := fo sFp1 n (r, nI 0)
def sFall (n : Nat) : Nat → (Nat → Int32) → (Nat → Int32)
  | 0, r => r
  | f + 1, r => if (sFp n r).2 = nI 0 then (sFp n r).1 else sFall n f (sFp n r).1
def sGo (np : Nat) (r : Nat → Int32) : Nat → Int32 := fo (fun p q => put1 q (62 + 7 * p + 1) (rem16 (q (62 + 7 * p + 1) + q (62 + 7 * p + 2)))) np r
def sTick (r : Nat → Int32) : Nat → Int32 := put1 r 0 (r 0 + nI 1)
def sDay (w : Int32) (nt np : Nat) (r : Nat → Int32) : Nat → Int32 := sTick (sGo np (sFall nt 8 (sWorn r w np nt r)))
def sDays (w : Int32) (nt np : Nat) (n : Nat) (r : Nat → Int32) : Nat → Int32 := fo (fun _ q => sDay w nt np q) n r
/-- n bits counted as the reference does it -/
def sBits : Nat → Int32 → Int32 → Int32
  | 0, s, _ => s
  | f + 1, s, l => if l = 0 then s else sBits f (s + nI 1) (l &&& (l - nI 1))
def sHas (s k : Int32) : Prop := (s >>> (k &&& 31)) &&& nI 1 = nI 1
theorem sHas_d (s k : Int32) : (sHas s k) = ((s >>> (k &&& 31)) &&& nI 1 = nI 1) := rfl
/-- whether u hangs on o, on whatever else (f steps at most) -/
def sOn (r : Nat → Int32) (o : Nat) : Nat → Int32 → Bool
  | 0, _ => false
  | f + 1, u => if u < 0 then false else if u = nI o then true else sOn r o f (r (14 + 6 * u.toNatClampNeg + 5))
def sFw (r : Nat → Int32) (o n : Nat) : Int32 := fo (fun u s => s ||| (if sOn r o 9 (nI u) = true then bit u else nI 0)) n (nI 0)
def sDep (r : Nat → Int32) : Nat → Int32 → Int32 → Int32
  | 0, s, _ => s
  | f + 1, s, u => if u < 0 then s else sDep r f (s + nI 1) (r (14 + 6 * u.toNatClampNeg + 5))
def sWorth (r : Nat → Int32) (p : Nat) (set : Int32) (n : Nat) : Int32 := fo (fun t s => s + (if (set >>> (nI t &&& 31)) &&& nI 1 = nI 1 then sEnv r (-1) (-1) p t else nI 0)) n (nI 0)
