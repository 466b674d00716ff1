/-! a trial, the search -/
section RUN2
variable (cday urg waits bfrom bto byd szs lim lan han : XF) (n nc : Nat) (nob pac : Int32)
theorem sdG_r (k : Nat) {D : DS} (h : ¬ dsR D = 0) : sdG cday urg waits bfrom bto byd szs lim lan han n nc nob pac k D = D := by
  cases k with
  | zero => rfl
  | succ k => exact if_neg h
theorem sdG_s (k : Nat) {D : DS} (h : dsR D = 0) : sdG cday urg waits bfrom bto byd szs lim lan han n nc nob pac (k + 1) D = sdG cday urg waits bfrom bto byd szs lim lan han n nc nob pac k (st1 cday urg waits bfrom bto byd szs lim lan han n nc nob pac D) := if_pos h
theorem UV_rs (D : DS) : UV n (dsC (rs1 D)) := ⟨Nat.zero_le _, fun t h => absurd h (Nat.not_lt_zero t)⟩
def ctD (D : DS) : Nat := cnt (fun b => thP (csP (dsC D)) (csD (dsC D)) (dn (dsJ D)) b) n
/-- days without reasons, given up as soon as the bound is reached -/
def sbG (bound : Int32) : Nat → DS → Int32 → DS × Bool
  | 0, D, _ => (D, false)
  | k + 1, D, cd =>
    if dsR D = 0 then
      if ¬ bound = -1 ∧ ¬ cd + nI (ctD n (nd1 cday urg waits bfrom bto byd szs lim lan han n nc nob pac D)) < bound then (nd1 cday urg waits bfrom bto byd szs lim lan han n nc nob pac D, true)
      else sbG bound k (nd1 cday urg waits bfrom bto byd szs lim lan han n nc nob pac D) (cd + nI (ctD n (nd1 cday urg waits bfrom bto byd szs lim lan han n nc nob pac D)))
    else (D, false)
theorem sbG_r (bound : Int32) (k : Nat) {D : DS} {cd : Int32} (h : ¬ dsR D = 0) : sbG cday urg waits bfrom bto byd szs lim lan han n nc nob pac bound k D cd = (D, false) := by
  cases k with
  | zero => rfl
  | succ k => exact if_neg h
theorem sbG_t {bound : Int32} (k : Nat) {D : DS} {cd : Int32} (h : dsR D = 0) (h1 : ¬ bound = -1) (h2 : ¬ cd + nI (ctD n (nd1 cday urg waits bfrom bto byd szs lim lan han n nc nob pac D)) < bound) : sbG cday urg waits bfrom bto byd szs lim lan han n nc nob pac bound (k + 1) D cd = (nd1 cday urg waits bfrom bto byd szs lim lan han n nc nob pac D, true) := (if_pos h).trans (if_pos ⟨h1, h2⟩)
theorem sbG_n {bound : Int32} (k : Nat) {D : DS} {cd : Int32} (h : dsR D = 0) (h1 : bound = -1 ∨ cd + nI (ctD n (nd1 cday urg waits bfrom bto byd szs lim lan han n nc nob pac D)) < bound) : sbG cday urg waits bfrom bto byd szs lim lan han n nc nob pac bound (k + 1) D cd = sbG cday urg waits bfrom bto byd szs lim lan han n nc nob pac bound k (nd1 cday urg waits bfrom bto byd szs lim lan han n nc nob pac D) (cd + nI (ctD n (nd1 cday urg waits bfrom bto byd szs lim lan han n nc nob pac D))) := (if_pos h).trans (if_neg (fun z => h1.elim z.1 z.2))
def sbE (bound : Int32) (D : DS) : DS × Bool := sbG cday urg waits bfrom bto byd szs lim lan han n nc nob pac bound 3001 (rs1 D) 0
/-- the answer of a trial -/
def sbA (E : DS × Bool) : Int32 := if E.2 = true then -1 else if cnt (fun b => csP (dsC E.1) b = 10) n = n then sumI (agF (csD (dsC E.1)) cday) n else -1
end RUN2
/-- the next limits, columns j - 1 down -/
def gnF (m : Int32) : XF → Nat → XF
  | b, 0 => b
  | b, j + 1 => if m ≤ b j then gnF m (upd b j 1) j else upd b j (b j + 1)
/-- the search: the trial's limits, its run, the least sum, its limits -/
abbrev SS : Type := XF × DS × Int32 × XF
def ssT (S : SS) : XF := S.1
def ssD (S : SS) : DS := S.2.1
def ssM (S : SS) : Int32 := S.2.2.1
def ssL (S : SS) : XF := S.2.2.2
section SEA
variable (cday urg waits bfrom bto byd szs lan han : XF) (n nc : Nat) (nob pac : Int32)
def fuE (S : SS) : DS × Bool := sbE cday urg waits bfrom bto byd szs (ssT S) lan han n nc nob pac (ssM S) (ssD S)
def fuB (m : Int32) (S : SS) (_ : Nat) : SS :=
  if sbA cday n (fuE cday urg waits bfrom bto byd szs lan han n nc nob pac S) = -1 then (gnF m (ssT S) nc, (fuE cday urg waits bfrom bto byd szs lan han n nc nob pac S).1, ssM S, ssL S)
  else (gnF m (ssT S) nc, (fuE cday urg waits bfrom bto byd szs lan han n nc nob pac S).1, sbA cday n (fuE cday urg waits bfrom bto byd szs lan han n nc nob pac S), va_cpy (ssT S) (ssL S) 0 0 4)
end SEA
theorem pw4 {m n : Nat} (hm : m ≤ 4) (hn : n ≤ 4) : m ^ n ≤ 256 := Nat.le_trans (Nat.pow_le_pow_left hm n) (Nat.le_trans (Nat.pow_le_pow_right (by omega) hn) (by decide))
