/-! the reference whole -/
abbrev MM : Type := (Nat × Nat × XF × XF × XF × XF × XF × XF) × RU × RU × (XF × XF × XF × Int32 × Int32) × RS × XF × XF × Int32 × Int32 × Int32 × XF
def gK (g : MM) : Nat := g.1.1
def gN (g : MM) : Nat := g.1.2.1
def gDay (g : MM) : XF := g.1.2.2.1
def gUrg (g : MM) : XF := g.1.2.2.2.1
def gSzs (g : MM) : XF := g.1.2.2.2.2.1
def gWai (g : MM) : XF := g.1.2.2.2.2.2.1
def gFro (g : MM) : XF := g.1.2.2.2.2.2.2.1
def gBto (g : MM) : XF := g.1.2.2.2.2.2.2.2
def gLl (g : MM) : XF := g.2.1.1
def gLn (g : MM) : XF := g.2.1.2.1
def gLh (g : MM) : XF := g.2.1.2.2.1
def gLp (g : MM) : Int32 := g.2.1.2.2.2
def gOl (g : MM) : XF := g.2.2.1.1
def gOn (g : MM) : XF := g.2.2.1.2.1
def gOh (g : MM) : XF := g.2.2.1.2.2.1
def gOp (g : MM) : Int32 := g.2.2.1.2.2.2
def gRl (g : MM) : XF := g.2.2.2.1.1
def gRn (g : MM) : XF := g.2.2.2.1.2.1
def gRh (g : MM) : XF := g.2.2.2.1.2.2.1
def gRp (g : MM) : Int32 := g.2.2.2.1.2.2.2.1
def gRa (g : MM) : Int32 := g.2.2.2.1.2.2.2.2
def gZ (g : MM) : RS := g.2.2.2.2.1
def gHp (g : MM) : XF := g.2.2.2.2.2.1
def gHq (g : MM) : XF := g.2.2.2.2.2.2.1
def gFr (g : MM) : Int32 := g.2.2.2.2.2.2.2.1
def gBu (g : MM) : Int32 := g.2.2.2.2.2.2.2.2.1
def gBs (g : MM) : Int32 := g.2.2.2.2.2.2.2.2.2.1
def gBo (g : MM) : XF := g.2.2.2.2.2.2.2.2.2.2
def GI (g : MM) : Prop := gN g ≤ 16 ∧ gK g ≤ 4 ∧ (∀ t, t < gN g → ¬ gWai g t < 0 → vp_in (gWai g t) 16) ∧ ∀ t, t < gN g → ∃ e, e ≤ 99 ∧ gDay g t = nI e
def goX (u : Bool) (o b : XF) : XF := fun j => if u = true then toR (o j) (b j) else b j
def g0f (g : MM) : MM := (g.1, g.2.1, g.2.2.1, g.2.2.2.1, g.2.2.2.2.1, gHp g, gHq g, 0, gBu g, gBs g, gBo g)
def msaF (m : Nat) (g : MM) : MM := g0f ((m, 0, gDay g, gUrg g, gSzs g, gWai g, gFro g, gBto g), (fl (gLl g) 3 4, fl (gLn g) 1 4, fl (gLh g) 2 4, 1), (fl (gOl g) (-1) 4, fl (gOn g) (-1) 4, fl (gOh g) (-1) 4, -1), g.2.2.2)
def mcsF (v : Int32) (g : MM) : MM := if wiP v 1 4 then msaF v.toNatClampNeg g else g
abbrev coQ (k x y z : Int32) (nc : Nat) : Prop := inC k (nI nc) ∧ wiP x 0 20 ∧ wiP y 0 5 ∧ wiP z 0 20
def mcoT (k : Nat) (x y z : Int32) (g : MM) : MM := g0f (g.1, (upd (gLl g) k x, upd (gLn g) k y, upd (gLh g) k z, gLp g), (upd (gOl g) k (-1), upd (gOn g) k (-1), upd (gOh g) k (-1), gOp g), g.2.2.2)
def mcoF (k x y z : Int32) (g : MM) : MM := if coQ k x y z (gK g) then mcoT k.toNatClampNeg x y z g else g
def mpaT (v : Int32) (g : MM) : MM := g0f (g.1, (gLl g, gLn g, gLh g, v), g.2.2)
def mpaF (v : Int32) (g : MM) : MM := if wiP v 1 9 then mpaT v g else g
abbrev adQ (v : Int32) (n : Nat) : Prop := wiP v 0 99 ∧ ¬ n = 16
def sz5 (f : XF) (c : Nat) : Nat → XF | 0 => f | i + 1 => upd (sz5 f c i) (4 * c + i) 1
def madT (v : Int32) (u : Bool) (g : MM) : MM := g0f ((gK g, gN g + 1, upd (gDay g) (gN g) v, upd (gUrg g) (gN g) (b2 (u = true)), sz5 (gSzs g) (gN g) 4, upd (gWai g) (gN g) (-1), upd (gFro g) (gN g) (-1), upd (gBto g) (gN g) (-1)), g.2)
def madF (v : Int32) (u : Bool) (g : MM) : MM := if adQ v (gN g) then madT v u g else g
def madA (v : Int32) (g : MM) : Int32 := if adQ v (gN g) then nI (gN g) else -1
abbrev szQ (c k v : Int32) (n nc : Nat) : Prop := inC c (nI n) ∧ inC k (nI nc) ∧ wiP v 0 9
def mszT (c k : Nat) (v : Int32) (g : MM) : MM := g0f ((gK g, gN g, gDay g, gUrg g, upd (gSzs g) (4 * c + k) v, gWai g, gFro g, gBto g), g.2)
def mszF (c k v : Int32) (g : MM) : MM := if szQ c k v (gN g) (gK g) then mszT c.toNatClampNeg k.toNatClampNeg v g else g
abbrev waQ (c v : Int32) (n : Nat) : Prop := inC c (nI n) ∧ wiP v (-1) (c - 1)
def mwaT (c : Nat) (v : Int32) (g : MM) : MM := g0f ((gK g, gN g, gDay g, gUrg g, gSzs g, upd (gWai g) c v, gFro g, gBto g), g.2)
def mwaF (c v : Int32) (g : MM) : MM := if waQ c v (gN g) then mwaT c.toNatClampNeg v g else g
abbrev baQ (c r q : Int32) (n nc : Nat) : Prop := inC c (nI n) ∧ (r = -1 ∨ inC r (nI nc) ∧ wiP q 0 (r - 1))
def mbaT (c : Nat) (r q : Int32) (g : MM) : MM := g0f ((gK g, gN g, gDay g, gUrg g, gSzs g, gWai g, upd (gFro g) c r, upd (gBto g) c (if r = -1 then -1 else q)), g.2)
def mbaF (c r q : Int32) (g : MM) : MM := if baQ c r q (gN g) (gK g) then mbaT c.toNatClampNeg r q g else g
def mo0 (k : Nat) (v : Int32) (g : MM) : MM := (g.1, g.2.1, (upd (gOl g) k v, gOn g, gOh g, gOp g), g.2.2.2)
def mo1 (k : Nat) (v : Int32) (g : MM) : MM := (g.1, g.2.1, (gOl g, upd (gOn g) k v, gOh g, gOp g), g.2.2.2)
def mo2 (k : Nat) (v : Int32) (g : MM) : MM := (g.1, g.2.1, (gOl g, gOn g, upd (gOh g) k v, gOp g), g.2.2.2)
def mo3 (v : Int32) (g : MM) : MM := (g.1, g.2.1, (gOl g, gOn g, gOh g, v), g.2.2.2)
def motF (what k v : Int32) (g : MM) : MM := if moP what k v (gK g) then (if what = 0 then mo0 k.toNatClampNeg v g else if what = 1 then mo1 k.toNatClampNeg v g else if what = 2 then mo2 k.toNatClampNeg v g else mo3 v g) else g
theorem ot_c (what : Int32) : what = 0 ∨ what = 1 ∨ what = 2 ∨ what = 3 ∨ ¬ wiP what 0 3 := by
  by_cases h : wiP what 0 3
  · obtain ⟨h1, h2, h3⟩ := wi_in (a := 0) (N := 3) h (by omega) (by omega)
    rcases (show what.toNatClampNeg = 0 ∨ what.toNatClampNeg = 1 ∨ what.toNatClampNeg = 2 ∨ what.toNatClampNeg = 3 by omega) with h | h | h | h <;> rw [h] at h1
    · exact Or.inl h1
    · exact Or.inr (Or.inl h1)
    · exact Or.inr (Or.inr (Or.inl h1))
    · exact Or.inr (Or.inr (Or.inr (Or.inl h1)))
  · exact Or.inr (Or.inr (Or.inr (Or.inr h)))
theorem wi_m1 {v z : Int32} (h : ¬ v = -1) : wiP v (-1) z ↔ wiP v 0 z := by
  have e : v < 0 ↔ v < -1 := by
    rw [Int32.lt_iff_toInt_lt, Int32.lt_iff_toInt_lt]
    have h2 : ¬ v.toInt = -1 := fun q => h (Int32.toInt_inj.mp q)
    have h3 : (0 : Int32).toInt = 0 := rfl
    have h4 : (-1 : Int32).toInt = -1 := rfl
    omega
  unfold wiP
  rw [e]
