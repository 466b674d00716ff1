/-! the board -/
abbrev wiP (x y z : Int32) : Prop := ¬ x < y ∧ ¬ z < x
theorem wi_in {x : Int32} {a N : Nat} (h : wiP x (nI a) (nI N)) (ha : a < 2 ^ 31) (hN : N < 2 ^ 31) : x = nI x.toNatClampNeg ∧ a ≤ x.toNatClampNeg ∧ x.toNatClampNeg ≤ N := by
  obtain ⟨h1, h2⟩ := h
  have h0 : ¬ x < 0 := fun q => h1 (Int32.lt_of_lt_of_le q (nI_pos' ha))
  obtain ⟨j, hj, rfl⟩ := nI_of h0
  rw [nI_clamp hj]
  refine ⟨rfl, ?_, ?_⟩
  · exact Nat.le_of_not_lt fun q => h1 ((nI_ltI hj ha).mpr q)
  · exact Nat.le_of_not_lt fun q => h2 ((nI_ltI hN hj).mpr q)
abbrev CA : Type := Nat × Nat × XF × XF × XF × XF × XF × XF × XF
abbrev RU : Type := XF × XF × XF × Int32
abbrev BS : Type := CA × RU × RU × RU × RU × DS × DS × DS × DS × XF × Int32 × Int32
def bK (b : BS) : Nat := b.1.1
def bN (b : BS) : Nat := b.1.2.1
def bDay (b : BS) : XF := b.1.2.2.1
def bUrg (b : BS) : XF := b.1.2.2.2.1
def bWai (b : BS) : XF := b.1.2.2.2.2.1
def bFro (b : BS) : XF := b.1.2.2.2.2.2.1
def bBto (b : BS) : XF := b.1.2.2.2.2.2.2.1
def bByd (b : BS) : XF := b.1.2.2.2.2.2.2.2.1
def bSzs (b : BS) : XF := b.1.2.2.2.2.2.2.2.2
def bRl (b : BS) : XF := b.2.1.1
def bRn (b : BS) : XF := b.2.1.2.1
def bRh (b : BS) : XF := b.2.1.2.2.1
def bRp (b : BS) : Int32 := b.2.1.2.2.2
def bTl (b : BS) : XF := b.2.2.1.1
def bTn (b : BS) : XF := b.2.2.1.2.1
def bTh (b : BS) : XF := b.2.2.1.2.2.1
def bTp (b : BS) : Int32 := b.2.2.1.2.2.2
def bVl (b : BS) : XF := b.2.2.2.1.1
def bVn (b : BS) : XF := b.2.2.2.1.2.1
def bVh (b : BS) : XF := b.2.2.2.1.2.2.1
def bVp (b : BS) : Int32 := b.2.2.2.1.2.2.2
def bXl (b : BS) : XF := b.2.2.2.2.1.1
def bXn (b : BS) : XF := b.2.2.2.2.1.2.1
def bXh (b : BS) : XF := b.2.2.2.2.1.2.2.1
def bXp (b : BS) : Int32 := b.2.2.2.2.1.2.2.2
def bDP (b : BS) : DS := b.2.2.2.2.2.1
def bDQ (b : BS) : DS := b.2.2.2.2.2.2.1
def bDC (b : BS) : DS := b.2.2.2.2.2.2.2.1
def bDY (b : BS) : DS := b.2.2.2.2.2.2.2.2.1
def bLL (b : BS) : XF := b.2.2.2.2.2.2.2.2.2.1
def bLs (b : BS) : Int32 := b.2.2.2.2.2.2.2.2.2.2.1
def bFu (b : BS) : Int32 := b.2.2.2.2.2.2.2.2.2.2.2
def BI (b : BS) : Prop := bN b ≤ 16 ∧ bK b ≤ 4 ∧ (∀ t, t < bN b → vp_in (bByd b t) (bN b)) ∧ UV (bN b) (dsC (bDP b)) ∧ UV (bN b) (dsC (bDQ b)) ∧ UV (bN b) (dsC (bDC b)) ∧ dsJ (bDP b) ≤ 3001 ∧ dsJ (bDQ b) ≤ 3001 ∧ dsJ (bDC b) ≤ 3001
def fgF (b : BS) : BS := (b.1, b.2.1, b.2.2.1, (tf (toF (bTl b) (bRl b)) (bVl b) 4, tf (toF (bTn b) (bRn b)) (bVn b) 4, tf (toF (bTh b) (bRh b)) (bVh b) 4, toR (bTp b) (bRp b)), b.2.2.2.2.1, rs1 (bDP b), rs1 (bDQ b), rs1 (bDC b), bDY b, bLL b, -1, -1)
def saT (m : Nat) (b : BS) : BS := ((m, 0, bDay b, bUrg b, bWai b, bFro b, bBto b, bByd b, bSzs b), (fl (bRl b) 3 4, fl (bRn b) 1 4, fl (bRh b) 2 4, 1), (fl (bTl b) (-1) 4, fl (bTn b) (-1) 4, fl (bTh b) (-1) 4, -1), b.2.2.2)
def saF (m : Nat) (b : BS) : BS := fgF (saT m b)
def csF (v : Int32) (b : BS) : BS := if wiP v 1 4 then saF v.toNatClampNeg b else b
abbrev coP (k x y z : Int32) (b : BS) : Prop := inC k (nI (bK b)) ∧ wiP x 0 20 ∧ wiP y 0 5 ∧ wiP z 0 20
def coT (k : Nat) (x y z : Int32) (b : BS) : BS := (b.1, (upd (bRl b) k x, upd (bRn b) k y, upd (bRh b) k z, bRp b), (upd (bTl b) k (-1), upd (bTn b) k (-1), upd (bTh b) k (-1), bTp b), b.2.2.2)
def coF (k x y z : Int32) (b : BS) : BS := if coP k x y z b then fgF (coT k.toNatClampNeg x y z b) else b
def paT (v : Int32) (b : BS) : BS := (b.1, (bRl b, bRn b, bRh b, v), b.2.2)
def paF (v : Int32) (b : BS) : BS := if wiP v 1 9 then fgF (paT v b) else b
abbrev adP (v : Int32) (b : BS) : Prop := wiP v 0 99 ∧ bN b < 16
def adT (v : Int32) (u : Bool) (b : BS) : BS := ((bK b, bN b + 1, upd (bDay b) (bN b) v, upd (bUrg b) (bN b) (b2 (u = true)), upd (bWai b) (bN b) (-1), upd (bFro b) (bN b) (-1), upd (bBto b) (bN b) (-1), insF (upd (bDay b) (bN b) v) (bN b) (bByd b) (bN b), sz4 (bSzs b) (bN b) 4), b.2)
def adF (v : Int32) (u : Bool) (b : BS) : BS := if adP v b then fgF (adT v u b) else b
def adA (v : Int32) (b : BS) : Int32 := if adP v b then nI (bN b) else -1
abbrev szP (c k v : Int32) (b : BS) : Prop := inC c (nI (bN b)) ∧ inC k (nI (bK b)) ∧ wiP v 0 9
def szT (c k : Nat) (v : Int32) (b : BS) : BS := ((bK b, bN b, bDay b, bUrg b, bWai b, bFro b, bBto b, bByd b, upd (bSzs b) (c * 4 + k) v), b.2)
def szF (c k v : Int32) (b : BS) : BS := if szP c k v b then fgF (szT c.toNatClampNeg k.toNatClampNeg v b) else b
abbrev waP (c v : Int32) (b : BS) : Prop := inC c (nI (bN b)) ∧ wiP v (-1) (c - 1)
def waT (c : Nat) (v : Int32) (b : BS) : BS := ((bK b, bN b, bDay b, bUrg b, upd (bWai b) c v, bFro b, bBto b, bByd b, bSzs b), b.2)
def waF (c v : Int32) (b : BS) : BS := if waP c v b then fgF (waT c.toNatClampNeg v b) else b
abbrev baP (c r q : Int32) (b : BS) : Prop := inC c (nI (bN b)) ∧ (r = -1 ∨ inC r (nI (bK b)) ∧ wiP q 0 (r - 1))
def baT (c : Nat) (r q : Int32) (b : BS) : BS := ((bK b, bN b, bDay b, bUrg b, bWai b, upd (bFro b) c r, upd (bBto b) c (if r = -1 then -1 else q), bByd b, bSzs b), b.2)
def baF (c r q : Int32) (b : BS) : BS := if baP c r q b then fgF (baT c.toNatClampNeg r q b) else b
abbrev moP (what k v : Int32) (nc : Nat) : Prop := (what = 0 ∧ inC k (nI nc) ∧ wiP v (-1) 20) ∨ (what = 1 ∧ inC k (nI nc) ∧ wiP v (-1) 5) ∨ (what = 2 ∧ inC k (nI nc) ∧ wiP v (-1) 20) ∨ (what = 3 ∧ (v = -1 ∨ wiP v 1 9))
def ot0 (k : Nat) (v : Int32) (b : BS) : BS := (b.1, b.2.1, (upd (bTl b) k v, bTn b, bTh b, bTp b), b.2.2.2)
def ot1 (k : Nat) (v : Int32) (b : BS) : BS := (b.1, b.2.1, (bTl b, upd (bTn b) k v, bTh b, bTp b), b.2.2.2)
def ot2 (k : Nat) (v : Int32) (b : BS) : BS := (b.1, b.2.1, (bTl b, bTn b, upd (bTh b) k v, bTp b), b.2.2.2)
def ot3 (v : Int32) (b : BS) : BS := (b.1, b.2.1, (bTl b, bTn b, bTh b, v), b.2.2.2)
def otF (what k v : Int32) (b : BS) : BS := if moP what k v (bK b) then fgF (if what = 0 then ot0 k.toNatClampNeg v b else if what = 1 then ot1 k.toNatClampNeg v b else if what = 2 then ot2 k.toNatClampNeg v b else ot3 v b) else b
def sdP (a : Nat) (b : BS) : DS := sdF (bDay b) (bUrg b) (bWai b) (bFro b) (bBto b) (bByd b) (bSzs b) (bRl b) (bRn b) (bRh b) (bN b) (bK b) 0 (bRp b) a (bDP b)
def sdQ (a : Nat) (b : BS) : DS := sdF (bDay b) (bUrg b) (bWai b) (bFro b) (bBto b) (bByd b) (bSzs b) (bVl b) (bVn b) (bVh b) (bN b) (bK b) 0 (bVp b) a (bDQ b)
def sdC (a : Nat) (b : BS) : DS := sdF (bDay b) (bUrg b) (bWai b) (bFro b) (bBto b) (bByd b) (bSzs b) (bRl b) (bRn b) (bRh b) (bN b) (bK b) 1 (bRp b) a (bDC b)
def seP (D : DS) (b : BS) : BS := (b.1, b.2.1, b.2.2.1, b.2.2.2.1, b.2.2.2.2.1, D, b.2.2.2.2.2.2)
def seQ (D : DS) (b : BS) : BS := (b.1, b.2.1, b.2.2.1, b.2.2.2.1, b.2.2.2.2.1, bDP b, D, b.2.2.2.2.2.2.2)
def seC (D : DS) (b : BS) : BS := (b.1, b.2.1, b.2.2.1, b.2.2.2.1, b.2.2.2.2.1, bDP b, bDQ b, D, b.2.2.2.2.2.2.2.2)
def shw (u : Bool) (a : Nat) (b : BS) : BS := match u with | false => seP (sdP a b) b | true => seQ (sdQ a b) b
def runU (u : Bool) (b : BS) : DS := match u with | false => bDP b | true => bDQ b
def tdA (D : DS) (cday : XF) (c : Nat) (what : Int32) : Int32 := if what = 0 then csD (dsC D) c else if what = 1 then agF (csD (dsC D)) cday c else if what = 2 then dsF D (c * 4 + 1 - 1) else if what = 3 then dsF D (c * 4 + 2 - 1) else if what = 4 then dsF D (c * 4 + 3 - 1) else if what = 5 then dsF D (c * 4 + 4 - 1) else -1
def tlF (c : Int32) (u : Bool) (b : BS) : BS := if inC c (nI (bN b)) then shw u 3000 b else b
def tlA (c what : Int32) (u : Bool) (b : BS) : Int32 := if inC c (nI (bN b)) then tdA (runU u (shw u 3000 b)) (bDay b) c.toNatClampNeg what else -1
abbrev atP (c dd : Int32) (b : BS) : Prop := inC c (nI (bN b)) ∧ wiP dd 0 3000
def atF (c dd : Int32) (u : Bool) (b : BS) : BS := if atP c dd b then shw u dd.toNatClampNeg b else b
def atA (c dd : Int32) (u : Bool) (b : BS) : Int32 := if atP c dd b then csP (dsC (runU u (shw u dd.toNatClampNeg b))) c.toNatClampNeg else -1
def reA (D : DS) (waits : XF) (n c : Nat) : Int32 := reF (csP (dsC D)) (csN (dsC D)) (csD (dsC D)) (csW (dsC D)) waits n (dn (dsJ D)) c
def rnA (c dd : Int32) (u : Bool) (b : BS) : Int32 := if atP c dd b then reA (runU u (shw u dd.toNatClampNeg b)) (bWai b) (bN b) c.toNatClampNeg else -1
def ctA (D : DS) (n nc : Nat) (what : Int32) : Int32 :=
  if what = 0 then nI n - nI (cnt (fun b => csP (dsC D) b = -1) n) else if what = 1 then nI (cnt (fun b => csP (dsC D) b = 10) n) else if what = 2 then nI n - nI (cnt (fun b => csP (dsC D) b = -1) n) - nI (cnt (fun b => csP (dsC D) b = 10) n)
  else if what = 3 then nI (ctD n D) else if inC (what - 10) (nI nc) then nI (cnt (fun b => csP (dsC D) b = what - 10) n) else -1
def cuF (dd : Int32) (u : Bool) (b : BS) : BS := if wiP dd 0 3000 then shw u dd.toNatClampNeg b else b
def cuA (dd what : Int32) (u : Bool) (b : BS) : Int32 := if wiP dd 0 3000 then ctA (runU u (shw u dd.toNatClampNeg b)) (bN b) (bK b) what else -1
def leA (D : DS) (cday : XF) (n : Nat) (what : Int32) : Int32 := if what = 0 then dn (dsJ D) else if what = 1 then (if cnt (fun b => csP (dsC D) b = 10) n = n then -1 else dsM D + 1) else if what = 2 then (if cnt (fun b => csP (dsC D) b = 10) n = n then sumI (agF (csD (dsC D)) cday) n else -1) else -1
def prF (share : Int32) (u : Bool) (b : BS) : BS := if wiP share 1 100 then shw u 3000 b else b
def prA (share : Int32) (u : Bool) (b : BS) : Int32 := if wiP share 1 100 then shF (csD (dsC (runU u (shw u 3000 b)))) (bDay b) (bN b) share (nI (cnt (fun b0 => csP (dsC (runU u (shw u 3000 b))) b0 = 10) (bN b))) (bN b) else -1
def seS (m0 : Nat) (b : BS) : SS := if bFu b = nI m0 then (bXl b, bDY b, bLs b, bLL b) else itN (fuB (bDay b) (bUrg b) (bWai b) (bFro b) (bBto b) (bByd b) (bSzs b) (tf (toF (bRn b) (bRn b)) (bXn b) 4) (tf (toF (bRh b) (bRh b)) (bXh b) 4) (bN b) (bK b) 0 (toR (bRp b) (bRp b)) (nI m0)) (fl (tf (toF (bRl b) (bRl b)) (bXl b) 4) 1 4, bDY b, -1, bLL b) (m0 ^ bK b)
def seF (m0 : Nat) (b : BS) : BS := (b.1, b.2.1, b.2.2.1, b.2.2.2.1, (ssT (seS m0 b), if bFu b = nI m0 then bXn b else tf (toF (bRn b) (bRn b)) (bXn b) 4, if bFu b = nI m0 then bXh b else tf (toF (bRh b) (bRh b)) (bXh b) 4, if bFu b = nI m0 then bXp b else toR (bRp b) (bRp b)), bDP b, bDQ b, bDC b, ssD (seS m0 b), ssL (seS m0 b), ssM (seS m0 b), nI m0)
def beF (m : Int32) (b : BS) : BS := if wiP m 1 4 then seF m.toNatClampNeg b else b
def beA (m : Int32) (b : BS) : Int32 := if wiP m 1 4 then bLs (seF m.toNatClampNeg b) else -1
abbrev blP (m k : Int32) (b : BS) : Prop := wiP m 1 4 ∧ inC k (nI (bK b))
def blF (m k : Int32) (b : BS) : BS := if blP m k b then seF m.toNatClampNeg b else b
def blA (m k : Int32) (b : BS) : Int32 := if blP m k b then (if bLs (seF m.toNatClampNeg b) = -1 then -1 else bLL (seF m.toNatClampNeg b) k.toNatClampNeg) else -1
def csT (b : BS) : BS := seC (sdC 3000 b) (seP (sdP 3000 b) b)
def spA (D : DS) (b : BS) : Int32 := sumI (fun b0 => if bUrg b b0 = 0 then agF (csD (dsC D)) (bDay b) b0 else 0) (bN b)
def csA2 (b : BS) : Int32 := if cnt (fun b0 => csP (dsC (sdP 3000 b)) b0 = 10) (bN b) = bN b ∧ cnt (fun b0 => csP (dsC (sdC 3000 b)) b0 = 10) (bN b) = bN b then spA (sdP 3000 b) b - spA (sdC 3000 b) b else -100000
def abA (what : Int32) (b : BS) : Int32 := if what = 0 then nI (bK b) else if what = 1 then nI (bN b) else if what = 2 then bRp b else if what = 3 then bVp b else -1
abbrev unP (P Q : DS) (n : Nat) : Prop := ∃ b, b < n ∧ (¬ csP (dsC P) b = csP (dsC Q) b ∨ ¬ csL (dsC P) b = csL (dsC Q) b)
/-- the first day on which two runs stand unlike: k days more, from day i on -/
def dfG (b : BS) : Nat → Nat → DS → DS → DS × DS × Int32
  | 0, _, P, Q => (P, Q, -1)
  | k + 1, i, P, Q => if ¬ dsR P = 0 ∧ ¬ dsR Q = 0 then (P, Q, -1) else if unP (sdP i (seP P b)) (sdQ i (seQ Q b)) (bN b) then (sdP i (seP P b), sdQ i (seQ Q b), nI i) else dfG b k (i + 1) (sdP i (seP P b)) (sdQ i (seQ Q b))
theorem dfG_r {b : BS} {k i : Nat} {P Q : DS} (h : ¬ dsR P = 0 ∧ ¬ dsR Q = 0) : dfG b (k + 1) i P Q = (P, Q, -1) := if_pos h
theorem dfG_t {b : BS} {k i : Nat} {P Q : DS} (h : ¬ (¬ dsR P = 0 ∧ ¬ dsR Q = 0)) (h1 : unP (sdP i (seP P b)) (sdQ i (seQ Q b)) (bN b)) : dfG b (k + 1) i P Q = (sdP i (seP P b), sdQ i (seQ Q b), nI i) := (if_neg h).trans (if_pos h1)
theorem dfG_n {b : BS} {k i : Nat} {P Q : DS} (h : ¬ (¬ dsR P = 0 ∧ ¬ dsR Q = 0)) (h1 : ¬ unP (sdP i (seP P b)) (sdQ i (seQ Q b)) (bN b)) : dfG b (k + 1) i P Q = dfG b k (i + 1) (sdP i (seP P b)) (sdQ i (seQ Q b)) := (if_neg h).trans (if_neg h1)
def dfE (b : BS) : DS × DS × Int32 := dfG b 3001 0 (rs1 (bDP b)) (rs1 (bDQ b))
def dfF (b : BS) : BS := seQ (dfE b).2.1 (seP (dfE b).1 b)
section UVS
variable {cday urg waits bfrom bto byd szs lim lan han : XF} {n nc : Nat} {nob pac : Int32}
theorem sdG_UV (hby : ∀ t, t < n → vp_in (byd t) n) (hn : n ≤ 16) : ∀ (k : Nat) (D : DS), UV n (dsC D) → UV n (dsC (sdG cday urg waits bfrom bto byd szs lim lan han n nc nob pac k D)) ∧ dsJ (sdG cday urg waits bfrom bto byd szs lim lan han n nc nob pac k D) ≤ dsJ D + k
  | 0, D, h => ⟨h, Nat.le_refl _⟩
  | k + 1, D, h => by
    by_cases hr : dsR D = 0
    · rw [sdG_s _ _ _ _ _ _ _ _ _ _ _ _ _ _ _ hr]
      have h1 : UV n (dsC (st1 cday urg waits bfrom bto byd szs lim lan han n nc nob pac D)) ∧ dsJ (st1 cday urg waits bfrom bto byd szs lim lan han n nc nob pac D) = dsJ D + 1 := by
        have h2 := UV_nd cday urg waits bfrom bto byd szs lim lan han n nc nob pac (j := dsJ D) hby hn h
        unfold st1
        split
        · exact ⟨h2, rfl⟩
        · exact ⟨h2, rfl⟩
      obtain ⟨g1, g2⟩ := sdG_UV hby hn k _ h1.1
      exact ⟨g1, by omega⟩
    · rw [sdG_r _ _ _ _ _ _ _ _ _ _ _ _ _ _ _ hr]
      exact ⟨h, by omega⟩
theorem sdF_UV (hby : ∀ t, t < n → vp_in (byd t) n) (hn : n ≤ 16) {a : Nat} (ha : a ≤ 3000) {D : DS} (h : UV n (dsC D)) (hj : dsJ D ≤ 3001) : UV n (dsC (sdF cday urg waits bfrom bto byd szs lim lan han n nc nob pac a D)) ∧ dsJ (sdF cday urg waits bfrom bto byd szs lim lan han n nc nob pac a D) ≤ 3001 := by
  unfold sdF
  have h1 : UV n (dsC (sd0 a D)) ∧ dsJ (sd0 a D) ≤ 3001 := by
    unfold sd0
    split
    · exact ⟨UV_rs _ _, Nat.zero_le _⟩
    · exact ⟨h, hj⟩
  obtain ⟨g1, g2⟩ := sdG_UV hby hn (a + 1 - dsJ (sd0 a D)) _ h1.1 (cday := cday) (urg := urg) (waits := waits) (bfrom := bfrom) (bto := bto) (szs := szs) (lim := lim) (lan := lan) (han := han) (nc := nc) (nob := nob) (pac := pac)
  exact ⟨g1, by omega⟩
end UVS
