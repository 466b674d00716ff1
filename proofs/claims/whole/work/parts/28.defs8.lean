/-! the reference's questions -/
def gby (u : Bool) (g : MM) : MM := (g.1, g.2.1, g.2.2.1, (tf (goX u (gOl g) (gLl g)) (gRl g) 4, tf (goX u (gOn g) (gLn g)) (gRn g) 4, tf (goX u (gOh g) (gLh g)) (gRh g) 4, (if u = true then toR (gOp g) (gLp g) else gLp g), 0), g.2.2.2.2)
def rnM (a : Nat) (g : MM) : RS := rnF (gDay g) (gUrg g) (gSzs g) (gWai g) (gFro g) (gBto g) (gRl g) (gRn g) (gRh g) (gN g) (gK g) (gRa g) (gRp g) a (gZ g)
def grn (a : Nat) (g : MM) : MM := (g.1, g.2.1, g.2.2.1, g.2.2.2.1, rnM a g, g.2.2.2.2.2)
def gru (u : Bool) (a : Nat) (g : MM) : MM := grn a (gby u g)
section WHS
variable (WH : Nat)
abbrev mtlQ (c what : Int32) (n : Nat) : Prop := inC c (nI n) ∧ wiP what 0 5
def mtdA (z : RS) (cday : XF) (c : Nat) (what : Int32) : Int32 := if what = 0 then mD z c else if what = 1 then agM (mD z) cday c else mS z (5 * c + what.toNatClampNeg - 1)
def mtlF (c what : Int32) (u : Bool) (g : MM) : MM := if mtlQ c what (gN g) then gru u WH g else g
def mtlA (c what : Int32) (u : Bool) (g : MM) : Int32 := if mtlQ c what (gN g) then mtdA (gZ (gru u WH g)) (gDay g) c.toNatClampNeg what else -1
abbrev atQ (c dd : Int32) (n : Nat) : Prop := inC c (nI n) ∧ wiP dd 0 3000
def matF (c dd : Int32) (u : Bool) (g : MM) : MM := if atQ c dd (gN g) then gru u dd.toNatClampNeg g else g
def matA (c dd : Int32) (u : Bool) (g : MM) : Int32 := if atQ c dd (gN g) then mP (gZ (gru u dd.toNatClampNeg g)) c.toNatClampNeg else -1
def mreA (c dd : Int32) (u : Bool) (g : MM) : Int32 := if atQ c dd (gN g) then mR (gZ (gru u dd.toNatClampNeg g)) c.toNatClampNeg else -1
abbrev cuQ (dd what : Int32) (nc : Nat) : Prop := wiP dd 0 3000 ∧ (wiP what 0 3 ∨ wiP what 10 (9 + nI nc))
def mctA (z : RS) (n : Nat) (what : Int32) : Int32 :=
  if what = 0 then nI (cnt (fun b => ¬ mP z b = -1) n) else if what = 1 then nI (cnt (fun b => mP z b = 10) n) else if what = 2 then nI (cnt (fun b => ¬ mP z b = -1) n) - nI (cnt (fun b => mP z b = 10) n)
  else if what = 3 then nI (mH z) else nI (cnt (fun b => mP z b = what - 10) n)
def mcuF (dd what : Int32) (u : Bool) (g : MM) : MM := if cuQ dd what (gK g) then gru u dd.toNatClampNeg g else g
def mcuA (dd what : Int32) (u : Bool) (g : MM) : Int32 := if cuQ dd what (gK g) then mctA (gZ (gru u dd.toNatClampNeg g)) (gN g) what else -1
def mleA (z : RS) (cday : XF) (n : Nat) (what : Int32) : Int32 := if what = 0 then mE z else if what = 1 then (if cnt (fun b => mP z b = 10) n = n then -1 else mM z + 1) else if what = 2 then (if cnt (fun b => mP z b = 10) n = n then sumI (agM (mD z) cday) n else -1) else -1
end WHS
/-! what a run leaves: the days on which cards were DONE, the length -/
section RD
variable {cday urg szs waits bfrom bto rl rn rh : XF} {n nc : Nat} {alike rpac : Int32}
def dvI (a : Nat) (f : XF) : Prop := ∀ c, c < 16 → f c = -1 ∨ ∃ d, d ≤ a ∧ f c = nI d
theorem puM_D (k : Nat) : ∀ (f : Nat) (z : RS), mD (puM cday urg szs waits rl rn n alike k f z) = mD z
  | 0, _ => rfl
  | f + 1, z => by
    unfold puM
    split
    · rfl
    · exact puM_D k f (plO szs k z _)
theorem daB_D : ∀ (j : Nat) (z : RS), mD (daB cday urg szs waits rl rn n alike j z) = mD z
  | 0, _ => rfl
  | j + 1, z => (daB_D j _).trans (puM_D _ _ _)
theorem thM_D {a d : Nat} {z : RS} {c k : Nat} (hd : d ≤ a) (h : dvI a (mD z)) : dvI a (mD (thM bfrom bto nc (nI d) z c k)) := by
  unfold thM
  split
  · exact h
  · split
    · intro b hb
      show upd (mD z) c (nI d) b = -1 ∨ _
      unfold upd
      split
      · rename_i hq
        exact Or.inr ⟨d, hd, by show upd (mD z) c (nI d) b = nI d; unfold upd; rw [if_pos hq]⟩
      · rename_i hq
        rcases h b hb with q | ⟨e, he, q⟩
        · exact Or.inl q
        · exact Or.inr ⟨e, he, by show upd (mD z) c (nI d) b = nI e; unfold upd; rw [if_neg hq]; exact q⟩
    · exact h
theorem wk1_D {a d : Nat} {z : RS} {un : Int32} {c k : Nat} (hd : d ≤ a) (h : dvI a (mD z)) : dvI a (mD (wk1 bfrom bto nc (nI d) rpac z un c k)) := by
  have h2 : dvI a (mD (wk2 rpac z un c)) := by unfold wk2; split <;> exact h
  unfold wk1
  split
  · exact thM_D hd h2
  · exact h2
theorem wkL_D {a d k : Nat} {u : Bool} (hd : d ≤ a) : ∀ (f : Nat) (z : RS) (un bh : Int32), dvI a (mD z) → dvI a (mD (wkL urg bfrom bto n nc alike (nI d) rpac k u f z un bh).1)
  | 0, _, _, _, h => h
  | f + 1, z, un, bh, h => by
    unfold wkL
    split
    · exact h
    · exact wkL_D hd f _ _ _ (wk1_D hd h)
theorem wkF_D {a d k : Nat} {z : RS} (hd : d ≤ a) (h : dvI a (mD z)) : dvI a (mD (wkF urg bfrom bto rh n nc alike rpac (nI d) k z)) := wkL_D hd _ _ _ _ (wkL_D hd _ _ _ _ h)
theorem dwF_D {a d : Nat} {z : RS} (hd : d ≤ a) (h : dvI a (mD z)) : dvI a (mD (dwF cday urg szs waits bfrom bto rl rn rh n nc alike rpac (nI d) z)) := by
  have h1 : ∀ i, mD (itN (daA cday (nI d)) (da0 z) i) = mD z := by
    intro i
    induction i with
    | zero => rfl
    | succ i ih => exact ih
  have h2 : mD (dw2 cday urg szs waits rl rn n nc alike (nI d) z) = mD z := (daB_D _ _).trans (h1 n)
  have h3 : ∀ i, mD (itN (daC waits) (dw2 cday urg szs waits rl rn n nc alike (nI d) z) i) = mD z := by
    intro i
    induction i with
    | zero => exact h2
    | succ i ih =>
      show mD (daC waits _ i) = _
      unfold daC
      split <;> exact ih
  have h4 : ∀ i, dvI a (mD (itN (daD urg bfrom bto rh n nc alike rpac (nI d)) (dw3 cday urg szs waits rl rn n nc alike (nI d) z) i)) := by
    intro i
    induction i with
    | zero => rw [show mD (itN _ (dw3 cday urg szs waits rl rn n nc alike (nI d) z) 0) = mD z from h3 n]; exact h
    | succ i ih => exact wkF_D hd ih
  have h5 : ∀ i, mD (itN daE (dw4 cday urg szs waits bfrom bto rl rn rh n nc alike rpac (nI d) z) i) = mD (dw4 cday urg szs waits bfrom bto rl rn rh n nc alike rpac (nI d) z) := by
    intro i
    induction i with
    | zero => rfl
    | succ i ih =>
      show mD (daE _ i) = _
      unfold daE
      split <;> exact ih
  show dvI a (mD (dw5 cday urg szs waits bfrom bto rl rn rh n nc alike rpac (nI d) z))
  unfold dw5
  rw [h5]
  exact h4 nc
theorem puM_E (k : Nat) : ∀ (f : Nat) (z : RS), mE (puM cday urg szs waits rl rn n alike k f z) = mE z
  | 0, _ => rfl
  | f + 1, z => by
    unfold puM
    split
    · rfl
    · exact puM_E k f (plO szs k z _)
theorem daB_E : ∀ (j : Nat) (z : RS), mE (daB cday urg szs waits rl rn n alike j z) = mE z
  | 0, _ => rfl
  | j + 1, z => (daB_E j _).trans (puM_E _ _ _)
theorem thM_E {day : Int32} {z : RS} {c k : Nat} : mE (thM bfrom bto nc day z c k) = mE z := by unfold thM; split; rfl; split <;> rfl
theorem wk1_E {day : Int32} {z : RS} {un : Int32} {c k : Nat} : mE (wk1 bfrom bto nc day rpac z un c k) = mE z := by
  have h : mE (wk2 rpac z un c) = mE z := by unfold wk2; split <;> rfl
  unfold wk1
  split
  · rw [thM_E, h]
  · exact h
theorem wkL_E {day : Int32} {k : Nat} {u : Bool} : ∀ (f : Nat) (z : RS) (un bh : Int32), mE (wkL urg bfrom bto n nc alike day rpac k u f z un bh).1 = mE z
  | 0, _, _, _ => rfl
  | f + 1, z, un, bh => by
    unfold wkL
    split
    · rfl
    · rw [wkL_E f, wk1_E]
theorem wkF_E {day : Int32} {k : Nat} {z : RS} : mE (wkF urg bfrom bto rh n nc alike rpac day k z) = mE z := by
  show mE (wkL _ _ _ _ _ _ _ _ _ _ 17 (wkL _ _ _ _ _ _ _ _ _ _ 17 z _ _).1 _ _).1 = mE z
  rw [wkL_E, wkL_E]
theorem dwF_E (day : Int32) (z : RS) : mE (dwF cday urg szs waits bfrom bto rl rn rh n nc alike rpac day z) = mE z := by
  have h1 : ∀ i, mE (itN (daA cday day) (da0 z) i) = mE z := by
    intro i
    induction i with
    | zero => rfl
    | succ i ih => exact ih
  have h2 : mE (dw2 cday urg szs waits rl rn n nc alike day z) = mE z := (daB_E _ _).trans (h1 n)
  have h3 : ∀ i, mE (itN (daC waits) (dw2 cday urg szs waits rl rn n nc alike day z) i) = mE z := by
    intro i
    induction i with
    | zero => exact h2
    | succ i ih =>
      show mE (daC waits _ i) = _
      unfold daC
      split <;> exact ih
  have h4 : ∀ i, mE (itN (daD urg bfrom bto rh n nc alike rpac day) (dw3 cday urg szs waits rl rn n nc alike day z) i) = mE z := by
    intro i
    induction i with
    | zero => exact h3 n
    | succ i ih => exact (wkF_E).trans ih
  have h5 : ∀ i, mE (itN daE (dw4 cday urg szs waits bfrom bto rl rn rh n nc alike rpac day z) i) = mE z := by
    intro i
    induction i with
    | zero => exact h4 nc
    | succ i ih =>
      show mE (daE _ i) = _
      unfold daE
      split <;> exact ih
  exact h5 n
theorem rnG_DE {a : Nat} (ha : a ≤ 100000) : ∀ (k d : Nat) (z : RS), d + k ≤ a + 1 → dvI a (mD z) → mE z = -1 → dvI a (mD (rnG cday urg szs waits bfrom bto rl rn rh n nc alike rpac k d z)) ∧ ∃ x, x ≤ a + 1 ∧ mE (rnG cday urg szs waits bfrom bto rl rn rh n nc alike rpac k d z) = dn x
  | 0, d, z, _, h, he => ⟨h, 0, by omega, he⟩
  | k + 1, d, z, hd, h, he => by
    rw [rnG_s _ _ _ _ _ _ _ _ _ _ _ _ _ _ _ (by rw [he]; decide)]
    have hW := dwF_D (cday := cday) (urg := urg) (szs := szs) (waits := waits) (bfrom := bfrom) (bto := bto) (rl := rl) (rn := rn) (rh := rh) (n := n) (nc := nc) (alike := alike) (rpac := rpac) (a := a) (d := d) (by omega) h
    have hE : mE (dwF cday urg szs waits bfrom bto rl rn rh n nc alike rpac (nI d) z) = -1 := (dwF_E _ _).trans he
    have key : dvI a (mD (rn1 cday urg szs waits bfrom bto rl rn rh n nc alike rpac d z)) ∧ (mE (rn1 cday urg szs waits bfrom bto rl rn rh n nc alike rpac d z) = -1 ∨ 0 ≤ mE (rn1 cday urg szs waits bfrom bto rl rn rh n nc alike rpac d z) ∧ ∃ x, x ≤ a + 1 ∧ mE (rn1 cday urg szs waits bfrom bto rl rn rh n nc alike rpac d z) = dn x) := by
      have hs : ∀ y : RS, mD (rnS n y) = mD y ∧ mE (rnS n y) = mE y := by intro y; unfold rnS; split <;> exact ⟨rfl, rfl⟩
      unfold rn1
      rw [(hs _).1, (hs _).2]
      unfold rnE
      split
      · refine ⟨hW, Or.inr ?_⟩
        show 0 ≤ (if n = 0 then (0 : Int32) else nI d) ∧ ∃ x, x ≤ a + 1 ∧ (if n = 0 then (0 : Int32) else nI d) = dn x
        split
        · exact ⟨by decide, 1, by omega, rfl⟩
        · exact ⟨Int32.not_lt.mp (fun q => absurd q (by
            intro q
            rcases Nat.lt_or_ge d (2 ^ 31) with hl | hl
            · exact nI_pos hl q
            · omega)) , d + 1, by omega, rfl⟩
      · exact ⟨hW, Or.inl hE⟩
    rcases key with ⟨k1, k2 | ⟨k2, x, hx, k3⟩⟩
    · exact rnG_DE ha k (d + 1) _ (by omega) k1 k2
    · rw [rnG_r _ _ _ _ _ _ _ _ _ _ _ _ _ _ _ k2]
      exact ⟨k1, x, hx, k3⟩
end RD
theorem rnF_DE {cday urg szs waits bfrom bto rl rn rh : XF} {n nc : Nat} {alike rpac : Int32} {a : Nat} (ha : a ≤ 100000) (z : RS) : dvI a (mD (rnF cday urg szs waits bfrom bto rl rn rh n nc alike rpac a z)) ∧ ∃ x, x ≤ a + 1 ∧ mE (rnF cday urg szs waits bfrom bto rl rn rh n nc alike rpac a z) = dn x :=
  rnG_DE ha (1 + a) 0 (bnF z) (by omega) (fun c hc => Or.inl (if_pos hc)) rfl
/-- the reference's DIFFER: k days more, from day i on -/
def ghv (g : MM) : MM := (g.1, g.2.1, g.2.2.1, g.2.2.2.1, g.2.2.2.2.1, tf (mP (gZ g)) (gHp g) (gN g), tf (mL (gZ g)) (gHq g) (gN g), g.2.2.2.2.2.2.2)
def gd1 (i : Nat) (g : MM) : MM := gru true i (ghv (gru false i g))
section WHT
variable (WH : Nat)
abbrev unQ (g : MM) : Prop := ∃ b, b < gN g ∧ (¬ gHp g b = mP (gZ g) b ∨ ¬ gHq g b = mL (gZ g) b)
def mdG : Nat → Nat → MM → MM × Int32
  | 0, _, g => (g, -1)
  | k + 1, i, g => if unQ (gd1 i g) then (gd1 i g, nI i) else mdG k (i + 1) (gd1 i g)
def mx2 (x y : Int32) : Int32 := if x ≤ y then y else x
/-- how far it looks, dn-coded -/
def mdM (g : MM) : Nat := (mx2 (mE (gZ (gru true WH (gru false WH g)))) (mE (gZ (gru false WH g))) + 1).toNatClampNeg
def mdE (g : MM) : MM × Int32 := mdG (mdM WH g) 0 (gru true WH (gru false WH g))
/-- PROMISE of the reference -/
def mpC (z : RS) (cday : XF) (n : Nat) (y : Nat) : Nat := cnt (fun b => ¬ mD z b < 0 ∧ agM (mD z) cday b ≤ nI y) n
def mpN (z : RS) (n : Nat) : Nat := cnt (fun b => ¬ mD z b < 0) n
def mpG (z : RS) (cday : XF) (n : Nat) (share : Int32) : Nat → Nat → Nat → Int32
  | 0, y, _ => nI y
  | k + 1, y, x => if share * nI (mpN z n) ≤ nI (100 * x) then nI y else mpG z cday n share k (y + 1) (mpC z cday n (y + 1))
def mprA (share : Int32) (u : Bool) (g : MM) : Int32 := if wiP share 1 100 ∧ ¬ mpN (gZ (gru u WH g)) (gN g) = 0 then mpG (gZ (gru u WH g)) (gDay g) (gN g) share (2 * WH) 0 0 else -1
/-- the search of the reference -/
def dgF (m : Nat) : Nat → XF → Nat → XF
  | 0, f, _ => f
  | j + 1, f, r => dgF m j (upd f j (nI (1 + r % m))) (r / m)
def gsl (f : XF) (g : MM) : MM := (g.1, g.2.1, g.2.2.1, (f, gRn g, gRh g, gRp g, gRa g), g.2.2.2.2)
def gk1 (m way : Nat) (g : MM) : MM := grn WH (gsl (dgF m (gK g) (gRl (gby false g)) way) (gby false g))
def agsM (g : MM) : Int32 := sumI (agM (mD (gZ g)) (gDay g)) (gN g)
def gbs (s : Int32) (f : XF) (g : MM) : MM := (g.1, g.2.1, g.2.2.1, g.2.2.2.1, g.2.2.2.2.1, gHp g, gHq g, gFr g, gBu g, s, f)
def gk2 (m : Nat) (g : MM) (way : Nat) : MM :=
  if cnt (fun b => mP (gZ (gk1 WH m way g)) b = 10) (gN g) = gN g ∧ (gBs g < 0 ∨ ¬ gBs g ≤ agsM (gk1 WH m way g)) then gbs (agsM (gk1 WH m way g)) (tf (gRl (gk1 WH m way g)) (gBo g) (gK g)) (gk1 WH m way g) else gk1 WH m way g
def gs0 (m : Nat) (g : MM) : MM := (g.1, g.2.1, g.2.2.1, g.2.2.2.1, g.2.2.2.2.1, gHp g, gHq g, 1, nI m, -1, gBo g)
def gsk (m : Nat) (g : MM) : MM := if ¬ gFr g = 0 ∧ gBu g = nI m then g else itN (gk2 WH m) (gs0 m g) (m ^ gK g)
def mbeF (m : Int32) (g : MM) : MM := if wiP m 1 4 then gsk WH m.toNatClampNeg g else g
def mbeA (m : Int32) (g : MM) : Int32 := if wiP m 1 4 then gBs (gsk WH m.toNatClampNeg g) else -1
def mblF (m k : Int32) (g : MM) : MM := if inC k (nI (gK g)) then mbeF WH m g else g
def mblA (m k : Int32) (g : MM) : Int32 := if inC k (nI (gK g)) ∧ 0 ≤ mbeA WH m g then gBo (mbeF WH m g) k.toNatClampNeg else -1
/-- COST of the reference -/
def gal (g : MM) : MM := (g.1, g.2.1, g.2.2.1, (gRl g, gRn g, gRh g, gRp g, 1), g.2.2.2.2)
def spM (g : MM) : Int32 := sumI (fun b => if gUrg g b = 0 then agM (mD (gZ g)) (gDay g) b else 0) (gN g)
abbrev dnM (g : MM) : Prop := cnt (fun b => mP (gZ g) b = 10) (gN g) = gN g
def gc1 (g : MM) : MM := gru false WH g
def gc2 (g : MM) : MM := grn WH (gal (gc1 WH g))
def mcoF2 (g : MM) : MM := if dnM (gc1 WH g) then gc2 WH g else gc1 WH g
def mcoA (g : MM) : Int32 := if dnM (gc1 WH g) ∧ dnM (gc2 WH g) then spM (gc1 WH g) - spM (gc2 WH g) else -100000
end WHT
