/-! the reference's run -/
theorem dn_neg {x : Nat} (hx : x < 2 ^ 31) : dn x < 0 ↔ x = 0 := by
  cases x with
  | zero => exact ⟨fun _ => rfl, fun _ => by decide⟩
  | succ x => exact ⟨fun h => absurd h (nI_pos (by omega)), fun h => absurd h (by omega)⟩
theorem in_card {x : Int32} {n : Nat} (hn : n < 2 ^ 31) : wiP x 0 (nI n - 1) ↔ inC x (nI n) := by
  constructor
  · intro ⟨h0, h1⟩
    obtain ⟨j, hj, rfl⟩ := nI_of h0
    refine ⟨h0, fun q => h1 ?_⟩
    have := (nI_leI hn hj).mp q
    cases n with
    | zero => exact Int32.lt_of_lt_of_le (by decide) (nI_pos' hj)
    | succ n => rw [nI_pred]; exact (nI_ltI (by omega) hj).mpr (by omega)
  · intro ⟨h0, h1⟩
    obtain ⟨j, hj, rfl⟩ := nI_of h0
    refine ⟨h0, fun q => ?_⟩
    have hjn : j < n := Nat.lt_of_not_le fun z => h1 ((nI_leI hn hj).mpr z)
    cases n with
    | zero => omega
    | succ n => rw [nI_pred] at q; have := (nI_ltI (by omega) hj).mp q; omega
theorem nI_b2 {j : Nat} (h : j < 2) : nI j = b2 (decide (j = 1) = true) := by
  rcases (show j = 0 ∨ j = 1 by omega) with rfl | rfl <;> rfl
theorem b2_dec {P : Prop} [Decidable P] : b2 P = b2 (decide P = true) := b2_c (by simp)
abbrev mwP (don waits : XF) (c : Nat) : Prop := ¬ waits c < 0 ∧ ¬ 0 ≤ don (ix waits c)
abbrev rdP (waits place thr nxt don : XF) (k c : Nat) : Prop := (place c = 11 ∧ nI k = 0 ∧ ¬ mwP don waits c) ∨ (¬ place c = 11 ∧ wiP (place c) 0 3 ∧ ¬ thr c = 0 ∧ nxt c = nI k)
def caI (urg rl rn : XF) (alike : Int32) (k c : Nat) : Int32 := if urgP urg alike c then rn k else rl k
abbrev mgP (urg waits rl rn : XF) (n : Nat) (alike : Int32) (place thr nxt don : XF) (k c : Nat) : Prop := rdP waits place thr nxt don k c ∧ ¬ caI urg rl rn alike k c ≤ nI (cnt (fun b => ciP urg alike (decide (urgP urg alike c)) k place b) n)
abbrev ahP (urg cday : XF) (alike : Int32) (a b : Nat) : Prop := (¬ (urgP urg alike a ↔ urgP urg alike b) ∧ urgP urg alike a) ∨ ((urgP urg alike a ↔ urgP urg alike b) ∧ ¬ cday b ≤ cday a)
/-- the best of those below i: 0 none, c + 1 the card c -/
def slN (P : Nat → Prop) [DecidablePred P] (Q : Nat → Nat → Prop) [∀ a b, Decidable (Q a b)] : Nat → Nat
  | 0 => 0
  | i + 1 => if P i ∧ (slN P Q i = 0 ∨ Q i (slN P Q i - 1)) then i + 1 else slN P Q i
theorem slN_le (P : Nat → Prop) [DecidablePred P] (Q : Nat → Nat → Prop) [∀ a b, Decidable (Q a b)] : ∀ i, slN P Q i ≤ i
  | 0 => Nat.le_refl 0
  | i + 1 => by have := slN_le P Q i; unfold slN; split <;> omega
theorem slN_P (P : Nat → Prop) [DecidablePred P] (Q : Nat → Nat → Prop) [∀ a b, Decidable (Q a b)] : ∀ i y, slN P Q i = y + 1 → P y
  | 0, y, h => by simp [slN] at h
  | i + 1, y, h => by
    unfold slN at h
    split at h
    · rename_i hq
      have : y = i := by omega
      subst this
      exact hq.1
    · exact slN_P P Q i y h
theorem cnt_dec {P P' : Nat → Prop} [DecidablePred P] [DecidablePred P'] {c : Nat} (h : ∀ b, b ≠ c → (P' b ↔ P b)) (h1 : P c) (h2 : ¬ P' c) : ∀ n, cnt P' n + (if c < n then 1 else 0) = cnt P n
  | 0 => by simp [cnt]
  | n + 1 => by
    have ih := cnt_dec h h1 h2 n
    unfold cnt
    by_cases hc : n = c
    · subst hc
      rw [if_neg h2, if_pos h1, if_pos (by omega)]
      rw [if_neg (by omega)] at ih
      omega
    · by_cases hp : P n
      · rw [if_pos hp, if_pos ((h n hc).mpr hp)]
        by_cases hl : c < n
        · rw [if_pos (by omega)]; rw [if_pos hl] at ih; omega
        · rw [if_neg (by omega)]; rw [if_neg hl] at ih; omega
      · rw [if_neg hp, if_neg (fun q => hp ((h n hc).mp q))]
        by_cases hl : c < n
        · rw [if_pos (by omega)]; rw [if_pos hl] at ih; omega
        · rw [if_neg (by omega)]; rw [if_neg hl] at ih; omega
/-- place left isThrough nextColumn pulledAs wasBack doneOn did reasonNow reasons pulls length lastMove moved thereOn -/
abbrev RS : Type := XF × XF × XF × XF × XF × XF × XF × XF × XF × XF × Nat × Int32 × Int32 × Int32 × Nat
def mP (z : RS) : XF := z.1
def mL (z : RS) : XF := z.2.1
def mT (z : RS) : XF := z.2.2.1
def mN (z : RS) : XF := z.2.2.2.1
def mX (z : RS) : XF := z.2.2.2.2.1
def mB (z : RS) : XF := z.2.2.2.2.2.1
def mD (z : RS) : XF := z.2.2.2.2.2.2.1
def mW (z : RS) : XF := z.2.2.2.2.2.2.2.1
def mR (z : RS) : XF := z.2.2.2.2.2.2.2.2.1
def mS (z : RS) : XF := z.2.2.2.2.2.2.2.2.2.1
def mK (z : RS) : Nat := z.2.2.2.2.2.2.2.2.2.2.1
def mE (z : RS) : Int32 := z.2.2.2.2.2.2.2.2.2.2.2.1
def mM (z : RS) : Int32 := z.2.2.2.2.2.2.2.2.2.2.2.2.1
def mV (z : RS) : Int32 := z.2.2.2.2.2.2.2.2.2.2.2.2.2.1
def mH (z : RS) : Nat := z.2.2.2.2.2.2.2.2.2.2.2.2.2.2
def bnF (z : RS) : RS := (fl (mP z) (-1) 16, fl (mL z) 0 16, fl (mT z) 0 16, fl (mN z) 0 16, mX z, fl (mB z) 0 16, fl (mD z) (-1) 16, mW z, fl (mR z) (-1) 16, fl (mS z) 0 80, 0, -1, -1, mV z, mH z)
def plO (szs : XF) (k : Nat) (z : RS) (c : Nat) : RS := (upd (mP z) c (nI k), upd (mL z) c (szs (4 * c + k)), upd (mT z) c 0, mN z, upd (mX z) c (nI (mK z)), mB z, mD z, mW z, mR z, mS z, mK z + 1, mE z, mM z, 1, mH z)
def seL (cday urg waits rl rn : XF) (n : Nat) (alike : Int32) (k : Nat) (z : RS) : Nat := slN (fun c => mgP urg waits rl rn n alike (mP z) (mT z) (mN z) (mD z) k c) (fun a b => ahP urg cday alike a b) n
def puM (cday urg szs waits rl rn : XF) (n : Nat) (alike : Int32) (k : Nat) : Nat → RS → RS
  | 0, z => z
  | f + 1, z => if seL cday urg waits rl rn n alike k z = 0 then z else puM cday urg szs waits rl rn n alike k f (plO szs k z (seL cday urg waits rl rn n alike k z - 1))
def rdC (waits : XF) (n k : Nat) (z : RS) : Nat := cnt (fun b => rdP waits (mP z) (mT z) (mN z) (mD z) k b) n
theorem rdC_le (waits : XF) (n k : Nat) (z : RS) : rdC waits n k z ≤ n := cnt_le _ n
theorem rdC_plO {waits szs : XF} {n k : Nat} {z : RS} {c : Nat} (hk : k < 4) (hc : c < n) (h : rdP waits (mP z) (mT z) (mN z) (mD z) k c) : rdC waits n k (plO szs k z c) + 1 = rdC waits n k z := by
  have h1 := cnt_dec (P := fun b => rdP waits (mP z) (mT z) (mN z) (mD z) k b) (P' := fun b => rdP waits (mP (plO szs k z c)) (mT (plO szs k z c)) (mN (plO szs k z c)) (mD (plO szs k z c)) k b) (c := c) ?_ h ?_ n
  · rw [if_pos hc] at h1
    exact h1
  · intro b hb
    show rdP waits (upd (mP z) c (nI k)) (upd (mT z) c 0) (mN z) (mD z) k b ↔ _
    have e1 : upd (mP z) c (nI k) b = mP z b := if_neg hb
    have e2 : upd (mT z) c 0 b = mT z b := if_neg hb
    unfold rdP
    rw [e1, e2]
  · show ¬ rdP waits (upd (mP z) c (nI k)) (upd (mT z) c 0) (mN z) (mD z) k c
    have e1 : upd (mP z) c (nI k) c = nI k := if_pos rfl
    have e2 : upd (mT z) c 0 c = 0 := if_pos rfl
    intro q
    rcases q with q | q
    · rw [e1] at q
      rcases (show k = 0 ∨ k = 1 ∨ k = 2 ∨ k = 3 by omega) with rfl | rfl | rfl | rfl <;> exact absurd q.1 (by decide)
    · exact q.2.2.1 e2
/-- a card is through -/
def thM (bfrom bto : XF) (nc : Nat) (day : Int32) (z : RS) (c k : Nat) : RS :=
  if bfrom c = nI k ∧ mB z c = 0 then (mP z, mL z, upd (mT z) c 1, upd (mN z) c (bto c), mX z, upd (mB z) c 1, mD z, upd (mW z) c 1, mR z, mS z, mK z, mE z, mM z, mV z, mH z)
  else if nI k = nI nc - 1 then (upd (mP z) c 10, mL z, upd (mT z) c 1, mN z, mX z, mB z, upd (mD z) c day, upd (mW z) c 1, mR z, mS z, mK z, mE z, mM z, mV z, mH z)
  else (mP z, mL z, upd (mT z) c 1, upd (mN z) c (nI (k + 1)), mX z, mB z, mD z, upd (mW z) c 1, mR z, mS z, mK z, mE z, mM z, mV z, mH z)
theorem thM_X {bfrom bto : XF} {nc : Nat} {day : Int32} {z : RS} {c k : Nat} : mX (thM bfrom bto nc day z c k) = mX z := by unfold thM; split; rfl; split <;> rfl
abbrev nwP (urg : XF) (alike : Int32) (place thr pas : XF) (k : Nat) (u : Bool) (bh : Int32) (b : Nat) : Prop := place b = nI k ∧ thr b = 0 ∧ (urgP urg alike b ↔ u = true) ∧ ¬ pas b ≤ bh
def nwN (urg : XF) (n : Nat) (alike : Int32) (place thr pas : XF) (k : Nat) (u : Bool) (bh : Int32) : Nat := slN (fun b => nwP urg alike place thr pas k u bh b) (fun a b => ¬ pas b ≤ pas a) n
def mnU (x y : Int32) : Int32 := if y ≤ x then y else x
def zlF (z : RS) (c : Nat) (v : Int32) : RS := (mP z, upd (mL z) c (mL z c - v), mT z, mN z, mX z, mB z, mD z, mW z, mR z, mS z, mK z, mE z, mM z, mV z, mH z)
def zdF (z : RS) (c : Nat) : RS := (mP z, mL z, mT z, mN z, mX z, mB z, mD z, upd (mW z) c 1, mR z, mS z, mK z, mE z, mM z, mV z, mH z)
def wkU (rpac : Int32) (z : RS) (un : Int32) (c : Nat) : Int32 := mnU (mnU (mL z c) un) rpac
def wk2 (rpac : Int32) (z : RS) (un : Int32) (c : Nat) : RS := if wkU rpac z un c ≤ 0 then zlF z c (wkU rpac z un c) else zdF (zlF z c (wkU rpac z un c)) c
def wk1 (bfrom bto : XF) (nc : Nat) (day rpac : Int32) (z : RS) (un : Int32) (c k : Nat) : RS := if mL (wk2 rpac z un c) c = 0 then thM bfrom bto nc day (wk2 rpac z un c) c k else wk2 rpac z un c
theorem wk1_X {bfrom bto : XF} {nc : Nat} {day rpac : Int32} {z : RS} {un : Int32} {c k : Nat} : mX (wk1 bfrom bto nc day rpac z un c k) = mX z := by
  have h : mX (wk2 rpac z un c) = mX z := by unfold wk2; split <;> rfl
  unfold wk1
  split
  · rw [thM_X, h]
  · exact h
section WK
variable (urg bfrom bto : XF) (n nc : Nat) (alike day rpac : Int32) (k : Nat) (u : Bool)
def wkL : Nat → RS → Int32 → Int32 → RS × Int32
  | 0, z, un, _ => (z, un)
  | f + 1, z, un, bh => if nwN urg n alike (mP z) (mT z) (mX z) k u bh = 0 then (z, un) else
      wkL f (wk1 bfrom bto nc day rpac z un (nwN urg n alike (mP z) (mT z) (mX z) k u bh - 1) k) (un - wkU rpac z un (nwN urg n alike (mP z) (mT z) (mX z) k u bh - 1)) (mX z (nwN urg n alike (mP z) (mT z) (mX z) k u bh - 1))
end WK
theorem wkL_s {urg bfrom bto : XF} {n nc : Nat} {alike day rpac : Int32} {k : Nat} {u : Bool} {f : Nat} {z : RS} {un bh : Int32} {y : Nat} (h : nwN urg n alike (mP z) (mT z) (mX z) k u bh = y + 1) : wkL urg bfrom bto n nc alike day rpac k u (f + 1) z un bh = wkL urg bfrom bto n nc alike day rpac k u f (wk1 bfrom bto nc day rpac z un y k) (un - wkU rpac z un y) (mX z y) := by
  rw [wkL, h]; rfl
def bhC (n : Nat) (pas : XF) (bh : Int32) : Nat := cnt (fun b => ¬ pas b ≤ bh) n
theorem bhC_le (n : Nat) (pas : XF) (bh : Int32) : bhC n pas bh ≤ n := cnt_le _ n
theorem cnt_mono {P P' : Nat → Prop} [DecidablePred P] [DecidablePred P'] (h : ∀ b, P' b → P b) : ∀ n, cnt P' n ≤ cnt P n
  | 0 => Nat.le_refl 0
  | n + 1 => by
    have ih := cnt_mono h n
    unfold cnt
    by_cases hp : P' n
    · rw [if_pos hp, if_pos (h n hp)]; omega
    · rw [if_neg hp]; split <;> omega
theorem cnt_lt {P P' : Nat → Prop} [DecidablePred P] [DecidablePred P'] (h : ∀ b, P' b → P b) {c : Nat} (h1 : P c) (h2 : ¬ P' c) : ∀ n, c < n → cnt P' n + 1 ≤ cnt P n
  | 0, hc => absurd hc (Nat.not_lt_zero c)
  | n + 1, hc => by
    unfold cnt
    by_cases he : n = c
    · subst he
      have := cnt_mono h n
      rw [if_neg h2, if_pos h1]; omega
    · have ih := cnt_lt h h1 h2 n (by omega)
      by_cases hp : P' n
      · rw [if_pos hp, if_pos (h n hp)]; omega
      · rw [if_neg hp]; split <;> omega
theorem bhC_lt {n : Nat} {pas : XF} {bh : Int32} {c : Nat} (hc : c < n) (h : ¬ pas c ≤ bh) : bhC n pas (pas c) + 1 ≤ bhC n pas bh :=
  cnt_lt (P := fun b => ¬ pas b ≤ bh) (P' := fun b => ¬ pas b ≤ pas c) (fun b hb q => hb (Int32.le_trans q (Int32.le_of_lt (Int32.not_le.mp h)))) h (fun q => q (Int32.le_refl _)) n hc
section DW
variable (cday urg szs waits bfrom bto rl rn rh : XF) (n nc : Nat) (alike rpac : Int32) (day : Int32)
def wkJ (k : Nat) : Nat → RS → Int32 → RS × Int32
  | 0, z, un => (z, un)
  | j + 1, z, un => wkJ k j (wkL urg bfrom bto n nc alike day rpac k (decide (j = 1)) 17 z un (-1)).1 (wkL urg bfrom bto n nc alike day rpac k (decide (j = 1)) 17 z un (-1)).2
def wkF (k : Nat) (z : RS) : RS := (wkJ urg bfrom bto n nc alike rpac day k 2 z (rh k)).1
def plA (z : RS) (c : Nat) : Int32 := if cday c = day then 11 else mP z c
def da0 (z : RS) : RS := (mP z, mL z, mT z, mN z, mX z, mB z, mD z, mW z, mR z, mS z, mK z, mE z, mM z, 0, 0)
def daA (z : RS) (c : Nat) : RS := (upd (mP z) c (plA cday day z c), mL z, mT z, mN z, mX z, mB z, mD z, upd (mW z) c 0, upd (mR z) c (if plA cday day z c = -1 ∨ plA cday day z c = 10 then -1 else 0), mS z, mK z, mE z, mM z, mV z, mH z + (if plA cday day z c = -1 ∨ plA cday day z c = 10 then 0 else 1))
def daB : Nat → RS → RS
  | 0, z => z
  | j + 1, z => daB j (puM cday urg szs waits rl rn n alike j 17 z)
def rsV (z : RS) (c : Nat) : Int32 := if mP z c = 11 then (if mwP (mD z) waits c then 2 else 3) else if mT z c = 0 then 4 else 3
def daC (z : RS) (c : Nat) : RS := if mR z c = 0 then (mP z, mL z, mT z, mN z, mX z, mB z, mD z, mW z, upd (mR z) c (rsV waits z c), mS z, mK z, mE z, mM z, mV z, mH z) else z
def daD (z : RS) (k : Nat) : RS := wkF urg bfrom bto rh n nc alike rpac day k z
def daE (z : RS) (c : Nat) : RS := if mW z c = 0 then z else (mP z, mL z, mT z, mN z, mX z, mB z, mD z, mW z, upd (mR z) c 1, mS z, mK z, mE z, mM z, 1, mH z)
def daZ (z : RS) : RS := (mP z, mL z, mT z, mN z, mX z, mB z, mD z, mW z, mR z, mS z, mK z, mE z, (if mV z = 0 then mM z else day), mV z, mH z)
def dw1 (z : RS) : RS := itN (daA cday day) (da0 z) n
def dw2 (z : RS) : RS := daB cday urg szs waits rl rn n alike nc (dw1 cday n day z)
def dw3 (z : RS) : RS := itN (daC waits) (dw2 cday urg szs waits rl rn n nc alike day z) n
def dw4 (z : RS) : RS := itN (daD urg bfrom bto rh n nc alike rpac day) (dw3 cday urg szs waits rl rn n nc alike day z) nc
def dw5 (z : RS) : RS := itN daE (dw4 cday urg szs waits bfrom bto rl rn rh n nc alike rpac day z) n
def dwF (z : RS) : RS := daZ day (dw5 cday urg szs waits bfrom bto rl rn rh n nc alike rpac day z)
end DW
def lmF (cday : XF) : Nat → Int32 | 0 => 0 | i + 1 => if cday i ≤ lmF cday i then lmF cday i else cday i
def agM (don cday : XF) (c : Nat) : Int32 := if 0 ≤ don c then don c - cday c + 1 else -1
