/-! pure words of the class's small methods -/
def dn : Nat → Int32 | 0 => -1 | j + 1 => nI j
theorem dn_m1 (j : Nat) : nI j + (-1) = dn j := by
  cases j with
  | zero => decide
  | succ j => exact pk_m1 j
def mn (x y : Int32) : Int32 := if y < x then y else x
theorem nI_self {x : Int32} {N : Nat} (h : vp_in x N) : x = nI x.toNatClampNeg := by
  obtain ⟨h1, h2⟩ := vp_in_iff.mp h
  apply Int32.toInt_inj.mp
  have h3 : x.toNatClampNeg < 2 ^ 31 := by
    have h4 : x.toNatClampNeg = x.toInt.toNat := rfl
    have h5 := Int32.toInt_lt x
    omega
  rw [nI_toInt h3]
  have h4 : x.toNatClampNeg = x.toInt.toNat := rfl
  omega
theorem vp_lt {x : Int32} {N : Nat} (h : vp_in x N) : x.toNatClampNeg < N := Nat.not_le.mp fun q => h (Or.inr q)
theorem vp_mono {x : Int32} {N M : Nat} (h : vp_in x N) (hm : N ≤ M) : vp_in x M := fun q => h (q.elim Or.inl (fun z => Or.inr (Nat.le_trans hm z)))
theorem vp_of {x : Int32} {n : Nat} (h0 : ¬ x < 0) (h1 : ¬ nI n ≤ x) (hn : n < 2 ^ 31) : vp_in x n := by
  rcases pk_ix x hn with h | h | ⟨j, hj, rfl⟩
  · exact absurd h h0
  · exact absurd h h1
  · exact vp_in_nI hj hn
theorem vp_to {x : Int32} {n : Nat} (h : vp_in x n) (hn : n < 2 ^ 31) : ¬ x < 0 ∧ ¬ nI n ≤ x := by
  obtain ⟨j, hj, rfl⟩ := vp_in_of h hn
  exact ⟨nI_pos (by omega), nI_ge hj hn⟩
abbrev inC (k cols : Int32) : Prop := ¬ k < 0 ∧ ¬ cols ≤ k
abbrev urgP (urg : Nat → Int32) (nob : Int32) (c : Nat) : Prop := ¬ urg c = 0 ∧ nob = 0
abbrev dAh (don : Nat → Int32) (day : Int32) (c : Nat) : Prop := ¬ don c = -1 ∧ ¬ day ≤ don c
abbrev wtP (place don waits : Nat → Int32) (n : Nat) (day : Int32) (c : Nat) : Prop := place c = 11 ∧ inC (waits c) (nI n) ∧ ¬ dAh don day (waits c).toNatClampNeg
/-- how many below i -/
def cnt (P : Nat → Prop) [DecidablePred P] : Nat → Nat | 0 => 0 | i + 1 => cnt P i + (if P i then 1 else 0)
theorem cnt_le (P : Nat → Prop) [DecidablePred P] : ∀ i, cnt P i ≤ i
  | 0 => Nat.le_refl 0
  | i + 1 => by have := cnt_le P i; unfold cnt; split <;> omega
theorem cnt_t {P : Nat → Prop} [DecidablePred P] {i : Nat} (h : P i) : cnt P (i + 1) = cnt P i + 1 := by simp [cnt, h]
theorem cnt_f {P : Nat → Prop} [DecidablePred P] {i : Nat} (h : ¬ P i) : cnt P (i + 1) = cnt P i := by simp [cnt, h]
/-! arrays -/
abbrev XF : Type := Nat → Int32
abbrev ix (f : XF) (i : Nat) : Nat := (f i).toNatClampNeg
/-- the first i places hold v -/
def fl (f : XF) (v : Int32) (i : Nat) : XF := fun j => if j < i then v else f j
theorem fl_0 (f : XF) (v : Int32) : fl f v 0 = f := by funext j; simp [fl]
theorem fl_s (f : XF) (v : Int32) (i : Nat) : upd (fl f v i) i v = fl f v (i + 1) := by
  funext j
  unfold upd fl
  by_cases h : j = i
  · subst h; simp
  · rw [if_neg h]
    by_cases h2 : j < i
    · rw [if_pos h2, if_pos (by omega)]
    · rw [if_neg h2, if_neg (by omega)]
/-- the first i places hold g's -/
def tf (g f : XF) (i : Nat) : XF := fun j => if j < i then g j else f j
theorem tf_0 (g f : XF) : tf g f 0 = f := by funext j; simp [tf]
theorem tf_s (g f : XF) (i : Nat) {v : Int32} (h : v = g i) : upd (tf g f i) i v = tf g f (i + 1) := by
  subst h
  funext j
  unfold upd tf
  by_cases h : j = i
  · subst h; simp
  · rw [if_neg h]
    by_cases h2 : j < i
    · rw [if_pos h2, if_pos (by omega)]
    · rw [if_neg h2, if_neg (by omega)]
def sumI (F : XF) : Nat → Int32 | 0 => 0 | i + 1 => sumI F i + F i
def itN {α : Type} (f : α → Nat → α) (s : α) : Nat → α | 0 => s | i + 1 => f (itN f s i) i
/-- a new card's four sizes -/
def sz4 (f : XF) (c : Nat) : Nat → XF | 0 => f | i + 1 => upd (sz4 f c i) (c * 4 + i) 1
/-- a card into the row by the days of coming -/
def insF (cday : XF) (c : Nat) : XF → Nat → XF
  | b, 0 => upd b 0 (nI c)
  | b, i + 1 => if cday (ix b i) ≤ cday c then upd b (i + 1) (nI c) else insF cday c (upd b (i + 1) (b i)) i
def lcF (cday byd : XF) (n : Nat) : Int32 := if n = 0 then 0 else cday (ix byd (n - 1))
def toR (t b : Int32) : Int32 := if t = -1 then b else t
def toF (t b : XF) : XF := fun j => toR (t j) (b j)
def agF (don cday : XF) (c : Nat) : Int32 := if don c = -1 then -1 else don c - cday c + 1
abbrev thP (place don : XF) (day : Int32) (c : Nat) : Prop := ¬ place c = -1 ∧ ¬ dAh don day c
def reF (place next don wkd waits : XF) (n : Nat) (day : Int32) (c : Nat) : Int32 :=
  if ¬ thP place don day c then -1 else if ¬ wkd c = 0 then 1 else if wtP place don waits n day c then 2 else if next c = -1 then 4 else 3
/-- the least age by a share -/
abbrev noP (don cday : XF) (a : Int32) (b : Nat) : Prop := ¬ don b = -1 ∧ agF don cday b ≤ a
def shF (don cday : XF) (n : Nat) (share dn' : Int32) : Nat → Int32
  | 0 => -1
  | i + 1 => if (¬ agF don cday i = -1 ∧ ¬ nI (cnt (fun b => noP don cday (agF don cday i) b) n * 100) < share * dn') ∧ (shF don cday n share dn' i = -1 ∨ ¬ shF don cday n share dn' i ≤ agF don cday i) then agF don cday i else shF don cday n share dn' i
/-! a day of the class's run -/
/-- place next left doneOn worked beenBack pulled handsLeft pulledCount active -/
abbrev CS : Type := XF × XF × XF × XF × XF × XF × XF × XF × Nat × Int32
def csP (s : CS) : XF := s.1
def csN (s : CS) : XF := s.2.1
def csL (s : CS) : XF := s.2.2.1
def csD (s : CS) : XF := s.2.2.2.1
def csW (s : CS) : XF := s.2.2.2.2.1
def csB (s : CS) : XF := s.2.2.2.2.2.1
def csU (s : CS) : XF := s.2.2.2.2.2.2.1
def csH (s : CS) : XF := s.2.2.2.2.2.2.2.1
def csC (s : CS) : Nat := s.2.2.2.2.2.2.2.2.1
def csA (s : CS) : Int32 := s.2.2.2.2.2.2.2.2.2
/-- the row of pulled cards without card c: the row, and how many are kept, behind i of them -/
def nlF (f : XF) (c : Nat) : Nat → XF × Nat
  | 0 => (f, 0)
  | i + 1 => if (nlF f c i).1 i = nI c then nlF f c i else (upd (nlF f c i).1 (nlF f c i).2 ((nlF f c i).1 i), (nlF f c i).2 + 1)
theorem nlF_le (f : XF) (c : Nat) : ∀ i, (nlF f c i).2 ≤ i
  | 0 => Nat.le_refl 0
  | i + 1 => by have := nlF_le f c i; unfold nlF; split <;> simp <;> omega
def nl1 (f : XF) (c p : Nat) : XF := if (nlF f c p).2 < 16 then upd (nlF f c p).1 (nlF f c p).2 (nI c) else (nlF f c p).1
def nl2 (f : XF) (c p : Nat) : Nat := if (nlF f c p).2 < 16 then (nlF f c p).2 + 1 else p
def puF (szs : XF) (k : Nat) (s : CS) (c : Nat) : CS := (upd (csP s) c (nI k), upd (csN s) c (-1), upd (csL s) c (szs (c * 4 + k)), csD s, csW s, csB s, nl1 (csU s) c (csC s), csH s, nl2 (csU s) c (csC s), 1)
/-- cards of that day come -/
def bgB (cday : XF) (day : Int32) (s : CS) (c : Nat) : CS := if cday c = day then (upd (csP s) c 11, upd (csN s) c 0, csL s, csD s, upd (csW s) c 0, csB s, csU s, csH s, csC s, csA s) else (csP s, csN s, csL s, csD s, upd (csW s) c 0, csB s, csU s, csH s, csC s, csA s)
def bg0 (s : CS) : CS := (csP s, csN s, csL s, csD s, csW s, csB s, csU s, csH s, csC s, 0)
def bgF (cday : XF) (n : Nat) (day : Int32) (s : CS) : CS := itN (bgB cday day) (bg0 s) n
abbrev ciP (urg : XF) (nob : Int32) (u : Bool) (k : Nat) (place : XF) (b : Nat) : Prop := place b = nI k ∧ (urgP urg nob b ↔ u = true)
/-- pulls into a column, of the urgent ones or of the others, behind i cards of the row -/
def piF (urg waits byd szs : XF) (n : Nat) (nob day : Int32) (k : Nat) (u : Bool) (most : Int32) : Nat → Nat → CS → CS
  | 0, _, s => s
  | j + 1, i, s =>
    if csN s (ix byd i) = nI k ∧ (urgP urg nob (ix byd i) ↔ u = true) ∧ ¬ wtP (csP s) (csD s) waits n day (ix byd i) then
      if nI (cnt (ciP urg nob u k (csP s)) n) < most then piF urg waits byd szs n nob day k u most j (i + 1) (puF szs k s (ix byd i)) else s
    else piF urg waits byd szs n nob day k u most j (i + 1) s
/-- a card is through -/
def ecF (bfrom bto : XF) (nc : Nat) (day : Int32) (s : CS) (c k : Nat) : CS :=
  if nI k = bfrom c ∧ csB s c = 0 then (csP s, upd (csN s) c (bto c), csL s, csD s, csW s, upd (csB s) c 1, csU s, csH s, csC s, csA s)
  else if nI k = nI nc - 1 then (upd (csP s) c 10, csN s, csL s, upd (csD s) c day, csW s, csB s, csU s, csH s, csC s, csA s)
  else (csP s, upd (csN s) c (nI (k + 1)), csL s, csD s, csW s, csB s, csU s, csH s, csC s, csA s)
def wcU (pac : Int32) (s : CS) (c k : Nat) : Int32 := mn (csL s c) (mn (csH s k) pac)
def wc1 (pac : Int32) (s : CS) (c k : Nat) : CS := (csP s, csN s, upd (csL s) c (csL s c - wcU pac s c k), csD s, csW s, csB s, csU s, upd (csH s) k (csH s k - wcU pac s c k), csC s, csA s)
def wc2 (bfrom bto : XF) (nc : Nat) (day pac : Int32) (s : CS) (c k : Nat) : CS := if csL (wc1 pac s c k) c = 0 then ecF bfrom bto nc day (wc1 pac s c k) c k else wc1 pac s c k
def wcW (s : CS) (c : Nat) : CS := (csP s, csN s, csL s, csD s, upd (csW s) c 1, csB s, csU s, csH s, csC s, 1)
def wcF (bfrom bto : XF) (nc : Nat) (day pac : Int32) (s : CS) (c k : Nat) : CS :=
  if 0 < wcU pac s c k ∨ csL (wc2 bfrom bto nc day pac s c k) c = 0 then wcW (wc2 bfrom bto nc day pac s c k) c else wc2 bfrom bto nc day pac s c k
/-- one step of the work of the urgent ones or of the others -/
def twB (urg bfrom bto : XF) (nc : Nat) (nob day pac : Int32) (u : Bool) (s : CS) (i : Nat) : CS :=
  if inC (csP s (ix (csU s) i)) (nI nc) ∧ csN s (ix (csU s) i) = -1 ∧ (urgP urg nob (ix (csU s) i) ↔ u = true) then wcF bfrom bto nc day pac s (ix (csU s) i) (ix (csP s) (ix (csU s) i)) else s
def twF (urg bfrom bto : XF) (nc : Nat) (nob day pac : Int32) (u : Bool) (s : CS) : CS := itN (twB urg bfrom bto nc nob day pac u) s (csC s)
