/-! rows about the class's day, and the days one behind another -/
theorem dn_of (n : Nat) : nI n - 1 = dn n := by
  cases n with
  | zero => decide
  | succ n => exact nI_pred n
theorem dn_1 (n : Nat) : dn n + 1 = nI n := by
  cases n with
  | zero => decide
  | succ n => exact nI_1 n
theorem nl2_le (f : XF) (c p : Nat) (h : p ≤ 16) : nl2 f c p ≤ 16 := by unfold nl2; split <;> omega
theorem piF_s (urg waits byd szs : XF) (n : Nat) (nob day : Int32) (k : Nat) (u : Bool) (most : Int32) (j i : Nat) (s : CS) : piF urg waits byd szs n nob day k u most (j + 1) i s = (if csN s (ix byd i) = nI k ∧ (urgP urg nob (ix byd i) ↔ u = true) ∧ ¬ wtP (csP s) (csD s) waits n day (ix byd i) then
      (if nI (cnt (fun b => ciP urg nob u k (csP s) b) n) < most then piF urg waits byd szs n nob day k u most j (i + 1) (puF szs k s (ix byd i)) else s)
    else piF urg waits byd szs n nob day k u most j (i + 1) s) := rfl
section EC
variable (bfrom bto : XF) (nc : Nat) (day : Int32) (s : CS) (c k : Nat)
theorem ecF_L : csL (ecF bfrom bto nc day s c k) = csL s := by unfold ecF; split; rfl; split <;> rfl
theorem ecF_W : csW (ecF bfrom bto nc day s c k) = csW s := by unfold ecF; split; rfl; split <;> rfl
theorem ecF_U : csU (ecF bfrom bto nc day s c k) = csU s := by unfold ecF; split; rfl; split <;> rfl
theorem ecF_H : csH (ecF bfrom bto nc day s c k) = csH s := by unfold ecF; split; rfl; split <;> rfl
theorem ecF_C : csC (ecF bfrom bto nc day s c k) = csC s := by unfold ecF; split; rfl; split <;> rfl
theorem ecF_A : csA (ecF bfrom bto nc day s c k) = csA s := by unfold ecF; split; rfl; split <;> rfl
theorem wcW_P : csP (wcW s c) = csP s := rfl
theorem wcW_N : csN (wcW s c) = csN s := rfl
theorem wcW_L : csL (wcW s c) = csL s := rfl
theorem wcW_D : csD (wcW s c) = csD s := rfl
theorem wcW_W : csW (wcW s c) = upd (csW s) c 1 := rfl
theorem wcW_B : csB (wcW s c) = csB s := rfl
theorem wcW_U : csU (wcW s c) = csU s := rfl
theorem wcW_H : csH (wcW s c) = csH s := rfl
theorem wcW_C : csC (wcW s c) = csC s := rfl
theorem wcW_A : csA (wcW s c) = 1 := rfl
theorem wc2_U (pac : Int32) : csU (wc2 bfrom bto nc day pac s c k) = csU s := by unfold wc2; split; rw [ecF_U]; rfl; rfl
theorem wc2_C (pac : Int32) : csC (wc2 bfrom bto nc day pac s c k) = csC s := by unfold wc2; split; rw [ecF_C]; rfl; rfl
theorem wcF_U (pac : Int32) : csU (wcF bfrom bto nc day pac s c k) = csU s := by unfold wcF; split; rw [wcW_U, wc2_U]; rw [wc2_U]
theorem wcF_C (pac : Int32) : csC (wcF bfrom bto nc day pac s c k) = csC s := by unfold wcF; split; rw [wcW_C, wc2_C]; rw [wc2_C]
end EC
/-- the row of pulled cards holds cards -/
def UV (n : Nat) (s : CS) : Prop := csC s ≤ 16 ∧ ∀ t, t < csC s → vp_in (csU s t) n
theorem nlF_in {f : XF} {n : Nat} (c : Nat) {p : Nat} (h : ∀ t, t < p → vp_in (f t) n) : ∀ i, i ≤ p → (∀ t, t < (nlF f c i).2 → vp_in ((nlF f c i).1 t) n) ∧ (∀ t, i ≤ t → (nlF f c i).1 t = f t)
  | 0, _ => ⟨fun t ht => absurd ht (Nat.not_lt_zero t), fun _ _ => rfl⟩
  | i + 1, hi => by
    obtain ⟨h1, h2⟩ := nlF_in c h i (by omega)
    have h3 := nlF_le f c i
    unfold nlF
    split
    · exact ⟨h1, fun t ht => h2 t (by omega)⟩
    · refine ⟨fun t ht => ?_, fun t ht => ?_⟩
      · show vp_in (upd _ _ _ t) n
        unfold upd
        by_cases hz : t = (nlF f c i).2
        · rw [if_pos hz, h2 i (Nat.le_refl i)]
          exact h i (by omega)
        · rw [if_neg hz]
          have ht' : t < (nlF f c i).2 + 1 := ht
          exact h1 t (by omega)
      · show upd _ _ _ t = f t
        unfold upd
        rw [if_neg (by omega)]
        exact h2 t (by omega)
theorem UV_pu {szs : XF} {k n c : Nat} {s : CS} (h : UV n s) (hc : c < n) (hn : n ≤ 16) : UV n (puF szs k s c) := by
  obtain ⟨h1, h2⟩ := h
  refine ⟨nl2_le _ _ _ h1, fun t ht => ?_⟩
  have h3 := nlF_in c h2 (csC s) (Nat.le_refl _)
  have ht : t < nl2 (csU s) c (csC s) := ht
  show vp_in (nl1 (csU s) c (csC s) t) n
  unfold nl1
  unfold nl2 at ht
  split at ht
  · rename_i hq
    rw [if_pos hq]
    unfold upd
    split
    · exact vp_in_nI hc (by omega)
    · exact h3.1 t (by omega)
  · rename_i hq
    rw [if_neg hq]
    exact h3.1 t (by have := nlF_le (csU s) c (csC s); omega)
theorem UV_pi {urg waits byd szs : XF} {n : Nat} {nob day : Int32} {k : Nat} {u : Bool} {most : Int32} (hb : ∀ t, t < n → vp_in (byd t) n) (hn : n ≤ 16) : ∀ (j i : Nat) (s : CS), i + j ≤ n → UV n s → UV n (piF urg waits byd szs n nob day k u most j i s)
  | 0, _, _, _, h => h
  | j + 1, i, s, hi, h => by
    rw [piF_s]
    split
    · split
      · exact UV_pi hb hn j (i + 1) _ (by omega) (UV_pu h (vp_lt (hb i (by omega))) hn)
      · exact h
    · exact UV_pi hb hn j (i + 1) s (by omega) h
theorem UV_tw {urg bfrom bto : XF} {n nc : Nat} {nob day pac : Int32} {u : Bool} {s : CS} (h : UV n s) : ∀ i, csU (itN (twB urg bfrom bto nc nob day pac u) s i) = csU s ∧ csC (itN (twB urg bfrom bto nc nob day pac u) s i) = csC s
  | 0 => ⟨rfl, rfl⟩
  | i + 1 => by
    obtain ⟨h1, h2⟩ := UV_tw h i (urg := urg) (bfrom := bfrom) (bto := bto) (nc := nc) (nob := nob) (day := day) (pac := pac) (u := u)
    simp only [itN]
    generalize itN (twB urg bfrom bto nc nob day pac u) s i = s1 at h1 h2
    unfold twB
    split
    · exact ⟨(wcF_U ..).trans h1, (wcF_C ..).trans h2⟩
    · exact ⟨h1, h2⟩
theorem UV_twF {urg bfrom bto : XF} {n nc : Nat} {nob day pac : Int32} {u : Bool} {s : CS} (h : UV n s) : UV n (twF urg bfrom bto nc nob day pac u s) := by
  obtain ⟨h1, h2⟩ := UV_tw h (csC s) (urg := urg) (bfrom := bfrom) (bto := bto) (nc := nc) (nob := nob) (day := day) (pac := pac) (u := u)
  unfold twF UV
  rw [h1, h2]
  exact h
theorem bg_UC {cday : XF} {day : Int32} {s : CS} : ∀ i, csU (itN (bgB cday day) (bg0 s) i) = csU s ∧ csC (itN (bgB cday day) (bg0 s) i) = csC s
  | 0 => ⟨rfl, rfl⟩
  | i + 1 => by
    obtain ⟨h1, h2⟩ := bg_UC i (cday := cday) (day := day) (s := s)
    simp only [itN]
    generalize itN (bgB cday day) (bg0 s) i = s1 at h1 h2
    unfold bgB
    split
    · exact ⟨h1, h2⟩
    · exact ⟨h1, h2⟩
theorem UV_bg {cday : XF} {n m : Nat} {day : Int32} {s : CS} (h : UV n s) : UV n (bgF cday m day s) := by
  obtain ⟨h1, h2⟩ := bg_UC m (cday := cday) (day := day) (s := s)
  unfold bgF UV
  rw [h1, h2]
  exact h
section RUN
variable (cday urg waits bfrom bto byd szs lim lan han : XF) (n nc : Nat) (nob pac : Int32)
/-- the pulls of a day, column by column, from column j - 1 down -/
def plF (day : Int32) : Nat → CS → CS
  | 0, s => s
  | j + 1, s => plF day j (piF urg waits byd szs n nob day j false (lim j) n 0 (piF urg waits byd szs n nob day j true (lan j) n 0 s))
def hsF (s : CS) : CS := (csP s, csN s, csL s, csD s, csW s, csB s, csU s, va_cpy han (csH s) 0 0 4, csC s, csA s)
/-- a day behind j of them -/
def ndF (j : Nat) (s : CS) : CS := twF urg bfrom bto nc nob (nI j) pac false (twF urg bfrom bto nc nob (nI j) pac true (hsF han (plF urg waits byd szs lim lan n nob (nI j) nc (bgF cday n (nI j) s))))
theorem UV_pl {day : Int32} (hb : ∀ t, t < n → vp_in (byd t) n) (hn : n ≤ 16) : ∀ (j : Nat) (s : CS), UV n s → UV n (plF urg waits byd szs lim lan n nob day j s)
  | 0, _, h => h
  | j + 1, _, h => UV_pl hb hn j _ (UV_pi hb hn n 0 _ (by omega) (UV_pi hb hn n 0 _ (by omega) h))
theorem UV_nd {j : Nat} {s : CS} (hb : ∀ t, t < n → vp_in (byd t) n) (hn : n ≤ 16) (h : UV n s) : UV n (ndF cday urg waits bfrom bto byd szs lim lan han n nc nob pac j s) :=
  UV_twF (UV_twF (s := hsF han _) (UV_pl urg waits byd szs lim lan n nob hb hn nc _ (UV_bg h)))
/-- the day's cells, how many days were run, the last one on which something happened, at rest, the days by reasons -/
abbrev DS : Type := CS × Nat × Int32 × Int32 × XF
def dsC (D : DS) : CS := D.1
def dsJ (D : DS) : Nat := D.2.1
def dsM (D : DS) : Int32 := D.2.2.1
def dsR (D : DS) : Int32 := D.2.2.2.1
def dsF (D : DS) : XF := D.2.2.2.2
def ndL (j : Nat) (s : CS) (last : Int32) : Int32 := if csA (ndF cday urg waits bfrom bto byd szs lim lan han n nc nob pac j s) = 0 then last else nI j
def ndR (j : Nat) (s : CS) : Int32 := b2 (csA (ndF cday urg waits bfrom bto byd szs lim lan han n nc nob pac j s) = 0 ∧ ¬ nI j < lcF cday byd n)
def crB (s : CS) (day : Int32) (f : XF) (c : Nat) : XF := if reF (csP s) (csN s) (csD s) (csW s) waits n day c = -1 then f else upd f (c * 4 + (reF (csP s) (csN s) (csD s) (csW s) waits n day c).toNatClampNeg - 1) (f (c * 4 + (reF (csP s) (csN s) (csD s) (csW s) waits n day c).toNatClampNeg - 1) + 1)
def crF (s : CS) (day : Int32) (f : XF) : XF := itN (crB waits n s day) f n
/-- a day, its reasons not counted -/
def nd1 (D : DS) : DS := (ndF cday urg waits bfrom bto byd szs lim lan han n nc nob pac (dsJ D) (dsC D), dsJ D + 1, ndL cday urg waits bfrom bto byd szs lim lan han n nc nob pac (dsJ D) (dsC D) (dsM D), ndR cday urg waits bfrom bto byd szs lim lan han n nc nob pac (dsJ D) (dsC D), dsF D)
def cr1 (D : DS) : DS := (dsC D, dsJ D, dsM D, dsR D, crF waits n (dsC D) (dn (dsJ D)) (dsF D))
def st1 (D : DS) : DS := if dsR (nd1 cday urg waits bfrom bto byd szs lim lan han n nc nob pac D) = 0 then cr1 waits n (nd1 cday urg waits bfrom bto byd szs lim lan han n nc nob pac D) else nd1 cday urg waits bfrom bto byd szs lim lan han n nc nob pac D
/-- k days more, or fewer, if it comes to rest -/
def sdG : Nat → DS → DS
  | 0, D => D
  | k + 1, D => if dsR D = 0 then sdG k (st1 cday urg waits bfrom bto byd szs lim lan han n nc nob pac D) else D
def rsC (s : CS) : CS := (fl (csP s) (-1) 16, fl (csN s) (-1) 16, fl (csL s) 0 16, fl (csD s) (-1) 16, csW s, fl (csB s) 0 16, csU s, csH s, 0, csA s)
def rs1 (D : DS) : DS := (rsC (dsC D), 0, -1, 0, fl (dsF D) 0 64)
def sd0 (a : Nat) (D : DS) : DS := if a + 1 < dsJ D then rs1 D else D
def sdF (a : Nat) (D : DS) : DS := sdG cday urg waits bfrom bto byd szs lim lan han n nc nob pac (a + 1 - dsJ (sd0 a D)) (sd0 a D)
end RUN
theorem re_ix {place next don wkd waits : XF} {n : Nat} {day : Int32} {c : Nat} (h : ¬ reF place next don wkd waits n day c = -1) : 1 ≤ (reF place next don wkd waits n day c).toNatClampNeg ∧ (reF place next don wkd waits n day c).toNatClampNeg ≤ 4 ∧ reF place next don wkd waits n day c = nI (reF place next don wkd waits n day c).toNatClampNeg := by
  unfold reF at h ⊢
  split at h
  · exact absurd rfl h
  · rename_i h1
    rw [if_neg h1]
    split
    · decide
    · split
      · decide
      · split <;> decide
theorem dn_lt {a j : Nat} (ha : a < 2 ^ 31) (hj : j < 2 ^ 31) : nI a < dn j ↔ a + 1 < j := by
  cases j with
  | zero => exact ⟨fun h => absurd h (by rw [Int32.not_lt]; exact Int32.le_trans (by decide) (nI_pos' ha)), fun h => absurd h (by omega)⟩
  | succ j => exact (nI_ltI ha (by omega)).trans (by omega)
theorem dn_gt {a j : Nat} (ha : a < 2 ^ 31) (hj : j < 2 ^ 31) : dn j < nI a ↔ j ≤ a := by
  cases j with
  | zero => exact ⟨fun _ => Nat.zero_le a, fun _ => Int32.lt_of_lt_of_le (by decide) (nI_pos' ha)⟩
  | succ j => exact (nI_ltI (by omega) ha).trans (by omega)
