/-! the reference's days -/
section RN
variable (cday urg szs waits bfrom bto rl rn rh : XF) (n nc : Nat) (alike rpac : Int32)
/-- reasons keep to -1, 0 .. 4 -/
def rvI (n : Nat) (f : XF) : Prop := ∀ c, c < n → f c = -1 ∨ vp_in (f c) 5
theorem rvI_upd {n : Nat} {f : XF} {c : Nat} {v : Int32} (h : rvI n f) (hv : v = -1 ∨ vp_in v 5) : rvI n (upd f c v) := by
  intro b hb
  unfold upd
  split
  · exact hv
  · exact h b hb
theorem rv_lit : vp_in 0 5 ∧ vp_in 1 5 ∧ vp_in 2 5 ∧ vp_in 3 5 ∧ vp_in 4 5 := ⟨vp_in_nI (n := 0) (by omega) (by omega), vp_in_nI (n := 1) (by omega) (by omega), vp_in_nI (n := 2) (by omega) (by omega), vp_in_nI (n := 3) (by omega) (by omega), vp_in_nI (n := 4) (by omega) (by omega)⟩
theorem puM_R (k : Nat) : ∀ (f : Nat) (z : RS), mR (puM cday urg szs waits rl rn n alike k f z) = mR z
  | 0, _ => rfl
  | f + 1, z => by
    unfold puM
    split
    · rfl
    · exact puM_R k f (plO szs k z _)
theorem daB_R : ∀ (j : Nat) (z : RS), mR (daB cday urg szs waits rl rn n alike j z) = mR z
  | 0, _ => rfl
  | j + 1, z => (daB_R j _).trans (puM_R _ _ _ _ _ _ _ _ _ _ _)
theorem thM_R {day : Int32} {z : RS} {c k : Nat} : mR (thM bfrom bto nc day z c k) = mR z := by unfold thM; split; rfl; split <;> rfl
theorem wk1_R {day : Int32} {z : RS} {un : Int32} {c k : Nat} : mR (wk1 bfrom bto nc day rpac z un c k) = mR z := by
  have h : mR (wk2 rpac z un c) = mR z := by unfold wk2; split <;> rfl
  unfold wk1
  split
  · rw [thM_R, h]
  · exact h
theorem wkL_R {day : Int32} {k : Nat} {u : Bool} : ∀ (f : Nat) (z : RS) (un bh : Int32), mR (wkL urg bfrom bto n nc alike day rpac k u f z un bh).1 = mR z
  | 0, _, _, _ => rfl
  | f + 1, z, un, bh => by
    unfold wkL
    split
    · rfl
    · rw [wkL_R f, wk1_R]
theorem wkF_R {day : Int32} {k : Nat} {z : RS} : mR (wkF urg bfrom bto rh n nc alike rpac day k z) = mR z := by
  show mR (wkL _ _ _ _ _ _ _ _ _ _ 17 (wkL _ _ _ _ _ _ _ _ _ _ 17 z _ _).1 _ _).1 = mR z
  rw [wkL_R, wkL_R]
theorem itD_R {day : Int32} {z : RS} : ∀ i, mR (itN (daD urg bfrom bto rh n nc alike rpac day) z i) = mR z
  | 0 => rfl
  | i + 1 => (wkF_R ..).trans (itD_R i)
theorem dwF_R (day : Int32) (z : RS) : rvI n (mR (dwF cday urg szs waits bfrom bto rl rn rh n nc alike rpac day z)) := by
  have h1 : ∀ i, ∀ c, c < i → mR (itN (daA cday day) (da0 z) i) c = -1 ∨ vp_in (mR (itN (daA cday day) (da0 z) i) c) 5 := by
    intro i
    induction i with
    | zero => intro c hc; exact absurd hc (Nat.not_lt_zero c)
    | succ i ih =>
      intro c hc
      show upd _ i _ c = -1 ∨ vp_in (upd _ i _ c) 5
      unfold upd
      split
      · split
        · exact Or.inl rfl
        · exact Or.inr rv_lit.1
      · exact ih c (by omega)
  have h2 : rvI n (mR (dw2 cday urg szs waits rl rn n nc alike day z)) := by
    unfold dw2
    rw [daB_R]
    exact h1 n
  have h3 : ∀ i, rvI n (mR (itN (daC waits) (dw2 cday urg szs waits rl rn n nc alike day z) i)) := by
    intro i
    induction i with
    | zero => exact h2
    | succ i ih =>
      show rvI n (mR (daC waits _ i))
      unfold daC
      split
      · refine rvI_upd ih (Or.inr ?_)
        unfold rsV
        split
        · split
          · exact rv_lit.2.2.1
          · exact rv_lit.2.2.2.1
        · split
          · exact rv_lit.2.2.2.2
          · exact rv_lit.2.2.2.1
      · exact ih
  have h4 : rvI n (mR (dw4 cday urg szs waits bfrom bto rl rn rh n nc alike rpac day z)) := by
    unfold dw4
    rw [itD_R]
    exact h3 n
  have h5 : ∀ i, rvI n (mR (itN daE (dw4 cday urg szs waits bfrom bto rl rn rh n nc alike rpac day z) i)) := by
    intro i
    induction i with
    | zero => exact h4
    | succ i ih =>
      show rvI n (mR (daE _ i))
      unfold daE
      split
      · exact ih
      · exact rvI_upd ih (Or.inr rv_lit.2.1)
  exact h5 n
def rnE (d : Nat) (z : RS) : RS := if mV z = 0 ∧ ¬ nI d < lmF cday n then (mP z, mL z, mT z, mN z, mX z, mB z, mD z, mW z, mR z, mS z, mK z, (if n = 0 then 0 else nI d), mM z, mV z, mH z) else z
def rnB (R : XF) (f : XF) (c : Nat) : XF := if R c ≤ 0 then f else upd f (5 * c + ix R c) (f (5 * c + ix R c) + 1)
def rnT (z : RS) (g : XF) : RS := (mP z, mL z, mT z, mN z, mX z, mB z, mD z, mW z, mR z, g, mK z, mE z, mM z, mV z, mH z)
def rnS (z : RS) : RS := if 0 ≤ mE z then z else rnT z (itN (rnB (mR z)) (mS z) n)
theorem rnS_n {z : RS} (h : 0 ≤ mE z → n = 0) : rnS n z = rnT z (itN (rnB (mR z)) (mS z) n) := by
  unfold rnS
  split
  · rename_i hq
    have h0 := h hq
    subst h0
    rfl
  · rfl
def rn1 (d : Nat) (z : RS) : RS := rnS n (rnE cday n d (dwF cday urg szs waits bfrom bto rl rn rh n nc alike rpac (nI d) z))
def rnG : Nat → Nat → RS → RS
  | 0, _, z => z
  | k + 1, d, z => if 0 ≤ mE z then z else rnG k (d + 1) (rn1 cday urg szs waits bfrom bto rl rn rh n nc alike rpac d z)
theorem rnG_r (k d : Nat) {z : RS} (h : 0 ≤ mE z) : rnG cday urg szs waits bfrom bto rl rn rh n nc alike rpac k d z = z := by
  cases k with
  | zero => rfl
  | succ k => exact if_pos h
theorem rnG_s (k d : Nat) {z : RS} (h : ¬ 0 ≤ mE z) : rnG cday urg szs waits bfrom bto rl rn rh n nc alike rpac (k + 1) d z = rnG cday urg szs waits bfrom bto rl rn rh n nc alike rpac k (d + 1) (rn1 cday urg szs waits bfrom bto rl rn rh n nc alike rpac d z) := if_neg h
def rnF (a : Nat) (z : RS) : RS := rnG cday urg szs waits bfrom bto rl rn rh n nc alike rpac (1 + a) 0 (bnF z)
end RN
