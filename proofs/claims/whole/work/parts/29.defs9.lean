/-! rows for the reference's questions -/
theorem gru_DE {a : Nat} (ha : a ≤ 100000) (u : Bool) (g : MM) : dvI a (mD (gZ (gru u a g))) ∧ ∃ x, x ≤ a + 1 ∧ mE (gZ (gru u a g)) = dn x := rnF_DE ha _
theorem dvI_mono {a b : Nat} {f : XF} (h : dvI a f) (hab : a ≤ b) : dvI b f := fun c hc => (h c hc).elim Or.inl (fun ⟨d, hd, e⟩ => Or.inr ⟨d, Nat.le_trans hd hab, e⟩)
theorem gru_D {WH : Nat} (hWH : WH = 100000) (u : Bool) (g : MM) : dvI 100000 (mD (gZ (gru u WH g))) := dvI_mono (gru_DE (Nat.le_of_eq hWH) u g).1 (Nat.le_of_eq hWH)
theorem gru_E {WH : Nat} (hWH : WH = 100000) (u : Bool) (g : MM) : ∃ x, x ≤ 100001 ∧ mE (gZ (gru u WH g)) = dn x := by
  obtain ⟨x, hx, e⟩ := (gru_DE (Nat.le_of_eq hWH) u g).2
  exact ⟨x, by omega, e⟩
theorem mdM_ok {WH : Nat} (hWH : WH = 100000) (g : MM) : mx2 (mE (gZ (gru true WH (gru false WH g)))) (mE (gZ (gru false WH g))) = dn (mdM WH g) ∧ mdM WH g ≤ 100001 := by
  obtain ⟨x, hx, ex⟩ := gru_E hWH true (gru false WH g)
  obtain ⟨y, hy, ey⟩ := gru_E hWH false g
  unfold mdM
  rw [ex, ey]
  have key : ∀ t, t ≤ 100001 → dn t = dn (dn t + 1).toNatClampNeg ∧ (dn t + 1).toNatClampNeg ≤ 100001 := by
    intro t ht
    rw [dn_1, nI_clamp (by omega)]
    exact ⟨rfl, ht⟩
  unfold mx2
  split
  · exact key y hy
  · exact key x hx
theorem mpG_t {z : RS} {cday : XF} {n : Nat} {share : Int32} (k y x : Nat) (h : share * nI (mpN z n) ≤ nI (100 * x)) : mpG z cday n share k y x = nI y := by
  cases k with
  | zero => rfl
  | succ k => exact if_pos h
theorem mpG_s {z : RS} {cday : XF} {n : Nat} {share : Int32} (k y x : Nat) (h : ¬ share * nI (mpN z n) ≤ nI (100 * x)) : mpG z cday n share (k + 1) y x = mpG z cday n share k (y + 1) (mpC z cday n (y + 1)) := if_neg h
theorem agM_big {don cday : XF} {b : Nat} (h : don b = -1 ∨ ∃ d, d ≤ 100000 ∧ don b = nI d) (hc : ∃ e, e ≤ 99 ∧ cday b = nI e) : agM don cday b ≤ nI 100002 := by
  obtain ⟨e, he, hce⟩ := hc
  unfold agM
  rcases h with h | ⟨d, hd, h⟩
  · rw [h, if_neg (by decide)]; decide
  · rw [h, if_pos (nI_pos' (by omega)), hce]
    rw [Int32.le_iff_toInt_le]
    have h1 : (nI d - nI e).toInt = (d : Int) - e := pk_sub_toInt (by omega) (by omega)
    have h2 : (nI d - nI e + 1).toInt = ((d : Int) - e + 1).bmod (2 ^ 32) := by
      rw [Int32.toInt_add, h1]; rfl
    rw [h2, nI_toInt (by omega), Int.bmod_def]
    omega
theorem mp_big {z : RS} {cday : XF} {n Y : Nat} (hY : 100002 ≤ Y) (hY2 : Y < 2 ^ 31) {share : Int32} (hn : n ≤ 16) (hs : wiP share 1 100) (hd : dvI 100000 (mD z)) (hc : ∀ t, t < n → ∃ e, e ≤ 99 ∧ cday t = nI e) : share * nI (mpN z n) ≤ nI (100 * mpC z cday n Y) := by
  have e1 : ∀ i, i ≤ n → cnt (fun b => ¬ mD z b < 0 ∧ agM (mD z) cday b ≤ nI Y) i = cnt (fun b => ¬ mD z b < 0) i := by
    intro i
    induction i with
    | zero => intro _; rfl
    | succ i ih =>
      intro hi
      have := ih (by omega)
      by_cases hq : ¬ mD z i < 0
      · rw [cnt_t (P := fun b => ¬ mD z b < 0) hq, cnt_t (P := fun b => ¬ mD z b < 0 ∧ agM (mD z) cday b ≤ nI Y) ⟨hq, Int32.le_trans (agM_big (hd i (by omega)) (hc i (by omega))) (nI_le hY hY2)⟩, this]
      · rw [cnt_f (P := fun b => ¬ mD z b < 0) hq, cnt_f (P := fun b => ¬ mD z b < 0 ∧ agM (mD z) cday b ≤ nI Y) (fun h => hq h.1), this]
  obtain ⟨h1, h2, h3⟩ := wi_in (a := 1) (N := 100) hs (by omega) (by omega)
  have e2 : mpC z cday n Y = mpN z n := e1 n (Nat.le_refl n)
  have hm : mpN z n ≤ 16 := Nat.le_trans (cnt_le _ n) hn
  rw [e2, h1, pk_mul]
  have h4 : share.toNatClampNeg * mpN z n ≤ 100 * mpN z n := Nat.mul_le_mul_right _ h3
  exact nI_le h4 (by omega)
theorem mdG_t {k i : Nat} {g : MM} (h : unQ (gd1 i g)) : mdG (k + 1) i g = (gd1 i g, nI i) := if_pos h
theorem mdG_n {k i : Nat} {g : MM} (h : ¬ unQ (gd1 i g)) : mdG (k + 1) i g = mdG k (i + 1) (gd1 i g) := if_neg h
theorem gk2_K {WH m way : Nat} {g : MM} : gK (gk2 WH m g way) = gK g := by unfold gk2; split <;> rfl
theorem gk2_GI {WH m way : Nat} {g : MM} (h : GI g) : GI (gk2 WH m g way) := by unfold gk2; split <;> exact h
