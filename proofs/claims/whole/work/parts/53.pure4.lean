/-! the pure part: every run comes to rest -/
def smN (f : Nat → Nat) : Nat → Nat | 0 => 0 | i + 1 => smN f i + f i
theorem smN_cg {f g : Nat → Nat} : ∀ {n : Nat}, (∀ i, i < n → f i = g i) → smN f n = smN g n
  | 0, _ => rfl
  | n + 1, h => by
    unfold smN
    rw [smN_cg (n := n) (fun i hi => h i (by omega)), h n (by omega)]
theorem smN_le {f g : Nat → Nat} : ∀ {n : Nat}, (∀ i, i < n → f i ≤ g i) → smN f n ≤ smN g n
  | 0, _ => Nat.le_refl 0
  | n + 1, h => by
    unfold smN
    have := smN_le (n := n) (fun i hi => h i (by omega))
    have := h n (by omega)
    omega
theorem smN_lt {f g : Nat → Nat} {c : Nat} : ∀ {n : Nat}, c < n → (∀ i, i < n → f i ≤ g i) → f c + 1 ≤ g c → smN f n + 1 ≤ smN g n
  | 0, hc, _, _ => absurd hc (Nat.not_lt_zero c)
  | n + 1, hc, h, h2 => by
    unfold smN
    by_cases he : c = n
    · subst he
      have := smN_le (n := c) (fun i hi => h i (by omega))
      omega
    · have := smN_lt (n := n) (by omega) (fun i hi => h i (by omega)) h2
      have := h n (by omega)
      omega
theorem smN_k {f : Nat → Nat} {k : Nat} : ∀ {n : Nat}, (∀ i, i < n → f i ≤ k) → smN f n ≤ n * k
  | 0, _ => by unfold smN; omega
  | n + 1, h => by
    unfold smN
    have := smN_k (n := n) (fun i hi => h i (by omega))
    have := h n (by omega)
    rw [Nat.succ_mul]
    omega
/-- a card's cells keep to their ranges -/
def VS (nc : Nat) (s : CS) (c : Nat) : Prop := (csP s c = -1 ∧ csN s c = -1) ∨ (csP s c = 11 ∧ csN s c = 0) ∨ (csP s c = 10 ∧ csN s c = -1) ∨ (∃ k, k < nc ∧ csP s c = nI k ∧ ((csN s c = -1 ∧ ∃ L, L ≤ 9 ∧ csL s c = nI L) ∨ ∃ q, q < nc ∧ csN s c = nI q))
/-- what a card has still to go -/
def phC (nc : Nat) (s : CS) (c : Nat) : Nat :=
  if csP s c = 10 then 0 else if csP s c = -1 then 11 * nc + (if csB s c = 0 then 44 else 0)
  else if csN s c = -1 then 11 * (nc - (ix (csP s) c + 1)) + 1 + ix (csL s) c + (if csB s c = 0 then 44 else 0)
  else 11 * (nc - ix (csN s) c) + (if csB s c = 0 then 44 else 0)
def phS (nc n : Nat) (s : CS) : Nat := smN (phC nc s) n
theorem ph_sc {nc : Nat} {s s' : CS} {c : Nat} (h : SC s s' c) : phC nc s' c = phC nc s c := by
  obtain ⟨a1, a2, a3, a4, a5, a6⟩ := h
  unfold phC
  show (if csP s' c = 10 then 0 else if csP s' c = -1 then _ else if csN s' c = -1 then 11 * (nc - ((csP s' c).toNatClampNeg + 1)) + 1 + (csL s' c).toNatClampNeg + _ else 11 * (nc - (csN s' c).toNatClampNeg) + _) = _
  rw [a1, a2, a4, a6]
theorem VS_sc {nc : Nat} {s s' : CS} {c : Nat} (h : SC s s' c) (hv : VS nc s c) : VS nc s' c := by
  obtain ⟨a1, a2, a3, a4, a5, a6⟩ := h
  unfold VS
  rw [a1, a2, a6]
  exact hv
theorem ph_B {nc : Nat} {s : CS} {c k L : Nat} (hk : k < nc) (h4 : nc ≤ 4) (hL : L ≤ 9) (e1 : csP s c = nI k) (e2 : csN s c = -1) (e3 : csL s c = nI L) : phC nc s c = 11 * (nc - (k + 1)) + 1 + L + (if csB s c = 0 then 44 else 0) := by
  have n4 := nI_4 (show k < 4 by omega)
  unfold phC
  show (if csP s c = 10 then 0 else if csP s c = -1 then _ else if csN s c = -1 then 11 * (nc - ((csP s c).toNatClampNeg + 1)) + 1 + (csL s c).toNatClampNeg + _ else _) = _
  rw [e1, e2, e3, if_neg n4.2.1, if_neg n4.2.2.1, if_pos rfl, nI_clamp (by omega), nI_clamp (by omega)]
theorem ph_A {nc : Nat} {s : CS} {c q : Nat} (hq : q < nc) (h4 : nc ≤ 4) (e1 : ¬ csP s c = 10) (e0 : ¬ csP s c = -1) (e2 : csN s c = nI q) : phC nc s c = 11 * (nc - q) + (if csB s c = 0 then 44 else 0) := by
  have n4 := nI_4 (show q < 4 by omega)
  unfold phC
  show (if csP s c = 10 then 0 else if csP s c = -1 then _ else if csN s c = -1 then _ else 11 * (nc - (csN s c).toNatClampNeg) + _) = _
  rw [e2, if_neg e1, if_neg e0, if_neg n4.2.2.1, nI_clamp (by omega)]
section RST
variable {cday urg waits bfrom bto byd szs lim lan han : XF} {n nc : Nat} {nob pac : Int32}
theorem mn_nI {a b : Nat} (ha : a < 2 ^ 31) (hb : b < 2 ^ 31) : mn (nI a) (nI b) = nI (min a b) := by
  unfold mn
  by_cases h : b < a
  · rw [if_pos ((nI_ltI hb ha).mpr h), Nat.min_eq_right (by omega)]
  · rw [if_neg (fun q => h ((nI_ltI hb ha).mp q)), Nat.min_eq_left (by omega)]
theorem ph_pu {s : CS} {c k v : Nat} (hk : k < nc) (h4 : nc ≤ 4) (hv : VS nc s c) (hN : csN s c = nI k) (hs : szs (c * 4 + k) = nI v) (h9 : v ≤ 9) : VS nc (puF szs k s c) c ∧ phC nc (puF szs k s c) c + 1 ≤ phC nc s c := by
  have n4 := nI_4 (show k < 4 by omega)
  have p1 : csP (puF szs k s c) c = nI k := pk_us
  have p2 : csN (puF szs k s c) c = -1 := pk_us
  have p3 : csL (puF szs k s c) c = nI v := (pk_us (f := csL s)).trans hs
  have p4 : csB (puF szs k s c) c = csB s c := rfl
  have hq : ¬ csP s c = 10 ∧ ¬ csP s c = -1 := by
    rcases hv with q | q | q | ⟨k', q1, q2, _⟩
    · exact absurd (hN.symm.trans q.2) n4.2.2.1
    · rw [q.1]; decide
    · exact absurd (hN.symm.trans q.2) n4.2.2.1
    · rw [q2]; exact ⟨(nI_4 (by omega)).2.1, (nI_4 (by omega)).2.2.1⟩
  refine ⟨Or.inr (Or.inr (Or.inr ⟨k, hk, p1, Or.inl ⟨p2, v, h9, p3⟩⟩)), ?_⟩
  rw [ph_B hk h4 h9 p1 p2 p3, ph_A hk h4 hq.1 hq.2 hN, p4]
  split <;> omega
theorem pu_ne {s : CS} {c k b : Nat} (hb : b ≠ c) : SC s (puF szs k s c) b := ⟨pk_un hb, pk_un hb, rfl, rfl, rfl, pk_un hb⟩
/-- what is kept on a day: ranges, and the way still to go falls with every move -/
def TI (n nc : Nat) (s0 s : CS) : Prop := (∀ c, c < n → VS nc s c) ∧ phS nc n s ≤ phS nc n s0 ∧ (¬ csA s = 0 → phS nc n s + 1 ≤ phS nc n s0)
theorem TI_pu {s0 s : CS} {c k v : Nat} (hc : c < n) (hk : k < nc) (h4 : nc ≤ 4) (h : TI n nc s0 s) (hN : csN s c = nI k) (hs : szs (c * 4 + k) = nI v) (h9 : v ≤ 9) : TI n nc s0 (puF szs k s c) := by
  obtain ⟨h1, h2, h3⟩ := h
  obtain ⟨g1, g2⟩ := ph_pu hk h4 (h1 c hc) hN hs h9
  have hl : phS nc n (puF szs k s c) + 1 ≤ phS nc n s := by
    refine smN_lt hc (fun b hb => ?_) g2
    by_cases hbc : b = c
    · subst hbc; omega
    · exact Nat.le_of_eq (ph_sc (pu_ne hbc))
  refine ⟨fun b hb => ?_, by omega, fun _ => by omega⟩
  by_cases hbc : b = c
  · subst hbc; exact g1
  · exact VS_sc (pu_ne hbc) (h1 b hb)
/-- sizes keep to 0 .. 9 -/
def SZV (szs : XF) (n nc : Nat) : Prop := ∀ c, c < n → ∀ k, k < nc → ∃ v, v ≤ 9 ∧ szs (c * 4 + k) = nI v
theorem TI_pi {s0 : CS} {day : Int32} {k : Nat} {u : Bool} {most : Int32} (hb : ∀ t, t < n → vp_in (byd t) n) (hk : k < nc) (h4 : nc ≤ 4) (hz : SZV szs n nc) : ∀ (j i : Nat) (s : CS), i + j ≤ n → TI n nc s0 s → TI n nc s0 (piF urg waits byd szs n nob day k u most j i s)
  | 0, _, _, _, h => h
  | j + 1, i, s, hi, h => by
    rw [piF_s]
    split
    · rename_i hq
      split
      · have hc : ix byd i < n := vp_lt (hb i (by omega))
        obtain ⟨v, hv, hv2⟩ := hz _ hc k hk
        exact TI_pi hb hk h4 hz j (i + 1) _ (by omega) (TI_pu hc hk h4 h hq.1 hv2 hv)
      · exact h
    · exact TI_pi hb hk h4 hz j (i + 1) s (by omega) h
theorem TI_pl {s0 : CS} {day : Int32} (hb : ∀ t, t < n → vp_in (byd t) n) (h4 : nc ≤ 4) (hz : SZV szs n nc) : ∀ (j : Nat) (s : CS), j ≤ nc → TI n nc s0 s → TI n nc s0 (plF urg waits byd szs lim lan n nob day j s)
  | 0, _, _, h => h
  | j + 1, _, hj, h => TI_pl hb h4 hz j _ (by omega) (TI_pi hb (by omega) h4 hz n 0 _ (by omega) (TI_pi hb (by omega) h4 hz n 0 _ (by omega) h))
theorem ph_th {day : Int32} {s : CS} {c k L : Nat} (hk : k < nc) (h4 : nc ≤ 4) (hbk : bfrom c = -1 ∨ ∃ r q, r < nc ∧ q < r ∧ bfrom c = nI r ∧ bto c = nI q) (hP : csP s c = nI k) (hN : csN s c = -1) (hL : csL s c = nI L) (h9 : L ≤ 9) : VS nc (wcW (ecF bfrom bto nc day s c k) c) c ∧ phC nc (wcW (ecF bfrom bto nc day s c k) c) c + 1 ≤ 11 * (nc - (k + 1)) + 1 + (if csB s c = 0 then 44 else 0) := by
  have n4 := nI_4 (show k < 4 by omega)
  by_cases hb : nI k = bfrom c ∧ csB s c = 0
  · rw [ecF_b hb]
    obtain ⟨q, hq, hq2⟩ : ∃ q, q < k ∧ bto c = nI q := by
      rcases hbk with y | ⟨r, q, y1, y2, y3, y4⟩
      · exact absurd (hb.1.trans y) n4.2.2.1
      · have : k = r := nI_inj (by omega) (by omega) (hb.1.trans y3)
        exact ⟨q, by omega, y4⟩
    have e2 : csN (wcW (csP s, upd (csN s) c (bto c), csL s, csD s, csW s, upd (csB s) c 1, csU s, csH s, csC s, csA s) c) c = nI q := (pk_us (f := csN s)).trans hq2
    have e3 : csB (wcW (csP s, upd (csN s) c (bto c), csL s, csD s, csW s, upd (csB s) c 1, csU s, csH s, csC s, csA s) c) c = 1 := pk_us (f := csB s)
    have e1 : csP (wcW (csP s, upd (csN s) c (bto c), csL s, csD s, csW s, upd (csB s) c 1, csU s, csH s, csC s, csA s) c) c = nI k := hP
    refine ⟨Or.inr (Or.inr (Or.inr ⟨k, hk, e1, Or.inr ⟨q, by omega, e2⟩⟩)), ?_⟩
    rw [ph_A (q := q) (by omega) h4 (by rw [e1]; exact n4.2.1) (by rw [e1]; exact n4.2.2.1) e2, e3, if_neg (by decide), if_pos hb.2]
    omega
  · by_cases hl : nI k = nI nc - 1
    · rw [ecF_l hb hl]
      have e1 : csP (wcW (upd (csP s) c 10, csN s, csL s, upd (csD s) c day, csW s, csB s, csU s, csH s, csC s, csA s) c) c = 10 := pk_us (f := csP s)
      refine ⟨Or.inr (Or.inr (Or.inl ⟨e1, hN⟩)), ?_⟩
      unfold phC
      rw [e1, if_pos rfl]
      omega
    · rw [ecF_n hb hl]
      have hk1 : k + 1 < nc := by
        rcases (show k + 1 < nc ∨ nc = k + 1 by omega) with q | q
        · exact q
        · exact absurd (by rw [q, nI_pred]) hl
      have e2 : csN (wcW (csP s, upd (csN s) c (nI (k + 1)), csL s, csD s, csW s, csB s, csU s, csH s, csC s, csA s) c) c = nI (k + 1) := pk_us (f := csN s)
      have e1 : csP (wcW (csP s, upd (csN s) c (nI (k + 1)), csL s, csD s, csW s, csB s, csU s, csH s, csC s, csA s) c) c = nI k := hP
      have e3 : csB (wcW (csP s, upd (csN s) c (nI (k + 1)), csL s, csD s, csW s, csB s, csU s, csH s, csC s, csA s) c) c = csB s c := rfl
      refine ⟨Or.inr (Or.inr (Or.inr ⟨k, hk, e1, Or.inr ⟨k + 1, hk1, e2⟩⟩)), ?_⟩
      rw [ph_A hk1 h4 (by rw [e1]; exact n4.2.1) (by rw [e1]; exact n4.2.2.1) e2, e3]
      omega
theorem ph_wk {day : Int32} {s : CS} {c k L h p : Nat} (hk : k < nc) (h4 : nc ≤ 4) (hbk : bfrom c = -1 ∨ ∃ r q, r < nc ∧ q < r ∧ bfrom c = nI r ∧ bto c = nI q) (hP : csP s c = nI k) (hN : csN s c = -1) (hL : csL s c = nI L) (h9 : L ≤ 9) (hH : csH s k = nI h) (hh : h < 2 ^ 30) (hp : pac = nI p) (hp2 : p < 2 ^ 30) :
    VS nc (wcF bfrom bto nc day pac s c k) c ∧ (∃ h', h' < 2 ^ 30 ∧ csH (wcF bfrom bto nc day pac s c k) k = nI h') ∧ ((csA (wcF bfrom bto nc day pac s c k) = csA s ∧ phC nc (wcF bfrom bto nc day pac s c k) c = phC nc s c) ∨ phC nc (wcF bfrom bto nc day pac s c k) c + 1 ≤ phC nc s c) := by
  have hU : wcU pac s c k = nI (min L (min h p)) := by
    unfold wcU
    rw [hL, hH, hp, mn_nI (by omega) (by omega), mn_nI (by omega) (by omega)]
  have hph := ph_B hk h4 h9 hP hN hL
  have hm : min L (min h p) ≤ L := Nat.min_le_left _ _
  have hm2 : min L (min h p) ≤ h := Nat.le_trans (Nat.min_le_right _ _) (Nat.min_le_left _ _)
  have hL1 : csL s c - wcU pac s c k = nI (L - min L (min h p)) := by rw [hL, hU, pk_sub hm]
  have e1 : csP (wc1 pac s c k) c = nI k := hP
  have e2 : csN (wc1 pac s c k) c = -1 := hN
  have e3 : csL (wc1 pac s c k) c = nI (L - min L (min h p)) := (pk_us (f := csL s)).trans hL1
  have e4 : csB (wc1 pac s c k) c = csB s c := rfl
  refine ⟨?_, ⟨h - min L (min h p), by omega, by rw [wcF_H, pk_us, hH, hU, pk_sub hm2]⟩, ?_⟩
  · by_cases h1 : csL s c - wcU pac s c k = 0
    · rw [wcF_th h1]
      exact (ph_th hk h4 hbk e1 e2 e3 (by omega)).1
    · by_cases h2 : 0 < wcU pac s c k
      · rw [wcF_un h1 h2]
        exact Or.inr (Or.inr (Or.inr ⟨k, hk, hP, Or.inl ⟨hN, L - min L (min h p), by omega, e3⟩⟩))
      · rw [wcF_no h1 h2]
        exact Or.inr (Or.inr (Or.inr ⟨k, hk, hP, Or.inl ⟨hN, L - min L (min h p), by omega, e3⟩⟩))
  · by_cases h1 : csL s c - wcU pac s c k = 0
    · rw [wcF_th h1]
      have := (ph_th (day := day) hk h4 hbk e1 e2 e3 (by omega)).2
      rw [e4] at this
      refine Or.inr (Nat.le_trans this ?_)
      rw [hph]
      omega
    · by_cases h2 : 0 < wcU pac s c k
      · rw [wcF_un h1 h2]
        refine Or.inr ?_
        rw [ph_B (s := wcW (wc1 pac s c k) c) hk h4 (show L - min L (min h p) ≤ 9 by omega) hP hN e3, hph]
        rw [hU] at h2
        have : 0 < min L (min h p) := by
          rcases Nat.eq_zero_or_pos (min L (min h p)) with q | q
          · rw [q] at h2; exact absurd h2 (by decide)
          · exact q
        show 11 * (nc - (k + 1)) + 1 + (L - min L (min h p)) + (if csB s c = 0 then 44 else 0) + 1 ≤ _
        omega
      · rw [wcF_no h1 h2]
        refine Or.inl ⟨rfl, ?_⟩
        have : min L (min h p) = 0 := by
          rcases Nat.eq_zero_or_pos (min L (min h p)) with q | q
          · exact q
          · rw [hU] at h2
            exact absurd (nI_lt (a := 0) q (by omega)) h2
        rw [ph_B (s := wc1 pac s c k) hk h4 (show L - min L (min h p) ≤ 9 by omega) hP hN e3, hph, this, e4, Nat.sub_zero]
theorem TI_tw {s0 : CS} {day : Int32} {u : Bool} {p : Nat} (h4 : nc ≤ 4) (hbk : BKV bfrom bto n nc) (hp : pac = nI p) (hp2 : p < 2 ^ 30) (hn : n ≤ 16) {s : CS} (hUV : UV n s) (h : TI n nc s0 s) (hH : ∀ k, k < nc → ∃ h, h < 2 ^ 30 ∧ csH s k = nI h) :
    ∀ i, i ≤ csC s → TI n nc s0 (itN (twB urg bfrom bto nc nob day pac u) s i) ∧ (∀ k, k < nc → ∃ h, h < 2 ^ 30 ∧ csH (itN (twB urg bfrom bto nc nob day pac u) s i) k = nI h)
  | 0, _ => ⟨h, hH⟩
  | i + 1, hi => by
    obtain ⟨⟨h1, h2, h3⟩, hH1⟩ := TI_tw (day := day) (u := u) h4 hbk hp hp2 hn hUV h hH i (by omega)
    obtain ⟨hu1, hu2⟩ := UV_tw hUV i (urg := urg) (bfrom := bfrom) (bto := bto) (nc := nc) (nob := nob) (day := day) (pac := pac) (u := u)
    simp only [itN]
    generalize itN (twB urg bfrom bto nc nob day pac u) s i = s1 at h1 h2 h3 hH1 hu1 hu2
    have hc : ix (csU s1) i < n := by
      show (csU s1 i).toNatClampNeg < n
      rw [hu1]
      exact vp_lt (hUV.2 i (by omega))
    unfold twB
    generalize ix (csU s1) i = c at hc
    by_cases hq : inC (csP s1 c) (nI nc) ∧ csN s1 c = -1 ∧ (urgP urg nob c ↔ u = true)
    · rw [if_pos hq]
      obtain ⟨k, hk, hk2, L, hL, hL2⟩ : ∃ k, k < nc ∧ csP s1 c = nI k ∧ ∃ L, L ≤ 9 ∧ csL s1 c = nI L := by
        rcases h1 c hc with q | q | q | ⟨k, q1, q2, q3 | ⟨x, q3, q4⟩⟩
        · exact absurd (by decide) (q.1 ▸ hq.1).1
        · exact absurd (q.1 ▸ hq.1).2 (by rcases (show nc = 0 ∨ nc = 1 ∨ nc = 2 ∨ nc = 3 ∨ nc = 4 by omega) with rfl | rfl | rfl | rfl | rfl <;> decide)
        · exact absurd (q.1 ▸ hq.1) (inC10 h4)
        · exact ⟨k, q1, q2, q3.2⟩
        · exact absurd (q4.symm.trans hq.2.1) (nI_4 (by omega)).2.2.1
      have hix : ix (csP s1) c = k := by show (csP s1 c).toNatClampNeg = k; rw [hk2, nI_clamp (by omega)]
      rw [hix]
      obtain ⟨h, hh, hh2⟩ := hH1 k hk
      obtain ⟨g1, ⟨h', hh', hh2'⟩, g3⟩ := ph_wk (day := day) hk h4 (hbk c hc) hk2 hq.2.1 hL2 hL hh2 hh hp hp2
      have hne : ∀ b, b ≠ c → SC s1 (wcF bfrom bto nc day pac s1 c k) b := fun b hb => wcF_ne hb
      have hHk : csH (wcF bfrom bto nc day pac s1 c k) = upd (csH s1) k (csH s1 k - wcU pac s1 c k) := wcF_H
      generalize wcF bfrom bto nc day pac s1 c k = s2 at g1 hh2' g3 hne hHk
      refine ⟨⟨fun b hb => ?_, ?_, ?_⟩, fun k' hk' => ?_⟩
      · by_cases hbc : b = c
        · subst hbc; exact g1
        · exact VS_sc (hne b hbc) (h1 b hb)
      · refine Nat.le_trans (smN_le (fun b hb => ?_)) h2
        by_cases hbc : b = c
        · subst hbc; rcases g3 with q | q <;> omega
        · exact Nat.le_of_eq (ph_sc (hne b hbc))
      · intro hA
        rcases g3 with q | q
        · refine Nat.le_trans (Nat.add_le_add_right (smN_le (fun b hb => ?_)) 1) (h3 (by rw [← q.1]; exact hA))
          by_cases hbc : b = c
          · subst hbc; omega
          · exact Nat.le_of_eq (ph_sc (hne b hbc))
        · refine Nat.le_trans (smN_lt hc (fun b hb => ?_) q) h2
          by_cases hbc : b = c
          · subst hbc; omega
          · exact Nat.le_of_eq (ph_sc (hne b hbc))
      · by_cases hkk : k' = k
        · subst hkk; exact ⟨h', hh', hh2'⟩
        · rw [hHk, pk_un hkk]; exact hH1 k' hk'
    · rw [if_neg hq]
      exact ⟨⟨h1, h2, h3⟩, hH1⟩
theorem TI_bg {j : Nat} {s : CS} (h : ∀ c, c < n → VS nc s c) (hc : ∀ c, c < n → cday c = nI j → csP s c = -1) (h0 : 0 < nc) : TI n nc s (bgF cday n (nI j) s) := by
  obtain ⟨b1, b2, b3, b4, b5, b6, b7, b8, b9, b10⟩ := bg_spec (cday := cday) (day := nI j) s n
  unfold bgF
  generalize itN (bgB cday (nI j)) (bg0 s) n = s1 at *
  have key : ∀ c, c < n → VS nc s1 c ∧ phC nc s1 c = phC nc s c := by
    intro c hcn
    by_cases hq : cday c = nI j
    · have e1 : csP s1 c = 11 := by rw [b1 c, if_pos ⟨hcn, hq⟩]
      have e2 : csN s1 c = 0 := by rw [b2 c, if_pos ⟨hcn, hq⟩]
      have e3 := hc c hcn hq
      refine ⟨Or.inr (Or.inl ⟨e1, e2⟩), ?_⟩
      unfold phC
      show (if csP s1 c = 10 then 0 else if csP s1 c = -1 then _ else if csN s1 c = -1 then _ else 11 * (nc - (csN s1 c).toNatClampNeg) + _) = _
      rw [e1, e2, e3, b7, if_neg (show ¬ (11 : Int32) = 10 by decide), if_neg (show ¬ (11 : Int32) = -1 by decide), if_neg (show ¬ (0 : Int32) = -1 by decide), if_neg (show ¬ (-1 : Int32) = 10 by decide), if_pos (show (-1 : Int32) = -1 from rfl)]
      rfl
    · have e : SC s s1 c ∨ True := Or.inr trivial
      have e1 : csP s1 c = csP s c := by rw [b1 c, if_neg (fun y => hq y.2)]
      have e2 : csN s1 c = csN s c := by rw [b2 c, if_neg (fun y => hq y.2)]
      constructor
      · unfold VS
        rw [e1, e2, b5]
        exact h c hcn
      · unfold phC
        show (if csP s1 c = 10 then 0 else if csP s1 c = -1 then _ else if csN s1 c = -1 then 11 * (nc - ((csP s1 c).toNatClampNeg + 1)) + 1 + (csL s1 c).toNatClampNeg + _ else 11 * (nc - (csN s1 c).toNatClampNeg) + _) = _
        rw [e1, e2, b5, b7]
  refine ⟨fun c hcn => (key c hcn).1, Nat.le_of_eq (smN_cg (fun c hcn => (key c hcn).2)), fun q => absurd b4 q⟩
theorem TI_day {j p : Nat} {s : CS} (hn : n ≤ 16) (h0 : 0 < nc) (h4 : nc ≤ 4) (hb : ∀ t, t < n → vp_in (byd t) n) (hbk : BKV bfrom bto n nc) (hz : SZV szs n nc) (hp : pac = nI p) (hp2 : p < 2 ^ 30) (hh : ∀ k, k < 4 → ∃ h, h < 2 ^ 30 ∧ han k = nI h) (hUV : UV n s) (h : ∀ c, c < n → VS nc s c) (hc : ∀ c, c < n → cday c = nI j → csP s c = -1) : TI n nc s (ndF cday urg waits bfrom bto byd szs lim lan han n nc nob pac j s) := by
  have h1 := TI_pl (urg := urg) (waits := waits) (lim := lim) (lan := lan) (nob := nob) (day := nI j) hb h4 hz nc _ (Nat.le_refl nc) (TI_bg h hc h0)
  have hUV1 : UV n (plF urg waits byd szs lim lan n nob (nI j) nc (bgF cday n (nI j) s)) := UV_pl urg waits byd szs lim lan n nob hb hn nc _ (UV_bg hUV)
  have hUV2 : UV n (hsF han (plF urg waits byd szs lim lan n nob (nI j) nc (bgF cday n (nI j) s))) := hUV1
  have h2 : TI n nc s (hsF han (plF urg waits byd szs lim lan n nob (nI j) nc (bgF cday n (nI j) s))) := h1
  have hH : ∀ k, k < nc → ∃ h, h < 2 ^ 30 ∧ csH (hsF han (plF urg waits byd szs lim lan n nob (nI j) nc (bgF cday n (nI j) s))) k = nI h := fun k hk => by
    obtain ⟨h, q1, q2⟩ := hh k (by omega)
    refine ⟨h, q1, ?_⟩
    show va_cpy han _ 0 0 4 k = nI h
    rw [pk_cpy_in (by omega) (by omega)]
    show han (0 + (k - 0)) = nI h
    rw [Nat.zero_add, Nat.sub_zero, q2]
  have hd : ndF cday urg waits bfrom bto byd szs lim lan han n nc nob pac j s = twF urg bfrom bto nc nob (nI j) pac false (twF urg bfrom bto nc nob (nI j) pac true (hsF han (plF urg waits byd szs lim lan n nob (nI j) nc (bgF cday n (nI j) s)))) := rfl
  rw [hd]
  generalize hsF han (plF urg waits byd szs lim lan n nob (nI j) nc (bgF cday n (nI j) s)) = s3 at *
  obtain ⟨k1, k2⟩ := TI_tw (urg := urg) (nob := nob) (day := nI j) (u := true) h4 hbk hp hp2 hn hUV2 h2 hH (csC s3) (Nat.le_refl _)
  exact (TI_tw (urg := urg) (nob := nob) (day := nI j) (u := false) h4 hbk hp hp2 hn (UV_twF hUV2) k1 k2 _ (Nat.le_refl _)).1
end RST
