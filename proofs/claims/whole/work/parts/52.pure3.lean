/-! the pure part: the class's day is the reference's: the day whole -/
/-- the cards as a day begins: what was worked the day before doesn't count -/
def CRw (s : CS) (z : RS) (c : Nat) : Prop := csP s c = mP z c ∧ csL s c = mL z c ∧ csD s c = mD z c ∧ csB s c = mB z c ∧ csN s c = nxv z c
def DRw (cday : XF) (n nc j : Nat) (s : CS) (z : RS) : Prop := (∀ c, c < n → CRw s z c) ∧ (∀ c, c < n → VJ cday nc j j z c) ∧ RWs n s z
section DAYP
variable {cday urg waits bfrom bto byd szs lim lan han rl rn rh : XF} {n nc : Nat} {nob pac : Int32}
theorem da_spec {day : Int32} (z : RS) : ∀ i, (∀ c, mP (itN (daA cday day) (da0 z) i) c = if c < i then plA cday day z c else mP z c) ∧ (∀ c, mW (itN (daA cday day) (da0 z) i) c = if c < i then 0 else mW z c) ∧ (∀ c, c < i → mR (itN (daA cday day) (da0 z) i) c = if plA cday day z c = -1 ∨ plA cday day z c = 10 then -1 else 0) ∧ mH (itN (daA cday day) (da0 z) i) = cnt (fun c => ¬ (plA cday day z c = -1 ∨ plA cday day z c = 10)) i ∧ mV (itN (daA cday day) (da0 z) i) = 0 ∧ mL (itN (daA cday day) (da0 z) i) = mL z ∧ mT (itN (daA cday day) (da0 z) i) = mT z ∧ mN (itN (daA cday day) (da0 z) i) = mN z ∧ mX (itN (daA cday day) (da0 z) i) = mX z ∧ mB (itN (daA cday day) (da0 z) i) = mB z ∧ mD (itN (daA cday day) (da0 z) i) = mD z ∧ mS (itN (daA cday day) (da0 z) i) = mS z ∧ mK (itN (daA cday day) (da0 z) i) = mK z ∧ mE (itN (daA cday day) (da0 z) i) = mE z ∧ mM (itN (daA cday day) (da0 z) i) = mM z
  | 0 => ⟨fun c => (if_neg (Nat.not_lt_zero c)).symm, fun c => (if_neg (Nat.not_lt_zero c)).symm, fun c h => absurd h (Nat.not_lt_zero c), rfl, rfl, rfl, rfl, rfl, rfl, rfl, rfl, rfl, rfl, rfl, rfl⟩
  | i + 1 => by
    obtain ⟨h1, h2, h3, h4, h5, h6, h7, h8, h9, h10, h11, h12, h13, h14, h15⟩ := da_spec (day := day) z i
    simp only [itN]
    generalize itN (daA cday day) (da0 z) i = y at *
    have hp : plA cday day y i = plA cday day z i := by unfold plA; rw [h1 i, if_neg (Nat.lt_irrefl i)]
    refine ⟨?_, ?_, ?_, ?_, h5, h6, h7, h8, h9, h10, h11, h12, h13, h14, h15⟩
    · intro c
      show upd (mP y) i (plA cday day y i) c = _
      by_cases hc : c = i
      · subst hc; rw [pk_us, hp, if_pos (by omega)]
      · rw [pk_un hc, h1 c]
        by_cases hl : c < i
        · rw [if_pos hl, if_pos (by omega)]
        · rw [if_neg hl, if_neg (by omega)]
    · intro c
      show upd (mW y) i 0 c = _
      by_cases hc : c = i
      · subst hc; rw [pk_us, if_pos (by omega)]
      · rw [pk_un hc, h2 c]
        by_cases hl : c < i
        · rw [if_pos hl, if_pos (by omega)]
        · rw [if_neg hl, if_neg (by omega)]
    · intro c hc
      show upd (mR y) i (if plA cday day y i = -1 ∨ plA cday day y i = 10 then -1 else 0) c = _
      by_cases he : c = i
      · subst he; rw [pk_us, hp]
      · rw [pk_un he, h3 c (by omega)]
    · show mH y + (if plA cday day y i = -1 ∨ plA cday day y i = 10 then 0 else 1) = _
      rw [hp, h4]
      by_cases hq : plA cday day z i = -1 ∨ plA cday day z i = 10
      · rw [if_pos hq, cnt_f (fun q => q hq)]; rfl
      · rw [if_neg hq, cnt_t hq]
theorem bg_spec {day : Int32} (s : CS) : ∀ i, (∀ c, csP (itN (bgB cday day) (bg0 s) i) c = if c < i ∧ cday c = day then 11 else csP s c) ∧ (∀ c, csN (itN (bgB cday day) (bg0 s) i) c = if c < i ∧ cday c = day then 0 else csN s c) ∧ (∀ c, csW (itN (bgB cday day) (bg0 s) i) c = if c < i then 0 else csW s c) ∧ csA (itN (bgB cday day) (bg0 s) i) = 0 ∧ csL (itN (bgB cday day) (bg0 s) i) = csL s ∧ csD (itN (bgB cday day) (bg0 s) i) = csD s ∧ csB (itN (bgB cday day) (bg0 s) i) = csB s ∧ csU (itN (bgB cday day) (bg0 s) i) = csU s ∧ csH (itN (bgB cday day) (bg0 s) i) = csH s ∧ csC (itN (bgB cday day) (bg0 s) i) = csC s
  | 0 => ⟨fun c => (if_neg (fun q => Nat.not_lt_zero c q.1)).symm, fun c => (if_neg (fun q => Nat.not_lt_zero c q.1)).symm, fun c => (if_neg (Nat.not_lt_zero c)).symm, rfl, rfl, rfl, rfl, rfl, rfl, rfl⟩
  | i + 1 => by
    obtain ⟨h1, h2, h3, h4, h5, h6, h7, h8, h9, h10⟩ := bg_spec (day := day) s i
    simp only [itN]
    generalize itN (bgB cday day) (bg0 s) i = y at *
    have hW : ∀ c, upd (csW y) i 0 c = if c < i + 1 then 0 else csW s c := by
      intro c
      by_cases hc : c = i
      · subst hc; rw [pk_us, if_pos (by omega)]
      · rw [pk_un hc, h3 c]
        by_cases hl : c < i
        · rw [if_pos hl, if_pos (by omega)]
        · rw [if_neg hl, if_neg (by omega)]
    unfold bgB
    by_cases hq : cday i = day
    · rw [if_pos hq]
      refine ⟨?_, ?_, hW, h4, h5, h6, h7, h8, h9, h10⟩
      · intro c
        show upd (csP y) i 11 c = _
        by_cases hc : c = i
        · subst hc; rw [pk_us, if_pos ⟨by omega, hq⟩]
        · rw [pk_un hc, h1 c]
          by_cases hl : c < i ∧ cday c = day
          · rw [if_pos hl, if_pos ⟨by omega, hl.2⟩]
          · rw [if_neg hl, if_neg (fun z => hl ⟨by omega, z.2⟩)]
      · intro c
        show upd (csN y) i 0 c = _
        by_cases hc : c = i
        · subst hc; rw [pk_us, if_pos ⟨by omega, hq⟩]
        · rw [pk_un hc, h2 c]
          by_cases hl : c < i ∧ cday c = day
          · rw [if_pos hl, if_pos ⟨by omega, hl.2⟩]
          · rw [if_neg hl, if_neg (fun z => hl ⟨by omega, z.2⟩)]
    · rw [if_neg hq]
      refine ⟨?_, ?_, hW, h4, h5, h6, h7, h8, h9, h10⟩
      · intro c
        show csP y c = _
        rw [h1 c]
        by_cases hl : c < i ∧ cday c = day
        · rw [if_pos hl, if_pos ⟨by omega, hl.2⟩]
        · rw [if_neg hl, if_neg (fun z => hl ⟨by
            rcases (show c < i ∨ c = i by omega) with y | y
            · exact y
            · exact absurd (y ▸ z.2) hq, z.2⟩)]
      · intro c
        show csN y c = _
        rw [h2 c]
        by_cases hl : c < i ∧ cday c = day
        · rw [if_pos hl, if_pos ⟨by omega, hl.2⟩]
        · rw [if_neg hl, if_neg (fun z => hl ⟨by
            rcases (show c < i ∨ c = i by omega) with y | y
            · exact y
            · exact absurd (y ▸ z.2) hq, z.2⟩)]
/-- cards of the day come: in both -/
theorem be_ok {j : Nat} (h4 : nc ≤ 4) (hj : j < 2 ^ 30) (hcd : ∀ c, c < n → ∃ e, e ≤ 99 ∧ cday c = nI e) {s : CS} {z : RS} (h : DRw cday n nc j s z) : DR cday n nc j (j + 1) (bgF cday n (nI j) s) (dw1 cday n (nI j) z) := by
  obtain ⟨hcr, hvj, hrw⟩ := h
  obtain ⟨a1, a2, a3, a4, a5, a6, a7, a8, a9, a10, a11, a12, a13, a14, a15⟩ := da_spec (cday := cday) (day := nI j) z n
  obtain ⟨b1, b2, b3, b4, b5, b6, b7, b8, b9, b10⟩ := bg_spec (cday := cday) (day := nI j) s n
  unfold dw1 bgF
  generalize itN (daA cday (nI j)) (da0 z) n = z1 at *
  generalize itN (bgB cday (nI j)) (bg0 s) n = s1 at *
  refine ⟨?_, ?_, ?_, ?_⟩
  · intro c hc
    obtain ⟨c1, c2, c3, c4, c6⟩ := hcr c hc
    have e : mP z1 c = if cday c = nI j then 11 else mP z c := by rw [a1 c, if_pos hc]; rfl
    refine ⟨?_, by rw [b5, a6]; exact c2, by rw [b6, a11]; exact c3, by rw [b7, a10]; exact c4, by rw [b3 c, a2 c, if_pos hc, if_pos hc], ?_⟩
    · rw [b1 c, e]
      by_cases hq : cday c = nI j
      · rw [if_pos ⟨hc, hq⟩, if_pos hq]
      · rw [if_neg (fun y => hq y.2), if_neg hq]; exact c1
    · rw [b2 c]
      unfold nxv
      rw [e, a7, a8]
      by_cases hq : cday c = nI j
      · rw [if_pos ⟨hc, hq⟩, if_pos hq]; rfl
      · rw [if_neg (fun y => hq y.2), if_neg hq]; exact c6
  · intro c hc
    obtain ⟨v1, v2, v3, v4⟩ := hvj c hc
    obtain ⟨e, he, hce⟩ := hcd c hc
    have hp : mP z1 c = if cday c = nI j then 11 else mP z c := by rw [a1 c, if_pos hc]; rfl
    unfold VJ VP VN VD VC at *
    rw [hp, a7, a8, a11]
    by_cases hq : cday c = nI j
    · rw [if_pos hq]
      have hm1 : mP z c = -1 := v4.mpr (by rw [hq]; exact i_irr _)
      refine ⟨Or.inr (Or.inl rfl), ?_, Or.inr ⟨by decide, ?_⟩, ?_⟩
      · rintro _ ⟨k, hk, hk2⟩
        exact absurd hk2.symm (nI_4 (show k < 4 by omega)).1
      · rcases v3 with ⟨y, _⟩ | ⟨_, y⟩
        · rw [hm1] at y; exact absurd y (by decide)
        · exact y
      · refine ⟨fun y => absurd y (by decide), fun y => absurd ?_ y⟩
        rw [hq]
        exact nI_lt (by omega) (by omega)
    · rw [if_neg hq]
      refine ⟨v1, v2, v3, v4.trans ?_⟩
      rw [hce] at hq ⊢
      have hne : ¬ e = j := fun y => hq (by rw [y])
      rw [nI_ltI (by omega) (by omega), nI_ltI (by omega) (by omega)]
      omega
  · obtain ⟨r1, r2, r3, r4⟩ := hrw
    unfold RWs
    rw [b10, b8, a9, a13]
    refine ⟨r1, r2, r3, fun c hc ⟨k, hk, hk2⟩ => r4 c hc ⟨k, hk, ?_⟩⟩
    rw [a1 c, if_pos hc] at hk2
    unfold plA at hk2
    by_cases hq : cday c = nI j
    · rw [if_pos hq] at hk2; exact absurd hk2.symm (nI_4 hk).1
    · rw [if_neg hq] at hk2; exact hk2
  · rw [b4, a5]
theorem puM_Y {k : Nat} : ∀ (f : Nat) (z : RS), mE (puM cday urg szs waits rl rn n nob k f z) = mE z ∧ mM (puM cday urg szs waits rl rn n nob k f z) = mM z ∧ mS (puM cday urg szs waits rl rn n nob k f z) = mS z ∧ mH (puM cday urg szs waits rl rn n nob k f z) = mH z ∧ mR (puM cday urg szs waits rl rn n nob k f z) = mR z ∧ mD (puM cday urg szs waits rl rn n nob k f z) = mD z ∧ mW (puM cday urg szs waits rl rn n nob k f z) = mW z
  | 0, _ => ⟨rfl, rfl, rfl, rfl, rfl, rfl, rfl⟩
  | f + 1, z => by
    unfold puM
    split
    · exact ⟨rfl, rfl, rfl, rfl, rfl, rfl, rfl⟩
    · exact puM_Y f (plO szs k z _)
theorem daB_Y : ∀ (i : Nat) (z : RS), mE (daB cday urg szs waits rl rn n nob i z) = mE z ∧ mM (daB cday urg szs waits rl rn n nob i z) = mM z ∧ mS (daB cday urg szs waits rl rn n nob i z) = mS z ∧ mH (daB cday urg szs waits rl rn n nob i z) = mH z ∧ mR (daB cday urg szs waits rl rn n nob i z) = mR z ∧ mD (daB cday urg szs waits rl rn n nob i z) = mD z ∧ mW (daB cday urg szs waits rl rn n nob i z) = mW z
  | 0, _ => ⟨rfl, rfl, rfl, rfl, rfl, rfl, rfl⟩
  | i + 1, z => by
    obtain ⟨a1, a2, a3, a4, a5, a6, a7⟩ := puM_Y (cday := cday) (urg := urg) (szs := szs) (waits := waits) (rl := rl) (rn := rn) (n := n) (nob := nob) (k := i) 17 z
    obtain ⟨b1, b2, b3, b4, b5, b6, b7⟩ := daB_Y i (puM cday urg szs waits rl rn n nob i 17 z)
    exact ⟨b1.trans a1, b2.trans a2, b3.trans a3, b4.trans a4, b5.trans a5, b6.trans a6, b7.trans a7⟩
theorem dc_spec (z : RS) : ∀ i, (∀ c, mR (itN (daC waits) z i) c = if c < i ∧ mR z c = 0 then rsV waits z c else mR z c) ∧ (∀ c, SM z (itN (daC waits) z i) c) ∧ mX (itN (daC waits) z i) = mX z ∧ mK (itN (daC waits) z i) = mK z ∧ mE (itN (daC waits) z i) = mE z ∧ mM (itN (daC waits) z i) = mM z ∧ mV (itN (daC waits) z i) = mV z ∧ mS (itN (daC waits) z i) = mS z ∧ mH (itN (daC waits) z i) = mH z
  | 0 => ⟨fun c => (if_neg (fun q => Nat.not_lt_zero c q.1)).symm, fun c => SM_rf z c, rfl, rfl, rfl, rfl, rfl, rfl, rfl⟩
  | i + 1 => by
    obtain ⟨h1, h2, h3, h4, h5, h6, h7, h8, h9⟩ := dc_spec z i
    simp only [itN]
    generalize itN (daC waits) z i = y at *
    have hr : rsV waits y i = rsV waits z i := by
      obtain ⟨q1, q2, q3, q4, q5, q6, q7⟩ := h2 i
      unfold rsV
      rw [q1, q3]
      have hm : mwP (mD y) waits i ↔ mwP (mD z) waits i := by
        unfold mwP
        rw [(h2 (ix waits i)).2.2.2.2.2.1]
      by_cases hw : mwP (mD z) waits i
      · rw [if_pos hw, if_pos (hm.mpr hw)]
      · rw [if_neg hw, if_neg (fun q => hw (hm.mp q))]
    have hi : mR y i = mR z i := by rw [h1 i, if_neg (fun q => Nat.lt_irrefl i q.1)]
    unfold daC
    by_cases hq : mR y i = 0
    · rw [if_pos hq]
      refine ⟨?_, h2, h3, h4, h5, h6, h7, h8, h9⟩
      intro c
      show upd (mR y) i (rsV waits y i) c = _
      by_cases hc : c = i
      · subst hc; rw [pk_us, hr, if_pos ⟨by omega, hi ▸ hq⟩]
      · rw [pk_un hc, h1 c]
        by_cases hl : c < i ∧ mR z c = 0
        · rw [if_pos hl, if_pos ⟨by omega, hl.2⟩]
        · rw [if_neg hl, if_neg (fun q => hl ⟨by omega, q.2⟩)]
    · rw [if_neg hq]
      refine ⟨?_, h2, h3, h4, h5, h6, h7, h8, h9⟩
      intro c
      rw [h1 c]
      by_cases hl : c < i ∧ mR z c = 0
      · rw [if_pos hl, if_pos ⟨by omega, hl.2⟩]
      · rw [if_neg hl, if_neg (fun q => hl ⟨by
          rcases (show c < i ∨ c = i by omega) with y1 | y1
          · exact y1
          · exact absurd (by rw [← y1] at hi hq; exact hi.trans q.2) (by rw [← y1] at hq; exact hq), q.2⟩)]
theorem de_spec (z : RS) : ∀ i, (∀ c, mR (itN daE z i) c = if c < i ∧ ¬ mW z c = 0 then 1 else mR z c) ∧ (∀ c, SM z (itN daE z i) c) ∧ mX (itN daE z i) = mX z ∧ mK (itN daE z i) = mK z ∧ mE (itN daE z i) = mE z ∧ mM (itN daE z i) = mM z ∧ mS (itN daE z i) = mS z ∧ mH (itN daE z i) = mH z ∧ ((∀ c, c < i → mW z c = 0) → mV (itN daE z i) = mV z) ∧ ((∃ c, c < i ∧ ¬ mW z c = 0) → mV (itN daE z i) = 1)
  | 0 => ⟨fun c => (if_neg (fun q => Nat.not_lt_zero c q.1)).symm, fun c => SM_rf z c, rfl, rfl, rfl, rfl, rfl, rfl, fun _ => rfl, fun ⟨c, hc, _⟩ => absurd hc (Nat.not_lt_zero c)⟩
  | i + 1 => by
    obtain ⟨h1, h2, h3, h4, h5, h6, h7, h8, h9, h10⟩ := de_spec z i
    simp only [itN]
    generalize itN daE z i = y at *
    have hw : mW y i = mW z i := (h2 i).2.2.2.2.2.2
    unfold daE
    by_cases hq : mW y i = 0
    · rw [if_pos hq]
      refine ⟨?_, h2, h3, h4, h5, h6, h7, h8, fun q => h9 (fun c hc => q c (by omega)), fun ⟨c, hc, hc2⟩ => h10 ⟨c, ?_, hc2⟩⟩
      · intro c
        rw [h1 c]
        by_cases hl : c < i ∧ ¬ mW z c = 0
        · rw [if_pos hl, if_pos ⟨by omega, hl.2⟩]
        · rw [if_neg hl, if_neg (fun q => hl ⟨by
            rcases (show c < i ∨ c = i by omega) with y1 | y1
            · exact y1
            · subst y1; exact absurd (hw ▸ hq) q.2, q.2⟩)]
      · rcases (show c < i ∨ c = i by omega) with y1 | y1
        · exact y1
        · subst y1; exact absurd (hw ▸ hq) hc2
    · rw [if_neg hq]
      refine ⟨?_, h2, h3, h4, h5, h6, h7, h8, fun q => absurd (hw.trans (q i (by omega))) hq, fun _ => rfl⟩
      intro c
      show upd (mR y) i 1 c = _
      by_cases hc : c = i
      · subst hc; rw [pk_us, if_pos ⟨by omega, hw ▸ hq⟩]
      · rw [pk_un hc, h1 c]
        by_cases hl : c < i ∧ ¬ mW z c = 0
        · rw [if_pos hl, if_pos ⟨by omega, hl.2⟩]
        · rw [if_neg hl, if_neg (fun q => hl ⟨by omega, q.2⟩)]
/-- what is told of a board's cards and columns -/
def PV (cday waits bfrom bto byd : XF) (n nc : Nat) : Prop := n ≤ 16 ∧ nc ≤ 4 ∧ (∀ c, c < n → ∃ e, e ≤ 99 ∧ cday c = nI e) ∧ (∀ c, c < n → waits c = -1 ∨ ∃ w, w < n ∧ waits c = nI w) ∧ BKV bfrom bto n nc ∧ BYD cday byd n
theorem UV_rw {s : CS} {z : RS} (hn : n ≤ 16) (h : RWs n s z) : UV n s := ⟨h.1, fun t ht => by
  obtain ⟨c, hc, e, _⟩ := h.2.1 t ht
  rw [e]; exact vp_in_nI hc (by omega)⟩
theorem day_ok {j : Nat} (hP : PV cday waits bfrom bto byd n nc) (hl : ∀ k, k < nc → lim k = rl k ∧ lan k = rn k ∧ han k = rh k) (hj : j < 2 ^ 30) {s : CS} {z : RS} (hD : DRw cday n nc j s z) (hK : mK z + 17 * 4 < 2 ^ 30) :
    DR cday n nc (j + 1) (j + 1) (ndF cday urg waits bfrom bto byd szs lim lan han n nc nob pac j s) (dwF cday urg szs waits bfrom bto rl rn rh n nc nob pac (nI j) z) ∧
    (∀ c, c < n → reF (csP (ndF cday urg waits bfrom bto byd szs lim lan han n nc nob pac j s)) (csN (ndF cday urg waits bfrom bto byd szs lim lan han n nc nob pac j s)) (csD (ndF cday urg waits bfrom bto byd szs lim lan han n nc nob pac j s)) (csW (ndF cday urg waits bfrom bto byd szs lim lan han n nc nob pac j s)) waits n (nI j) c = mR (dwF cday urg szs waits bfrom bto rl rn rh n nc nob pac (nI j) z) c) ∧
    mH (dwF cday urg szs waits bfrom bto rl rn rh n nc nob pac (nI j) z) = cnt (fun b => thP (csP (ndF cday urg waits bfrom bto byd szs lim lan han n nc nob pac j s)) (csD (ndF cday urg waits bfrom bto byd szs lim lan han n nc nob pac j s)) (nI j) b) n ∧
    mK (dwF cday urg szs waits bfrom bto rl rn rh n nc nob pac (nI j) z) ≤ mK z + 68 ∧ mS (dwF cday urg szs waits bfrom bto rl rn rh n nc nob pac (nI j) z) = mS z ∧ mE (dwF cday urg szs waits bfrom bto rl rn rh n nc nob pac (nI j) z) = mE z ∧ mM (dwF cday urg szs waits bfrom bto rl rn rh n nc nob pac (nI j) z) = (if mV (dwF cday urg szs waits bfrom bto rl rn rh n nc nob pac (nI j) z) = 0 then mM z else nI j) ∧
    (∀ c, c < n → csD (ndF cday urg waits bfrom bto byd szs lim lan han n nc nob pac j s) c = csD s c ∨ (csD s c = -1 ∧ csD (ndF cday urg waits bfrom bto byd szs lim lan han n nc nob pac j s) c = nI j)) := by
  obtain ⟨hn, h4, hcd, hw, hbk, hby⟩ := hP
  have h1 := be_ok h4 hj hcd hD
  obtain ⟨a1, a2, a3, a4, a5, a6, a7, a8, a9, a10, a11, a12, a13, a14, a15⟩ := da_spec (cday := cday) (day := nI j) z n
  obtain ⟨b1, b2, b3, b4, b5, b6, b7, b8, b9, b10⟩ := bg_spec (cday := cday) (day := nI j) s n
  have eD1 : ∀ c, csD (bgF cday n (nI j) s) c = csD s c := fun c => by unfold bgF; rw [b6]
  have hz1 : dw1 cday n (nI j) z = itN (daA cday (nI j)) (da0 z) n := rfl
  rw [← hz1] at a1 a2 a3 a4 a5 a6 a7 a8 a9 a10 a11 a12 a13 a14 a15
  obtain ⟨h2, hK2⟩ := pl_all (cday := cday) (urg := urg) (szs := szs) (nob := nob) (lim := lim) (lan := lan) (rl := rl) (rn := rn) hn hj h4 hby hw (fun k hk => (hl k (by omega)).1) (fun k hk => (hl k (by omega)).2.1) nc _ _ (Nat.le_refl nc) h1 (by rw [a13]; omega)
  obtain ⟨p1, p2, p3, p4, p5, p6, p7⟩ := daB_Y (cday := cday) (urg := urg) (szs := szs) (waits := waits) (rl := rl) (rn := rn) (n := n) (nob := nob) nc (dw1 cday n (nI j) z)
  have hz2 : dw2 cday urg szs waits rl rn n nc nob (nI j) z = daB cday urg szs waits rl rn n nob nc (dw1 cday n (nI j) z) := rfl
  rw [← hz2] at h2 hK2 p1 p2 p3 p4 p5 p6 p7
  obtain ⟨d1, d2, d3, d4, d5, d6, d7, d8, d9⟩ := dc_spec (waits := waits) (dw2 cday urg szs waits rl rn n nc nob (nI j) z) n
  have hz3 : dw3 cday urg szs waits rl rn n nc nob (nI j) z = itN (daC waits) (dw2 cday urg szs waits rl rn n nc nob (nI j) z) n := rfl
  rw [← hz3] at d1 d2 d3 d4 d5 d6 d7 d8 d9
  obtain ⟨v1, v2, v3, v4⟩ := h1
  generalize dw1 cday n (nI j) z = z1 at *
  generalize hs1 : bgF cday n (nI j) s = s1 at *
  obtain ⟨w1, w2, w3, w4⟩ := h2
  have hs5 : ndF cday urg waits bfrom bto byd szs lim lan han n nc nob pac j s = twF urg bfrom bto nc nob (nI j) pac false (twF urg bfrom bto nc nob (nI j) pac true (hsF han (plF urg waits byd szs lim lan n nob (nI j) nc s1))) := by rw [← hs1]; rfl
  have eD2 : ∀ c, c < n → csD (plF urg waits byd szs lim lan n nob (nI j) nc s1) c = csD s c := fun c hc => by rw [(w1 c hc).2.2.1, p6, ← (v1 c hc).2.2.1, eD1]
  generalize plF urg waits byd szs lim lan n nob (nI j) nc s1 = s2 at *
  -- the work begins
  have k1 : ∀ c, c < n → CR (hsF han s2) (dw3 cday urg szs waits rl rn n nc nob (nI j) z) c := fun c hc => CR_sm (s' := hsF han s2) (w1 c hc) ⟨rfl, rfl, rfl, rfl, rfl, rfl⟩ (d2 c)
  have k2 : ∀ c, c < n → VJ cday nc (j + 1) (j + 1) (dw3 cday urg szs waits rl rn n nc nob (nI j) z) c := fun c hc => VJ_sm (VJ_up (w2 c hc)) (d2 c)
  have k3 : RWs n (hsF han s2) (dw3 cday urg szs waits rl rn n nc nob (nI j) z) := by
    obtain ⟨r1, r2, r3, r4⟩ := w3
    refine ⟨r1, ?_, ?_, ?_⟩
    · rw [d3, d4]; exact r2
    · rw [d3]; exact r3
    · intro c hc hk
      rw [(d2 c).1] at hk
      exact r4 c hc hk
  have kH : ∀ k, k < nc → csH (hsF han s2) k = rh k := fun k hk => by
    show va_cpy han (csH s2) 0 0 4 k = rh k
    rw [pk_cpy_in (by omega) (by omega), ← (hl k (by omega)).2.2]
    show han (0 + (k - 0)) = han k
    rw [Nat.zero_add, Nat.sub_zero]
  have kW : ∀ c, c < n → csW (hsF han s2) c = 0 := fun c hc => by
    show csW s2 c = 0
    rw [(w1 c hc).2.2.2.2.1, p7, a2 c, if_pos hc]
  have kA : csA (hsF han s2) = mV (dw3 cday urg szs waits rl rn n nc nob (nI j) z) := by rw [d7]; exact w4
  have e3P : ∀ c, mP (dw3 cday urg szs waits rl rn n nc nob (nI j) z) c = mP (dw2 cday urg szs waits rl rn n nc nob (nI j) z) c := fun c => (d2 c).1
  have e3s : ∀ c, csP (hsF han s2) c = csP s2 c ∧ csN (hsF han s2) c = csN s2 c ∧ csD (hsF han s2) c = csD s2 c := fun c => ⟨rfl, rfl, rfl⟩
  have hUV := UV_rw hn k3
  have hR : RRW (mP (dw3 cday urg szs waits rl rn n nc nob (nI j) z)) (mX (dw3 cday urg szs waits rl rn n nc nob (nI j) z)) (csU (hsF han s2)) n (csC (hsF han s2)) := by
    obtain ⟨r1, r2, r3, r4⟩ := k3
    refine ⟨r1, fun t ht => ?_, r3, r4⟩
    obtain ⟨c, q1, q2, p, q3, q4⟩ := r2 t ht
    exact ⟨c, q1, q2, p, by omega, q4⟩
  obtain ⟨g1, g2⟩ := wk_all (urg := urg) (nob := nob) (pac := pac) (rh := rh) hn hj h4 hcd hbk hR rfl rfl hUV rfl kH (fun _ _ => rfl) k1 k2 nc (Nat.le_refl nc)
  have hz4 : dw4 cday urg szs waits bfrom bto rl rn rh n nc nob pac (nI j) z = itN (daD urg bfrom bto rh n nc nob pac (nI j)) (dw3 cday urg szs waits rl rn n nc nob (nI j) z) nc := rfl
  rw [← hz4] at g1 g2
  have hU3 : ∀ t, t < csC (hsF han s2) → ∃ c, c < n ∧ csU (hsF han s2) t = nI c := fun t ht => by
    obtain ⟨c, q1, q2, _⟩ := k3.2.1 t ht
    exact ⟨c, q1, q2⟩
  obtain ⟨t1, t2⟩ := tw_c (urg := urg) (bfrom := bfrom) (bto := bto) (nob := nob) (pac := pac) (day := nI j) (u := true) h4 hU3 hn hUV (csC (hsF han s2)) (Nat.le_refl _)
  obtain ⟨hu1, hu2⟩ := UV_tw hUV (csC (hsF han s2)) (urg := urg) (bfrom := bfrom) (bto := bto) (nc := nc) (nob := nob) (day := nI j) (pac := pac) (u := true)
  have ht1 : twF urg bfrom bto nc nob (nI j) pac true (hsF han s2) = itN (twB urg bfrom bto nc nob (nI j) pac true) (hsF han s2) (csC (hsF han s2)) := rfl
  rw [← ht1] at t1 t2 hu1 hu2
  have hUV4 : UV n (twF urg bfrom bto nc nob (nI j) pac true (hsF han s2)) := UV_twF hUV
  have hU4 : ∀ t, t < csC (twF urg bfrom bto nc nob (nI j) pac true (hsF han s2)) → ∃ c, c < n ∧ csU (twF urg bfrom bto nc nob (nI j) pac true (hsF han s2)) t = nI c := by rw [hu1, hu2]; exact hU3
  generalize twF urg bfrom bto nc nob (nI j) pac true (hsF han s2) = s4 at *
  obtain ⟨t3, t4⟩ := tw_c (urg := urg) (bfrom := bfrom) (bto := bto) (nob := nob) (pac := pac) (day := nI j) (u := false) h4 hU4 hn hUV4 (csC s4) (Nat.le_refl _)
  obtain ⟨hu3, hu4⟩ := UV_tw hUV4 (csC s4) (urg := urg) (bfrom := bfrom) (bto := bto) (nc := nc) (nob := nob) (day := nI j) (pac := pac) (u := false)
  have ht2 : twF urg bfrom bto nc nob (nI j) pac false s4 = itN (twB urg bfrom bto nc nob (nI j) pac false) s4 (csC s4) := rfl
  rw [← ht2] at t3 t4 hu3 hu4
  rw [hs5]
  generalize twF urg bfrom bto nc nob (nI j) pac false s4 = s5 at *
  -- both passes
  have q1 : ∀ c, c < n → ¬ inC (csP s2 c) (nI nc) → SC (hsF han s2) s5 c := fun c hc h => by
    have m1 := (t1 c hc).1 h
    have h' : ¬ inC (csP s4 c) (nI nc) := by rw [m1.1]; exact h
    exact SC_tr m1 ((t3 c hc).1 h')
  have q2 : ∀ c, c < n → csW s5 c = 0 → csP s5 c = csP s2 c ∧ csN s5 c = csN s2 c := fun c hc h => by
    obtain ⟨x1, x2, x3⟩ := (t3 c hc).2.2.1 h
    obtain ⟨y1, y2, y3⟩ := (t1 c hc).2.2.1 x1
    exact ⟨x2.trans y2, x3.trans y3⟩
  have q3 : ∀ c, c < n → csD s5 c = csD s2 c ∨ (csD s5 c = nI j ∧ inC (csP s2 c) (nI nc)) := fun c hc => by
    have hin : inC (csP s4 c) (nI nc) → inC (csP s2 c) (nI nc) := fun h => by
      rcases (t1 c hc).2.1 with y | y
      · rw [y] at h; exact h
      · rw [y] at h; exact absurd h (inC10 h4)
    rcases (t3 c hc).2.2.2 with y | y
    · rw [y]
      exact (t1 c hc).2.2.2
    · exact Or.inr ⟨y.1, hin y.2⟩
  have q4 : (csA s5 = csA (hsF han s2) ∧ ∀ c, c < n → csW s5 c = 0) ∨ (csA s5 = 1 ∧ ∃ c, c < n ∧ csW s5 c = 1) := by
    rcases t4 with ⟨y1, y2⟩ | y
    · rcases t2 with ⟨x1, x2⟩ | ⟨x1, c, x2, x3⟩
      · exact Or.inl ⟨y1.trans x1, fun c hc => by rw [y2 c hc, x2 c hc]; exact kW c hc⟩
      · exact Or.inr ⟨y1.trans x1, c, x2, (y2 c x2).trans x3⟩
    · exact Or.inr y
  -- the cards behind the work
  have m1 : ∀ c, c < n → CR s5 (dw4 cday urg szs waits bfrom bto rl rn rh n nc nob pac (nI j) z) c ∧ VJ cday nc (j + 1) (j + 1) (dw4 cday urg szs waits bfrom bto rl rn rh n nc nob pac (nI j) z) c := by
    intro c hc
    by_cases he : ∃ k, k < nc ∧ mP (dw3 cday urg szs waits rl rn n nc nob (nI j) z) c = nI k
    · obtain ⟨y1, y2, _⟩ := (g1 c hc).1 he
      exact ⟨y1, y2⟩
    · have hm := (g1 c hc).2 he
      refine ⟨CR_sm (k1 c hc) (q1 c hc (fun h => he ?_)) hm, VJ_sm (k2 c hc) hm⟩
      have hp : csP s2 c = mP (dw3 cday urg szs waits rl rn n nc nob (nI j) z) c := (k1 c hc).1
      rw [hp] at h
      rcases (k2 c hc).1 with y | y | y | y
      · rw [y] at h; exact absurd (by decide) h.1
      · rw [y] at h
        exact absurd (by rcases (show nc = 0 ∨ nc = 1 ∨ nc = 2 ∨ nc = 3 ∨ nc = 4 by omega) with rfl | rfl | rfl | rfl | rfl <;> decide) h.2
      · rw [y] at h; exact absurd h (inC10 h4)
      · exact y
  obtain ⟨f1, f2, f3, f4, f5, f6, f7, f8, f9, f10⟩ := de_spec (dw4 cday urg szs waits bfrom bto rl rn rh n nc nob pac (nI j) z) n
  have hz5 : dw5 cday urg szs waits bfrom bto rl rn rh n nc nob pac (nI j) z = itN daE (dw4 cday urg szs waits bfrom bto rl rn rh n nc nob pac (nI j) z) n := rfl
  rw [← hz5] at f1 f2 f3 f4 f5 f6 f7 f8 f9 f10
  have hz6 : dwF cday urg szs waits bfrom bto rl rn rh n nc nob pac (nI j) z = daZ (nI j) (dw5 cday urg szs waits bfrom bto rl rn rh n nc nob pac (nI j) z) := rfl
  rw [hz6]
  have gR : mR (dw4 cday urg szs waits bfrom bto rl rn rh n nc nob pac (nI j) z) = mR (dw3 cday urg szs waits rl rn n nc nob (nI j) z) := g2.2.2.2.2.2.2.1
  obtain ⟨gX, gK, gE, gM, gV, gS, -, gH⟩ := g2
  have hW45 : ∀ c, c < n → mW (dw4 cday urg szs waits bfrom bto rl rn rh n nc nob pac (nI j) z) c = csW s5 c := fun c hc => (m1 c hc).1.2.2.2.2.1.symm
  generalize dw5 cday urg szs waits bfrom bto rl rn rh n nc nob pac (nI j) z = z5 at *
  generalize dw4 cday urg szs waits bfrom bto rl rn rh n nc nob pac (nI j) z = z4 at *
  generalize dw3 cday urg szs waits rl rn n nc nob (nI j) z = z3 at *
  generalize dw2 cday urg szs waits rl rn n nc nob (nI j) z = z2 at *
  -- where a card was ahead of the pulls
  have o1 : ∀ c, c < n → (mP z1 c = -1 ↔ mP z2 c = -1) := fun c hc => (v2 c hc).2.2.2.trans (w2 c hc).2.2.2.symm
  have o2 : ∀ c, c < n → (mP z1 c = 10 ↔ mP z2 c = 10) := fun c hc => by
    have x := (v2 c hc).2.2.1
    have y := (w2 c hc).2.2.1
    unfold VD at x y
    rw [p6] at y
    rcases x with ⟨x1, d, x2, x3, _⟩ | ⟨x1, x2⟩
    · rcases y with ⟨y1, _⟩ | ⟨y1, y2⟩
      · exact ⟨fun _ => y1, fun _ => x1⟩
      · exact absurd (x3.symm.trans y2) (nI_nm1 (by omega))
    · rcases y with ⟨y1, d, y2, y3, _⟩ | ⟨y1, y2⟩
      · exact absurd (y3.symm.trans x2) (nI_nm1 (by omega))
      · exact ⟨fun q => absurd q x1, fun q => absurd q y1⟩
  have o3 : ∀ c, c < n → plA cday (nI j) z c = mP z1 c := fun c hc => by rw [a1 c, if_pos hc]
  have o4 : ∀ c, c < n → (mP z2 c = -1 ∨ mP z2 c = 10) → ¬ inC (csP s2 c) (nI nc) := fun c hc h => by
    rw [(w1 c hc).1]
    rcases h with h | h
    · rw [h]; exact fun q => absurd (by decide) q.1
    · rw [h]; exact inC10 h4
  have o5 : ∀ c, c < n → (thP (csP s5) (csD s5) (nI j) c ↔ ¬ (mP z2 c = -1 ∨ mP z2 c = 10)) := by
    intro c hc
    have hv4 := (m1 c hc).2.2.2.2
    have hv2 := (w2 c hc).2.2.2
    have hm : csP s5 c = -1 ↔ mP z2 c = -1 := by rw [(m1 c hc).1.1]; exact hv4.trans hv2.symm
    have hd := (w2 c hc).2.2.1
    constructor
    · rintro ⟨y1, y2⟩ y3
      rcases y3 with y3 | y3
      · exact y1 (hm.mpr y3)
      · refine y2 ?_
        have hsc := q1 c hc (o4 c hc (Or.inr y3))
        rcases hd with ⟨_, d, x2, x3, _⟩ | ⟨x1, _⟩
        · have : csD s5 c = nI d := by rw [hsc.2.2.1, (e3s c).2.2, (w1 c hc).2.2.1, x3]
          show ¬ csD s5 c = -1 ∧ ¬ nI j ≤ csD s5 c
          rw [this]
          exact ⟨nI_nm1 (by omega), nI_ge x2 (by omega)⟩
        · exact absurd y3 x1
    · intro y
      refine ⟨fun q => y (Or.inl (hm.mp q)), fun q => ?_⟩
      rcases hd with ⟨x1, _⟩ | ⟨_, x2⟩
      · exact y (Or.inr x1)
      · rcases q3 c hc with r | r
        · exact q.1 (by rw [r, (w1 c hc).2.2.1, x2])
        · exact q.2 (by rw [r.1]; exact Int32.le_refl _)
  refine ⟨⟨?_, ?_, ?_, ?_⟩, ?_, ?_, ?_, ?_, ?_, ?_, ?_⟩
  · intro c hc
    exact CR_sm (z' := daZ (nI j) z5) (m1 c hc).1 (SC_rf _ _) (f2 c)
  · intro c hc
    exact VJ_sm (z' := daZ (nI j) z5) (m1 c hc).2 (f2 c)
  · obtain ⟨r1, r2, r3, r4⟩ := k3
    unfold RWs
    have eX : mX (daZ (nI j) z5) = mX z3 := by show mX z5 = _; rw [f3, gX]
    have eK : mK (daZ (nI j) z5) = mK z3 := by show mK z5 = _; rw [f4, gK]
    rw [hu3, hu4, hu1, hu2, eX, eK]
    refine ⟨r1, r2, r3, fun c hc hk => ?_⟩
    refine Classical.byContradiction fun hno => ?_
    have hno3 : ¬ ∃ k, k < 4 ∧ mP z3 c = nI k := fun y => hno (r4 c hc y)
    have hm := (g1 c hc).2 (fun ⟨k, y1, y2⟩ => hno3 ⟨k, by omega, y2⟩)
    obtain ⟨k, hk1, hk2⟩ := hk
    have hk2 : mP z5 c = nI k := hk2
    exact hno3 ⟨k, hk1, by rw [← hm.1, ← (f2 c).1]; exact hk2⟩
  · show csA s5 = mV z5
    rcases q4 with ⟨y1, y2⟩ | ⟨y1, c, y2, y3⟩
    · rw [y1, f9 (fun c hc => by rw [hW45 c hc, y2 c hc]), gV]
      exact kA
    · rw [y1, f10 ⟨c, y2, by rw [hW45 c y2, y3]; decide⟩]
  · intro c hc
    show reF (csP s5) (csN s5) (csD s5) (csW s5) waits n (nI j) c = mR z5 c
    rw [f1 c, hW45 c hc, gR, d1 c, p5, a3 c hc, o3 c hc]
    unfold reF
    by_cases hth : thP (csP s5) (csD s5) (nI j) c
    · have hout := (o5 c hc).mp hth
      have hout1 : ¬ (mP z1 c = -1 ∨ mP z1 c = 10) := fun y => hout (y.elim (fun y => Or.inl ((o1 c hc).mp y)) (fun y => Or.inr ((o2 c hc).mp y)))
      rw [if_neg (fun y => y hth)]
      by_cases hwk : csW s5 c = 0
      · rw [if_neg (show ¬ ¬ csW s5 c = 0 from fun y => y hwk), if_neg (show ¬ (c < n ∧ ¬ csW s5 c = 0) from fun y => y.2 hwk), if_neg hout1, if_pos (show c < n ∧ (0 : Int32) = 0 from ⟨hc, rfl⟩)]
        obtain ⟨x1, x2⟩ := q2 c hc hwk
        have hwt : wtP (csP s5) (csD s5) waits n (nI j) c ↔ csP s5 c = 11 ∧ mwP (mD z2) waits c := by
          refine wt_iff hn hj (hw c hc) (fun w hwn => ?_)
          rcases (w2 w hwn).2.2.1 with ⟨y1, d, y2, y3, _⟩ | ⟨y1, y2⟩
          · have hsc := q1 w hwn (o4 w hwn (Or.inr y1))
            exact Or.inr ⟨d, y2, by rw [hsc.2.2.1, (e3s w).2.2, (w1 w hwn).2.2.1, y3], y3⟩
          · refine Or.inl ⟨y2, ?_⟩
            rcases q3 w hwn with r | r
            · exact Or.inl (by rw [r, (w1 w hwn).2.2.1, y2])
            · exact Or.inr r.1
        have hnx : csN s5 c = nxv z2 c := x2.trans (w1 c hc).2.2.2.2.2
        have hpx : csP s5 c = mP z2 c := x1.trans (w1 c hc).1
        rw [hnx]
        unfold rsV nxv
        by_cases h11 : mP z2 c = 11
        · rw [if_pos h11, if_pos h11]
          by_cases hmw : mwP (mD z2) waits c
          · rw [if_pos (hwt.mpr ⟨hpx.trans h11, hmw⟩), if_pos hmw]
          · rw [if_neg (fun y => hmw (hwt.mp y).2), if_neg hmw, if_neg (by decide)]
        · rw [if_neg h11, if_neg h11, if_neg (fun y => h11 (hpx.symm.trans (hwt.mp y).1))]
          have hcol : ∃ k, k < nc ∧ mP z2 c = nI k := by
            rcases (w2 c hc).1 with y | y | y | y
            · exact absurd (Or.inl y) hout
            · exact absurd y h11
            · exact absurd (Or.inr y) hout
            · exact y
          obtain ⟨k, hk1, hk2⟩ := hcol
          by_cases hT : mT z2 c = 0
          · rw [if_pos hT, if_neg (show ¬ (wiP (mP z2 c) 0 3 ∧ ¬ mT z2 c = 0) from fun y => y.2 hT), if_pos rfl]
          · rw [if_neg hT, if_pos (show wiP (mP z2 c) 0 3 ∧ ¬ mT z2 c = 0 from ⟨by rw [hk2]; exact (nI_4 (by omega)).2.2.2, hT⟩)]
            obtain ⟨q, y1, y2⟩ := (w2 c hc).2.1 hT ⟨k, hk1, hk2⟩
            rw [y2, if_neg (nI_4 (by omega)).2.2.1]
      · rw [if_pos hwk, if_pos ⟨hc, hwk⟩]
    · rw [if_pos hth]
      have hout : mP z2 c = -1 ∨ mP z2 c = 10 := Classical.byContradiction fun y => hth ((o5 c hc).mpr y)
      have hout1 : mP z1 c = -1 ∨ mP z1 c = 10 := hout.elim (fun y => Or.inl ((o1 c hc).mpr y)) (fun y => Or.inr ((o2 c hc).mpr y))
      have hsc := q1 c hc (o4 c hc hout)
      have hwk : csW s5 c = 0 := by rw [hsc.2.2.2.2.1]; exact kW c hc
      rw [if_neg (fun y => y.2 hwk), if_pos hout1, if_neg (fun y => absurd y.2 (by decide))]
  · show mH z5 = _
    rw [f8, gH, d9, p4, a4]
    refine cnt_cg fun c hc => ?_
    rw [o3 c hc, o1 c hc, o2 c hc]
    exact (o5 c hc).symm
  · show mK z5 ≤ _
    rw [f4, gK, d4]
    rw [a13] at hK2
    omega
  · show mS z5 = _
    rw [f7, gS, d8, p3, a12]
  · show mE z5 = _
    rw [f5, gE, d5, p1, a14]
  · show (if mV z5 = 0 then mM z5 else nI j) = if mV z5 = 0 then mM z else nI j
    rw [f6, gM, d6, p2, a15]
  · intro c hc
    rcases q3 c hc with y | ⟨y1, y2⟩
    · exact Or.inl (y.trans (eD2 c hc))
    · refine Or.inr ⟨?_, y1⟩
      rw [← eD2 c hc, (w1 c hc).2.2.1]
      rcases (w2 c hc).2.2.1 with ⟨x1, _⟩ | ⟨_, x2⟩
      · exact absurd y2 (o4 c hc (Or.inr x1))
      · exact x2
end DAYP
