/-! the pure part: the class's day is the reference's: work -/
/-- a card's cells are the same -/
def SM (z z' : RS) (c : Nat) : Prop := mP z' c = mP z c ∧ mL z' c = mL z c ∧ mT z' c = mT z c ∧ mN z' c = mN z c ∧ mB z' c = mB z c ∧ mD z' c = mD z c ∧ mW z' c = mW z c
def SC (s s' : CS) (c : Nat) : Prop := csP s' c = csP s c ∧ csL s' c = csL s c ∧ csD s' c = csD s c ∧ csB s' c = csB s c ∧ csW s' c = csW s c ∧ csN s' c = csN s c
def GM (z z' : RS) : Prop := mX z' = mX z ∧ mK z' = mK z ∧ mE z' = mE z ∧ mM z' = mM z ∧ mV z' = mV z ∧ mS z' = mS z ∧ mR z' = mR z ∧ mH z' = mH z
theorem SM_rf (z : RS) (c : Nat) : SM z z c := ⟨rfl, rfl, rfl, rfl, rfl, rfl, rfl⟩
theorem SC_rf (s : CS) (c : Nat) : SC s s c := ⟨rfl, rfl, rfl, rfl, rfl, rfl⟩
theorem GM_rf (z : RS) : GM z z := ⟨rfl, rfl, rfl, rfl, rfl, rfl, rfl, rfl⟩
theorem SM_tr {a b d : RS} {c : Nat} (h : SM a b c) (h2 : SM b d c) : SM a d c := by
  obtain ⟨a1, a2, a3, a4, a5, a6, a7⟩ := h
  obtain ⟨b1, b2, b3, b4, b5, b6, b7⟩ := h2
  exact ⟨b1.trans a1, b2.trans a2, b3.trans a3, b4.trans a4, b5.trans a5, b6.trans a6, b7.trans a7⟩
theorem SC_tr {a b d : CS} {c : Nat} (h : SC a b c) (h2 : SC b d c) : SC a d c := by
  obtain ⟨a1, a2, a3, a4, a5, a6⟩ := h
  obtain ⟨b1, b2, b3, b4, b5, b6⟩ := h2
  exact ⟨b1.trans a1, b2.trans a2, b3.trans a3, b4.trans a4, b5.trans a5, b6.trans a6⟩
theorem GM_tr {a b d : RS} (h : GM a b) (h2 : GM b d) : GM a d := by
  obtain ⟨a1, a2, a3, a4, a5, a6, a7, a8⟩ := h
  obtain ⟨b1, b2, b3, b4, b5, b6, b7, b8⟩ := h2
  exact ⟨b1.trans a1, b2.trans a2, b3.trans a3, b4.trans a4, b5.trans a5, b6.trans a6, b7.trans a7, b8.trans a8⟩
theorem CR_sm {s s' : CS} {z z' : RS} {c : Nat} (h : CR s z c) (h1 : SC s s' c) (h2 : SM z z' c) : CR s' z' c := by
  obtain ⟨c1, c2, c3, c4, c5, c6⟩ := h
  obtain ⟨a1, a2, a3, a4, a5, a6⟩ := h1
  obtain ⟨b1, b2, b3, b4, b5, b6, b7⟩ := h2
  unfold CR nxv
  rw [a1, a2, a3, a4, a5, a6, b1, b2, b3, b4, b5, b6, b7]
  exact ⟨c1, c2, c3, c4, c5, c6⟩
theorem VJ_sm {cday : XF} {nc a e : Nat} {z z' : RS} {c : Nat} (h : VJ cday nc a e z c) (h2 : SM z z' c) : VJ cday nc a e z' c := by
  obtain ⟨b1, b2, b3, b4, b5, b6, b7⟩ := h2
  unfold VJ VP VN VD VC at *
  rw [b1, b3, b4, b6]
  exact h
theorem VJ_up {cday : XF} {nc a e : Nat} {z : RS} {c : Nat} (h : VJ cday nc a e z c) : VJ cday nc (a + 1) e z c := by
  obtain ⟨h1, h2, h3, h4⟩ := h
  refine ⟨h1, h2, ?_, h4⟩
  rcases h3 with ⟨q, d, q1, q2⟩ | q
  · exact Or.inl ⟨q, d, by omega, q2⟩
  · exact Or.inr q
section WKP
variable {urg bfrom bto rh cday : XF} {n nc : Nat} {nob pac : Int32}
section W1
variable {day : Int32} {s : CS} {c k : Nat}
theorem wcF_no (h1 : ¬ csL s c - wcU pac s c k = 0) (h2 : ¬ 0 < wcU pac s c k) : wcF bfrom bto nc day pac s c k = wc1 pac s c k := by
  have e : csL (wc1 pac s c k) c = csL s c - wcU pac s c k := pk_us
  have e2 : wc2 bfrom bto nc day pac s c k = wc1 pac s c k := if_neg (by rw [e]; exact h1)
  unfold wcF
  rw [e2, if_neg]
  intro q
  rcases q with q | q
  · exact h2 q
  · rw [e] at q; exact h1 q
theorem wcF_un (h1 : ¬ csL s c - wcU pac s c k = 0) (h2 : 0 < wcU pac s c k) : wcF bfrom bto nc day pac s c k = wcW (wc1 pac s c k) c := by
  have e : csL (wc1 pac s c k) c = csL s c - wcU pac s c k := pk_us
  have e2 : wc2 bfrom bto nc day pac s c k = wc1 pac s c k := if_neg (by rw [e]; exact h1)
  unfold wcF
  rw [e2, if_pos (Or.inl h2)]
theorem wcF_th (h1 : csL s c - wcU pac s c k = 0) : wcF bfrom bto nc day pac s c k = wcW (ecF bfrom bto nc day (wc1 pac s c k) c k) c := by
  have e : csL (wc1 pac s c k) c = csL s c - wcU pac s c k := pk_us
  have e2 : wc2 bfrom bto nc day pac s c k = ecF bfrom bto nc day (wc1 pac s c k) c k := if_pos (e.trans h1)
  unfold wcF
  rw [e2, if_pos (Or.inr (by rw [ecF_L]; exact e.trans h1))]
theorem ecF_b {s : CS} (h : nI k = bfrom c ∧ csB s c = 0) : ecF bfrom bto nc day s c k = (csP s, upd (csN s) c (bto c), csL s, csD s, csW s, upd (csB s) c 1, csU s, csH s, csC s, csA s) := if_pos h
theorem ecF_l {s : CS} (h : ¬ (nI k = bfrom c ∧ csB s c = 0)) (h2 : nI k = nI nc - 1) : ecF bfrom bto nc day s c k = (upd (csP s) c 10, csN s, csL s, upd (csD s) c day, csW s, csB s, csU s, csH s, csC s, csA s) := (if_neg h).trans (if_pos h2)
theorem ecF_n {s : CS} (h : ¬ (nI k = bfrom c ∧ csB s c = 0)) (h2 : ¬ nI k = nI nc - 1) : ecF bfrom bto nc day s c k = (csP s, upd (csN s) c (nI (k + 1)), csL s, csD s, csW s, csB s, csU s, csH s, csC s, csA s) := (if_neg h).trans (if_neg h2)
/-- a card's work touches that card alone -/
theorem wcF_ne {b : Nat} (hb : b ≠ c) : SC s (wcF bfrom bto nc day pac s c k) b := by
  by_cases h1 : csL s c - wcU pac s c k = 0
  · rw [wcF_th h1]
    by_cases h3 : nI k = bfrom c ∧ csB (wc1 pac s c k) c = 0
    · rw [ecF_b h3]
      exact ⟨rfl, pk_un hb, rfl, pk_un hb, pk_un hb, pk_un hb⟩
    · by_cases h4 : nI k = nI nc - 1
      · rw [ecF_l h3 h4]
        exact ⟨pk_un hb, pk_un hb, pk_un hb, rfl, pk_un hb, rfl⟩
      · rw [ecF_n h3 h4]
        exact ⟨rfl, pk_un hb, rfl, rfl, pk_un hb, pk_un hb⟩
  · by_cases h2 : 0 < wcU pac s c k
    · rw [wcF_un h1 h2]
      exact ⟨rfl, pk_un hb, rfl, rfl, pk_un hb, rfl⟩
    · rw [wcF_no h1 h2]
      exact ⟨rfl, pk_un hb, rfl, rfl, rfl, rfl⟩
theorem wcF_H : csH (wcF bfrom bto nc day pac s c k) = upd (csH s) k (csH s k - wcU pac s c k) := by
  by_cases h1 : csL s c - wcU pac s c k = 0
  · rw [wcF_th h1, wcW_H, ecF_H]; rfl
  · by_cases h2 : 0 < wcU pac s c k
    · rw [wcF_un h1 h2]; rfl
    · rw [wcF_no h1 h2]; rfl
/-- what a card's work may leave of it -/
theorem wcF_at : (csP (wcF bfrom bto nc day pac s c k) c = csP s c ∨ csP (wcF bfrom bto nc day pac s c k) c = 10) ∧ (csW (wcF bfrom bto nc day pac s c k) c = 0 → csW s c = 0 ∧ csP (wcF bfrom bto nc day pac s c k) c = csP s c ∧ csN (wcF bfrom bto nc day pac s c k) c = csN s c) ∧ (csD (wcF bfrom bto nc day pac s c k) c = csD s c ∨ csD (wcF bfrom bto nc day pac s c k) c = day) ∧ ((csA (wcF bfrom bto nc day pac s c k) = csA s ∧ csW (wcF bfrom bto nc day pac s c k) c = csW s c) ∨ (csA (wcF bfrom bto nc day pac s c k) = 1 ∧ csW (wcF bfrom bto nc day pac s c k) c = 1)) := by
  by_cases h1 : csL s c - wcU pac s c k = 0
  · rw [wcF_th h1]
    have w1 : csW (wcW (ecF bfrom bto nc day (wc1 pac s c k) c k) c) c = 1 := pk_us
    rw [w1]
    refine ⟨?_, fun q => absurd q (by decide), ?_, Or.inr ⟨rfl, rfl⟩⟩
    · rw [wcW_P]
      unfold ecF
      split
      · exact Or.inl rfl
      · split
        · exact Or.inr pk_us
        · exact Or.inl rfl
    · rw [wcW_D]
      unfold ecF
      split
      · exact Or.inl rfl
      · split
        · exact Or.inr pk_us
        · exact Or.inl rfl
  · by_cases h2 : 0 < wcU pac s c k
    · rw [wcF_un h1 h2]
      have w1 : csW (wcW (wc1 pac s c k) c) c = 1 := pk_us
      rw [w1]
      exact ⟨Or.inl rfl, fun q => absurd q (by decide), Or.inl rfl, Or.inr ⟨rfl, rfl⟩⟩
    · rw [wcF_no h1 h2]
      exact ⟨Or.inl rfl, fun q => ⟨q, rfl, rfl⟩, Or.inl rfl, Or.inl ⟨rfl, rfl⟩⟩
end W1
/-- the class's pass: what it may do to a card -/
def TWc (nc : Nat) (day : Int32) (s s' : CS) (c : Nat) : Prop := (¬ inC (csP s c) (nI nc) → SC s s' c) ∧ (csP s' c = csP s c ∨ csP s' c = 10) ∧ (csW s' c = 0 → csW s c = 0 ∧ csP s' c = csP s c ∧ csN s' c = csN s c) ∧ (csD s' c = csD s c ∨ (csD s' c = day ∧ inC (csP s c) (nI nc)))
def TWa (n : Nat) (s s' : CS) : Prop := (csA s' = csA s ∧ ∀ c, c < n → csW s' c = csW s c) ∨ (csA s' = 1 ∧ ∃ c, c < n ∧ csW s' c = 1)
theorem inC10 (h4 : nc ≤ 4) : ¬ inC 10 (nI nc) := fun q => q.2 (by
  rcases (show nc = 0 ∨ nc = 1 ∨ nc = 2 ∨ nc = 3 ∨ nc = 4 by omega) with rfl | rfl | rfl | rfl | rfl <;> decide)
theorem tw_c {day : Int32} {u : Bool} (h4 : nc ≤ 4) {s : CS} (hU : ∀ t, t < csC s → ∃ c, c < n ∧ csU s t = nI c) (hn : n ≤ 16) (hUV : UV n s) : ∀ i, i ≤ csC s → (∀ c, c < n → TWc nc day s (itN (twB urg bfrom bto nc nob day pac u) s i) c) ∧ TWa n s (itN (twB urg bfrom bto nc nob day pac u) s i)
  | 0, _ => ⟨fun c _ => ⟨fun _ => SC_rf s c, Or.inl rfl, fun q => ⟨q, rfl, rfl⟩, Or.inl rfl⟩, Or.inl ⟨rfl, fun _ _ => rfl⟩⟩
  | i + 1, hi => by
    obtain ⟨h1, h2⟩ := tw_c (day := day) (u := u) h4 hU hn hUV i (by omega)
    obtain ⟨hu1, hu2⟩ := UV_tw hUV i (urg := urg) (bfrom := bfrom) (bto := bto) (nc := nc) (nob := nob) (day := day) (pac := pac) (u := u)
    simp only [itN]
    generalize itN (twB urg bfrom bto nc nob day pac u) s i = s1 at h1 h2 hu1 hu2
    obtain ⟨c, hc, hUc⟩ := hU i (by omega)
    have hix : ix (csU s1) i = c := by show (csU s1 i).toNatClampNeg = c; rw [hu1, hUc, nI_clamp (by omega)]
    unfold twB
    rw [hix]
    by_cases hq : inC (csP s1 c) (nI nc) ∧ csN s1 c = -1 ∧ (urgP urg nob c ↔ u = true)
    · rw [if_pos hq]
      obtain ⟨a1, a2, a3, a4⟩ := wcF_at (bfrom := bfrom) (bto := bto) (nc := nc) (day := day) (pac := pac) (s := s1) (c := c) (k := ix (csP s1) c)
      have hne : ∀ b, b ≠ c → SC s1 (wcF bfrom bto nc day pac s1 c (ix (csP s1) c)) b := fun b hb => wcF_ne hb
      generalize wcF bfrom bto nc day pac s1 c (ix (csP s1) c) = s2 at a1 a2 a3 a4 hne
      have hin : inC (csP s c) (nI nc) := by
        rcases (h1 c hc).2.1 with q | q
        · rw [← q]; exact hq.1
        · exact absurd (q ▸ hq.1) (inC10 h4)
      constructor
      · intro b hb
        obtain ⟨b1, b2, b3, b4⟩ := h1 b hb
        by_cases hbc : b = c
        · subst hbc
          refine ⟨fun q => absurd hin q, ?_, ?_, ?_⟩
          · rcases a1 with q | q
            · rw [q]; exact b2
            · exact Or.inr q
          · intro q
            obtain ⟨d1, d2, d3⟩ := a2 q
            obtain ⟨e1, e2, e3⟩ := b3 d1
            exact ⟨e1, d2.trans e2, d3.trans e3⟩
          · rcases a3 with q | q
            · rw [q]; exact b4
            · exact Or.inr ⟨q, hin⟩
        · obtain ⟨d1, d2, d3, d4, d5, d6⟩ := hne b hbc
          refine ⟨fun q => SC_tr (b1 q) (hne b hbc), ?_, ?_, ?_⟩
          · rw [d1]; exact b2
          · rw [d5, d1, d6]; exact b3
          · rw [d3]; exact b4
      · rcases a4 with ⟨q1, q2⟩ | ⟨q1, q2⟩
        · have hw : ∀ b, b < n → csW s2 b = csW s1 b := fun b _ => by
            by_cases hbc : b = c
            · subst hbc; exact q2
            · exact (hne b hbc).2.2.2.2.1
          rcases h2 with ⟨r1, r2⟩ | ⟨r1, b, r2, r3⟩
          · exact Or.inl ⟨q1.trans r1, fun b hb => (hw b hb).trans (r2 b hb)⟩
          · exact Or.inr ⟨q1.trans r1, b, r2, (hw b r2).trans r3⟩
        · exact Or.inr ⟨q1, c, hc, q2⟩
    · rw [if_neg hq]
      exact ⟨h1, h2⟩
/-! the reference's step of work -/
section W2
variable {day : Int32} {z : RS} {un : Int32} {c k : Nat}
theorem zl_L {v : Int32} : mL (zlF z c v) c = mL z c - v := pk_us
theorem wk1_no (h1 : ¬ mL z c - wkU pac z un c = 0) (h2 : wkU pac z un c ≤ 0) : wk1 bfrom bto nc day pac z un c k = zlF z c (wkU pac z un c) := by
  have e : wk2 pac z un c = zlF z c (wkU pac z un c) := if_pos h2
  unfold wk1
  rw [e, if_neg (by rw [zl_L]; exact h1)]
theorem wk1_un (h1 : ¬ mL z c - wkU pac z un c = 0) (h2 : ¬ wkU pac z un c ≤ 0) : wk1 bfrom bto nc day pac z un c k = zdF (zlF z c (wkU pac z un c)) c := by
  have e : wk2 pac z un c = zdF (zlF z c (wkU pac z un c)) c := if_neg h2
  unfold wk1
  rw [e, if_neg (show ¬ mL (zdF (zlF z c (wkU pac z un c)) c) c = 0 from fun q => h1 ((zl_L (z := z) (c := c)).symm.trans q))]
theorem wk1_t0 (h1 : mL z c - wkU pac z un c = 0) (h2 : wkU pac z un c ≤ 0) : wk1 bfrom bto nc day pac z un c k = thM bfrom bto nc day (zlF z c (wkU pac z un c)) c k := by
  have e : wk2 pac z un c = zlF z c (wkU pac z un c) := if_pos h2
  unfold wk1
  rw [e, if_pos (by rw [zl_L]; exact h1)]
theorem wk1_t1 (h1 : mL z c - wkU pac z un c = 0) (h2 : ¬ wkU pac z un c ≤ 0) : wk1 bfrom bto nc day pac z un c k = thM bfrom bto nc day (zdF (zlF z c (wkU pac z un c)) c) c k := by
  have e : wk2 pac z un c = zdF (zlF z c (wkU pac z un c)) c := if_neg h2
  unfold wk1
  rw [e, if_pos (show mL (zdF (zlF z c (wkU pac z un c)) c) c = 0 from (zl_L (z := z) (c := c)).trans h1)]
theorem thM_b (h : bfrom c = nI k ∧ mB z c = 0) : thM bfrom bto nc day z c k = (mP z, mL z, upd (mT z) c 1, upd (mN z) c (bto c), mX z, upd (mB z) c 1, mD z, upd (mW z) c 1, mR z, mS z, mK z, mE z, mM z, mV z, mH z) := if_pos h
theorem thM_l (h : ¬ (bfrom c = nI k ∧ mB z c = 0)) (h2 : nI k = nI nc - 1) : thM bfrom bto nc day z c k = (upd (mP z) c 10, mL z, upd (mT z) c 1, mN z, mX z, mB z, upd (mD z) c day, upd (mW z) c 1, mR z, mS z, mK z, mE z, mM z, mV z, mH z) := (if_neg h).trans (if_pos h2)
theorem thM_n (h : ¬ (bfrom c = nI k ∧ mB z c = 0)) (h2 : ¬ nI k = nI nc - 1) : thM bfrom bto nc day z c k = (mP z, mL z, upd (mT z) c 1, upd (mN z) c (nI (k + 1)), mX z, mB z, mD z, upd (mW z) c 1, mR z, mS z, mK z, mE z, mM z, mV z, mH z) := (if_neg h).trans (if_neg h2)
theorem thM_ne {b : Nat} (hb : b ≠ c) : SM z (thM bfrom bto nc day z c k) b := by
  by_cases h : bfrom c = nI k ∧ mB z c = 0
  · rw [thM_b h]; exact ⟨rfl, rfl, pk_un hb, pk_un hb, pk_un hb, rfl, pk_un hb⟩
  · by_cases h2 : nI k = nI nc - 1
    · rw [thM_l h h2]; exact ⟨pk_un hb, rfl, pk_un hb, rfl, rfl, pk_un hb, pk_un hb⟩
    · rw [thM_n h h2]; exact ⟨rfl, rfl, pk_un hb, pk_un hb, rfl, rfl, pk_un hb⟩
theorem thM_G : GM z (thM bfrom bto nc day z c k) := by
  by_cases h : bfrom c = nI k ∧ mB z c = 0
  · rw [thM_b h]; exact GM_rf z
  · by_cases h2 : nI k = nI nc - 1
    · rw [thM_l h h2]; exact GM_rf z
    · rw [thM_n h h2]; exact GM_rf z
theorem zl_ne {b : Nat} {v : Int32} (hb : b ≠ c) : SM z (zlF z c v) b := ⟨rfl, pk_un hb, rfl, rfl, rfl, rfl, rfl⟩
theorem zd_ne {b : Nat} (hb : b ≠ c) : SM z (zdF z c) b := ⟨rfl, rfl, rfl, rfl, rfl, rfl, pk_un hb⟩
theorem wk1_ne {b : Nat} (hb : b ≠ c) : SM z (wk1 bfrom bto nc day pac z un c k) b := by
  by_cases h1 : mL z c - wkU pac z un c = 0
  · by_cases h2 : wkU pac z un c ≤ 0
    · rw [wk1_t0 h1 h2]; exact SM_tr (zl_ne hb) (thM_ne hb)
    · rw [wk1_t1 h1 h2]; exact SM_tr (SM_tr (zl_ne hb) (zd_ne hb)) (thM_ne hb)
  · by_cases h2 : wkU pac z un c ≤ 0
    · rw [wk1_no h1 h2]; exact zl_ne hb
    · rw [wk1_un h1 h2]; exact SM_tr (zl_ne hb) (zd_ne hb)
theorem wk1_G : GM z (wk1 bfrom bto nc day pac z un c k) := by
  by_cases h1 : mL z c - wkU pac z un c = 0
  · by_cases h2 : wkU pac z un c ≤ 0
    · rw [wk1_t0 h1 h2]; exact thM_G (z := zlF z c _)
    · rw [wk1_t1 h1 h2]; exact thM_G (z := zdF (zlF z c _) c)
  · by_cases h2 : wkU pac z un c ≤ 0
    · rw [wk1_no h1 h2]; exact GM_rf z
    · rw [wk1_un h1 h2]; exact GM_rf z
end W2
theorem wkU_eq {s : CS} {z : RS} {c k : Nat} {un : Int32} (h : csL s c = mL z c) (hu : csH s k = un) : wcU pac s c k = wkU pac z un c := by
  unfold wcU wkU mn mnU
  rw [h, hu]
  simp only [Int32.lt_iff_toInt_lt, Int32.le_iff_toInt_le]
  repeat' split
  all_goals first | rfl | (apply Int32.toInt_inj.mp; omega)
/-- the card is through: in both -/
theorem CR_th {day : Int32} {s : CS} {z : RS} {c k : Nat} (hk : k < 4) (h : CR s z c) (hp : mP z c = nI k) (hN : csN s c = -1) : CR (wcW (ecF bfrom bto nc day s c k) c) (thM bfrom bto nc day z c k) c := by
  obtain ⟨h1, h2, h3, h4, h5, h6⟩ := h
  have n4 := nI_4 hk
  by_cases hb : bfrom c = nI k ∧ mB z c = 0
  · rw [thM_b hb, ecF_b ⟨hb.1.symm, h4.trans hb.2⟩]
    refine ⟨h1, h2, h3, ?_, ?_, ?_⟩
    · exact (pk_us (f := csB s)).trans (pk_us (f := mB z)).symm
    · exact (pk_us (f := csW s)).trans (pk_us (f := mW z)).symm
    · show upd (csN s) c (bto c) c = nxv (mP z, mL z, upd (mT z) c 1, upd (mN z) c (bto c), mX z, upd (mB z) c 1, mD z, upd (mW z) c 1, mR z, mS z, mK z, mE z, mM z, mV z, mH z) c
      unfold nxv
      show upd (csN s) c (bto c) c = if mP z c = 11 then 0 else if wiP (mP z c) 0 3 ∧ ¬ upd (mT z) c 1 c = 0 then upd (mN z) c (bto c) c else -1
      rw [hp, if_neg n4.1, pk_us, pk_us, pk_us, if_pos ⟨n4.2.2.2, by decide⟩]
  · have hb' : ¬ (nI k = bfrom c ∧ csB s c = 0) := fun q => hb ⟨q.1.symm, h4.symm.trans q.2⟩
    by_cases hl : nI k = nI nc - 1
    · rw [thM_l hb hl, ecF_l hb' hl]
      refine ⟨?_, h2, ?_, h4, ?_, ?_⟩
      · exact (pk_us (f := csP s)).trans (pk_us (f := mP z)).symm
      · exact (pk_us (f := csD s)).trans (pk_us (f := mD z)).symm
      · exact (pk_us (f := csW s)).trans (pk_us (f := mW z)).symm
      · show csN s c = nxv (upd (mP z) c 10, mL z, upd (mT z) c 1, mN z, mX z, mB z, upd (mD z) c day, upd (mW z) c 1, mR z, mS z, mK z, mE z, mM z, mV z, mH z) c
        unfold nxv
        show csN s c = if upd (mP z) c 10 c = 11 then 0 else if wiP (upd (mP z) c 10 c) 0 3 ∧ ¬ upd (mT z) c 1 c = 0 then mN z c else -1
        rw [pk_us, if_neg (by decide), if_neg (fun q => absurd q.1 (by decide))]
        exact hN
    · rw [thM_n hb hl, ecF_n hb' hl]
      refine ⟨h1, h2, h3, h4, ?_, ?_⟩
      · exact (pk_us (f := csW s)).trans (pk_us (f := mW z)).symm
      · show upd (csN s) c (nI (k + 1)) c = nxv (mP z, mL z, upd (mT z) c 1, upd (mN z) c (nI (k + 1)), mX z, mB z, mD z, upd (mW z) c 1, mR z, mS z, mK z, mE z, mM z, mV z, mH z) c
        unfold nxv
        show upd (csN s) c (nI (k + 1)) c = if mP z c = 11 then 0 else if wiP (mP z c) 0 3 ∧ ¬ upd (mT z) c 1 c = 0 then upd (mN z) c (nI (k + 1)) c else -1
        rw [hp, if_neg n4.1, pk_us, pk_us, pk_us, if_pos ⟨n4.2.2.2, by decide⟩]
theorem CR_wk {day : Int32} {s : CS} {z : RS} {un : Int32} {c k : Nat} (hk : k < 4) (h : CR s z c) (hp : mP z c = nI k) (hN : csN s c = -1) (hu : csH s k = un) : CR (wcF bfrom bto nc day pac s c k) (wk1 bfrom bto nc day pac z un c k) c := by
  have hU := wkU_eq (pac := pac) h.2.1 hu
  have hL : csL s c - wcU pac s c k = mL z c - wkU pac z un c := by rw [hU, h.2.1]
  have hc : CR (wc1 pac s c k) (zlF z c (wkU pac z un c)) c := by
    obtain ⟨h1, h2, h3, h4, h5, h6⟩ := h
    exact ⟨h1, (pk_us (f := csL s)).trans (hL.trans (pk_us (f := mL z)).symm), h3, h4, h5, h6⟩
  have hcd : CR (wcW (wc1 pac s c k) c) (zdF (zlF z c (wkU pac z un c)) c) c := by
    obtain ⟨h1, h2, h3, h4, h5, h6⟩ := hc
    exact ⟨h1, h2, h3, h4, (pk_us (f := csW s)).trans (pk_us (f := mW z)).symm, h6⟩
  by_cases h1 : mL z c - wkU pac z un c = 0
  · rw [wcF_th (hL.trans h1)]
    by_cases h2 : wkU pac z un c ≤ 0
    · rw [wk1_t0 h1 h2]
      exact CR_th hk hc hp hN
    · rw [wk1_t1 h1 h2]
      have := CR_th (bfrom := bfrom) (bto := bto) (nc := nc) (day := day) hk hcd hp hN
      refine CR_sm this ?_ (SM_rf _ _)
      have e : wcW (ecF bfrom bto nc day (wcW (wc1 pac s c k) c) c k) c = wcW (wcW (ecF bfrom bto nc day (wc1 pac s c k) c k) c) c := by
        unfold ecF
        have e1 : csB (wcW (wc1 pac s c k) c) = csB (wc1 pac s c k) := rfl
        rw [e1]
        split
        · rfl
        · split <;> rfl
      rw [e]
      refine ⟨rfl, rfl, rfl, rfl, ?_, rfl⟩
      exact (pk_us (f := csW (ecF bfrom bto nc day (wc1 pac s c k) c k))).trans (pk_us (f := csW (wcW (ecF bfrom bto nc day (wc1 pac s c k) c k) c))).symm
  · have h1' : ¬ csL s c - wcU pac s c k = 0 := fun q => h1 (hL.symm.trans q)
    by_cases h2 : wkU pac z un c ≤ 0
    · rw [wk1_no h1 h2, wcF_no h1' (by rw [hU]; exact i_nlt.mpr h2)]
      exact hc
    · rw [wk1_un h1 h2, wcF_un h1' (by rw [hU]; exact i_nle.mp h2)]
      exact hcd
/-- BACKs go down -/
def BKV (bfrom bto : XF) (n nc : Nat) : Prop := ∀ c, c < n → bfrom c = -1 ∨ ∃ r q, r < nc ∧ q < r ∧ bfrom c = nI r ∧ bto c = nI q
theorem VJ_th {j c k : Nat} {z : RS} (hj : j < 2 ^ 30) (hk : k < nc) (h4 : nc ≤ 4) (hd : ∃ e, e ≤ 99 ∧ cday c = nI e) (hbk : bfrom c = -1 ∨ ∃ r q, r < nc ∧ q < r ∧ bfrom c = nI r ∧ bto c = nI q) (h : VJ cday nc (j + 1) (j + 1) z c) (hp : mP z c = nI k) : VJ cday nc (j + 1) (j + 1) (thM bfrom bto nc (nI j) z c k) c := by
  obtain ⟨h1, h2, h3, h5⟩ := h
  have n4 := nI_4 (show k < 4 by omega)
  have hcd : cday c < nI (j + 1) := Classical.byContradiction fun q => n4.2.2.1 (hp.symm.trans (h5.mpr q))
  by_cases hb : bfrom c = nI k ∧ mB z c = 0
  · rw [thM_b hb]
    refine ⟨h1, fun _ _ => ?_, h3, h5⟩
    rcases hbk with q | ⟨r, q, q1, q2, q3, q4⟩
    · exact absurd (hb.1.symm.trans q) n4.2.2.1
    · exact ⟨q, by omega, (pk_us (f := mN z)).trans q4⟩
  · by_cases hl : nI k = nI nc - 1
    · rw [thM_l hb hl]
      have eP : upd (mP z) c 10 c = 10 := pk_us
      refine ⟨Or.inr (Or.inr (Or.inl eP)), ?_, Or.inl ⟨eP, j, by omega, pk_us, ?_⟩, ?_⟩
      · rintro _ ⟨q, q1, q2⟩
        have q2 : upd (mP z) c 10 c = nI q := q2
        rw [eP] at q2
        exact absurd q2.symm (nI_4 (by omega)).2.1
      · obtain ⟨e, he, hce⟩ := hd
        rw [hce] at hcd ⊢
        have := (nI_ltI (by omega) (by omega)).mp hcd
        exact nI_le (by omega) (by omega)
      · show upd (mP z) c 10 c = -1 ↔ _
        rw [eP]
        exact ⟨fun q => absurd q (by decide), fun q => absurd hcd q⟩
    · rw [thM_n hb hl]
      refine ⟨h1, fun _ _ => ⟨k + 1, ?_, pk_us⟩, h3, h5⟩
      rcases (show k + 1 < nc ∨ nc = k + 1 by omega) with q | q
      · exact q
      · exact absurd (by rw [q, nI_pred]) hl
theorem VJ_wk {j c k : Nat} {z : RS} {un : Int32} (hj : j < 2 ^ 30) (hk : k < nc) (h4 : nc ≤ 4) (hd : ∃ e, e ≤ 99 ∧ cday c = nI e) (hbk : bfrom c = -1 ∨ ∃ r q, r < nc ∧ q < r ∧ bfrom c = nI r ∧ bto c = nI q) (h : VJ cday nc (j + 1) (j + 1) z c) (hp : mP z c = nI k) : VJ cday nc (j + 1) (j + 1) (wk1 bfrom bto nc (nI j) pac z un c k) c ∧ (mP (wk1 bfrom bto nc (nI j) pac z un c k) c = nI k ∨ mP (wk1 bfrom bto nc (nI j) pac z un c k) c = 10) := by
  have hPt : ∀ z : RS, mP z c = nI k → mP (thM bfrom bto nc (nI j) z c k) c = nI k ∨ mP (thM bfrom bto nc (nI j) z c k) c = 10 := by
    intro z hp
    by_cases hb : bfrom c = nI k ∧ mB z c = 0
    · rw [thM_b hb]; exact Or.inl hp
    · by_cases hl : nI k = nI nc - 1
      · rw [thM_l hb hl]; exact Or.inr pk_us
      · rw [thM_n hb hl]; exact Or.inl hp
  by_cases h1 : mL z c - wkU pac z un c = 0
  · by_cases h2 : wkU pac z un c ≤ 0
    · rw [wk1_t0 h1 h2]; exact ⟨VJ_th hj hk h4 hd hbk h hp, hPt _ hp⟩
    · rw [wk1_t1 h1 h2]; exact ⟨VJ_th hj hk h4 hd hbk h hp, hPt _ hp⟩
  · by_cases h2 : wkU pac z un c ≤ 0
    · rw [wk1_no h1 h2]; exact ⟨h, Or.inl hp⟩
    · rw [wk1_un h1 h2]; exact ⟨h, Or.inl hp⟩
/-- the column k, in both, while its cards are worked; P0: where cards were as the work began -/
def SK (cday P0 : XF) (n nc k j : Nat) (s : CS) (z : RS) (un : Int32) : Prop := csH s k = un ∧ ∀ c, c < n → (P0 c = nI k → CR s z c ∧ VJ cday nc (j + 1) (j + 1) z c ∧ (mP z c = nI k ∨ mP z c = 10)) ∧ (¬ P0 c = nI k → ¬ mP z c = nI k ∧ ¬ csP s c = nI k)
/-- the row as the work finds it -/
def RRW (P0 X0 U0 : XF) (n C0 : Nat) : Prop := C0 ≤ 16 ∧ (∀ t, t < C0 → ∃ c, c < n ∧ U0 t = nI c ∧ ∃ p, p < 2 ^ 30 ∧ X0 c = nI p) ∧ (∀ t t', t < t' → t' < C0 → X0 (ix U0 t) < X0 (ix U0 t')) ∧ (∀ c, c < n → (∃ k, k < 4 ∧ P0 c = nI k) → ∃ t, t < C0 ∧ U0 t = nI c)
theorem wkL_0 {day : Int32} {k : Nat} {u : Bool} {f : Nat} {z : RS} {un bh : Int32} (h : nwN urg n nob (mP z) (mT z) (mX z) k u bh = 0) : wkL urg bfrom bto n nc nob day pac k u f z un bh = (z, un) := by
  cases f with
  | zero => rfl
  | succ f => rw [wkL, h]; rfl
theorem tw_sim {P0 X0 U0 : XF} {C0 j k : Nat} {u : Bool} (hn : n ≤ 16) (hj : j < 2 ^ 30) (hk : k < nc) (h4 : nc ≤ 4) (hcd : ∀ c, c < n → ∃ e, e ≤ 99 ∧ cday c = nI e) (hbk : BKV bfrom bto n nc) (hR : RRW P0 X0 U0 n C0) {s : CS} {z : RS} {un : Int32} (hsU : csU s = U0) (hsC : csC s = C0) (hUV : UV n s) (hzX : mX z = X0) (hS : SK cday P0 n nc k j s z un) :
    ∀ i, i ≤ C0 → ∃ (z' : RS) (un' : Int32) (f : Nat) (bh : Int32), wkL urg bfrom bto n nc nob (nI j) pac k u 17 z un (-1) = wkL urg bfrom bto n nc nob (nI j) pac k u f z' un' bh ∧ C0 ≤ i + f ∧ SK cday P0 n nc k j (itN (twB urg bfrom bto nc nob (nI j) pac u) s i) z' un' ∧
      (∀ t, t < i → ¬ nwP urg nob (mP z') (mT z') (mX z') k u bh (ix U0 t)) ∧ (∀ t, i ≤ t → t < C0 → ¬ X0 (ix U0 t) ≤ bh) ∧ GM z z' ∧ (∀ c, c < n → ¬ P0 c = nI k → SM z z' c)
  | 0, _ => by
    refine ⟨z, un, 17, -1, rfl, by have := hR.1; omega, hS, fun t ht => absurd ht (Nat.not_lt_zero t), ?_, GM_rf z, fun c _ _ => SM_rf z c⟩
    intro t _ ht
    obtain ⟨c, hc, hU, p, hp, hX⟩ := hR.2.1 t ht
    show ¬ X0 (U0 t).toNatClampNeg ≤ -1
    rw [hU, nI_clamp (by omega), hX]
    exact i_nle.mpr (Int32.lt_of_lt_of_le (by decide) (nI_pos' (by omega)))
  | i + 1, hi => by
    obtain ⟨z', un', f, bh, a1, a2, a3, a4, a5, a6, a7⟩ := tw_sim (u := u) hn hj hk h4 hcd hbk hR hsU hsC hUV hzX hS i (by omega)
    obtain ⟨hu1, hu2⟩ := UV_tw hUV i (urg := urg) (bfrom := bfrom) (bto := bto) (nc := nc) (nob := nob) (day := nI j) (pac := pac) (u := u)
    simp only [itN]
    generalize itN (twB urg bfrom bto nc nob (nI j) pac u) s i = s1 at a3 hu1 hu2
    obtain ⟨c, hc, hUc, p, hp, hXc⟩ := hR.2.1 i (by omega)
    have hix : ix (csU s1) i = c := by show (csU s1 i).toNatClampNeg = c; rw [hu1, hsU, hUc, nI_clamp (by omega)]
    have hi0 : ix U0 i = c := by show (U0 i).toNatClampNeg = c; rw [hUc, nI_clamp (by omega)]
    have hX' : mX z' = X0 := a6.1.trans hzX
    have n4 := nI_4 (show k < 4 by omega)
    obtain ⟨b1, b2⟩ := a3
    unfold twB
    rw [hix]
    have skip : ¬ nwP urg nob (mP z') (mT z') (mX z') k u bh c → ∀ t, t < i + 1 → ¬ nwP urg nob (mP z') (mT z') (mX z') k u bh (ix U0 t) := by
      intro h t ht
      by_cases he : t = i
      · subst he; rw [hi0]; exact h
      · exact a4 t (by omega)
    by_cases hq : inC (csP s1 c) (nI nc) ∧ csN s1 c = -1 ∧ (urgP urg nob c ↔ u = true)
    · rw [if_pos hq]
      by_cases hK : P0 c = nI k
      · obtain ⟨d1, d2, d3⟩ := (b2 c hc).1 hK
        have hpk : mP z' c = nI k := by
          rcases d3 with q | q
          · exact q
          · exact absurd (by rw [← q, ← d1.1]; exact hq.1) (inC10 h4)
        have hcp : ix (csP s1) c = k := by show (csP s1 c).toNatClampNeg = k; rw [d1.1, hpk, nI_clamp (by omega)]
        rw [hcp]
        have hT : mT z' c = 0 := by
          refine Classical.byContradiction fun hT => ?_
          obtain ⟨q, hq1, hq2⟩ := d2.2.1 hT ⟨k, hk, hpk⟩
          have := d1.2.2.2.2.2
          unfold nxv at this
          rw [hpk, if_neg n4.1, if_pos ⟨n4.2.2.2, hT⟩, hq2, hq.2.1] at this
          exact (nI_4 (show q < 4 by omega)).2.2.1 this.symm
        have hnw : nwP urg nob (mP z') (mT z') (mX z') k u bh c := ⟨hpk, hT, hq.2.2, by rw [hX', ← hi0]; exact a5 i (Nat.le_refl i) (by omega)⟩
        have hgt : ∀ b, b < n → nwP urg nob (mP z') (mT z') (mX z') k u bh b → b = c ∨ X0 c < X0 b := by
          intro b hb hP
          have hKb : P0 b = nI k := Classical.byContradiction fun q => ((b2 b hb).2 q).1 hP.1
          obtain ⟨t, ht, hUt⟩ := hR.2.2.2 b hb ⟨k, by omega, hKb⟩
          have hit : ix U0 t = b := by show (U0 t).toNatClampNeg = b; rw [hUt, nI_clamp (by omega)]
          rcases Nat.lt_trichotomy t i with q | q | q
          · exact absurd (by rw [hit]; exact hP) (a4 t q)
          · subst q; exact Or.inl (hit.symm.trans hi0)
          · have := hR.2.2.1 i t q ht
            rw [hit, hi0] at this
            exact Or.inr this
        have hN : nwN urg n nob (mP z') (mT z') (mX z') k u bh = c + 1 := by
          refine slN_b (n := n) hnw (fun b hb hP => ?_) n (Nat.le_refl n) hc
          rw [hX']
          rcases hgt b hb hP with q | q
          · subst q; exact ⟨fun y => absurd y (Nat.lt_irrefl _), fun y => absurd y (Nat.lt_irrefl _)⟩
          · exact ⟨fun _ => i_nle.mpr q, fun _ y => y (Int32.le_of_lt q)⟩
        cases f with
        | zero => omega
        | succ f =>
          have hG := wk1_G (bfrom := bfrom) (bto := bto) (nc := nc) (day := nI j) (pac := pac) (z := z') (un := un') (c := c) (k := k)
          obtain ⟨e1, e2⟩ := VJ_wk (pac := pac) (un := un') hj hk h4 (hcd c hc) (hbk c hc) d2 hpk
          refine ⟨wk1 bfrom bto nc (nI j) pac z' un' c k, un' - wkU pac z' un' c, f, mX z' c, ?_, by omega, ⟨?_, ?_⟩, ?_, ?_, GM_tr a6 hG, ?_⟩
          · rw [a1, wkL_s hN]
          · rw [wcF_H, pk_us, b1, wkU_eq d1.2.1 b1]
          · intro b hb
            by_cases hbc : b = c
            · subst hbc
              exact ⟨fun _ => ⟨CR_wk (by omega) d1 hpk hq.2.1 b1, e1, e2⟩, fun q => absurd hK q⟩
            · have m1 := wk1_ne (bfrom := bfrom) (bto := bto) (nc := nc) (day := nI j) (pac := pac) (z := z') (un := un') (c := c) (k := k) hbc
              have m2 := wcF_ne (bfrom := bfrom) (bto := bto) (nc := nc) (day := nI j) (pac := pac) (s := s1) (c := c) (k := k) hbc
              refine ⟨fun q => ?_, fun q => ?_⟩
              · obtain ⟨r1, r2, r3⟩ := (b2 b hb).1 q
                exact ⟨CR_sm r1 m2 m1, VJ_sm r2 m1, by rw [m1.1]; exact r3⟩
              · rw [m1.1, m2.1]; exact (b2 b hb).2 q
          · intro t ht hP
            have hP4 := hP.2.2.2
            rw [hG.1, hX'] at hP4
            by_cases he : t = i
            · subst he; rw [hi0] at hP4; exact hP4 (Int32.le_refl _)
            · have := hR.2.2.1 t i (by omega) (by omega)
              rw [hi0] at this
              exact hP4 (Int32.le_of_lt this)
          · intro t h1 h2
            have := hR.2.2.1 i t (by omega) h2
            rw [hi0] at this
            rw [hX']
            exact i_nle.mpr this
          · intro b hb q
            have hbc : b ≠ c := fun y => q (y ▸ hK)
            exact SM_tr (a7 b hb q) (wk1_ne hbc)
      · obtain ⟨d1, d2⟩ := (b2 c hc).2 hK
        have hne : ¬ ix (csP s1) c = k := by
          intro q
          obtain ⟨g1, g2⟩ := hq.1
          obtain ⟨x, hx, hx2⟩ := nI_of g1
          have : ix (csP s1) c = x := by show (csP s1 c).toNatClampNeg = x; rw [hx2, nI_clamp hx]
          exact d2 (by rw [hx2, ← this, q])
        obtain ⟨w1, -, -, -⟩ := wcF_at (bfrom := bfrom) (bto := bto) (nc := nc) (day := nI j) (pac := pac) (s := s1) (c := c) (k := ix (csP s1) c)
        refine ⟨z', un', f, bh, a1, by omega, ⟨?_, ?_⟩, skip (fun q => d1 q.1), fun t h1 h2 => a5 t (by omega) h2, a6, a7⟩
        · rw [wcF_H, pk_un (fun q => hne q.symm)]; exact b1
        · intro b hb
          by_cases hbc : b = c
          · subst hbc
            refine ⟨fun q => absurd q hK, fun _ => ⟨d1, ?_⟩⟩
            rcases w1 with q | q
            · rw [q]; exact d2
            · rw [q]; exact fun y => n4.2.1 y.symm
          · have m2 := wcF_ne (bfrom := bfrom) (bto := bto) (nc := nc) (day := nI j) (pac := pac) (s := s1) (c := c) (k := ix (csP s1) c) hbc
            refine ⟨fun q => ?_, fun q => ?_⟩
            · obtain ⟨r1, r2, r3⟩ := (b2 b hb).1 q
              exact ⟨CR_sm r1 m2 (SM_rf _ _), r2, r3⟩
            · rw [m2.1]; exact (b2 b hb).2 q
    · rw [if_neg hq]
      refine ⟨z', un', f, bh, a1, by omega, ⟨b1, b2⟩, skip (fun hP => ?_), fun t h1 h2 => a5 t (by omega) h2, a6, a7⟩
      have hK : P0 c = nI k := Classical.byContradiction fun q => ((b2 c hc).2 q).1 hP.1
      obtain ⟨d1, d2, d3⟩ := (b2 c hc).1 hK
      refine hq ⟨?_, ?_, hP.2.2.1⟩
      · rw [d1.1, hP.1]; exact ⟨nI_pos (by omega), nI_ge hk (by omega)⟩
      · rw [d1.2.2.2.2.2]
        unfold nxv
        rw [hP.1, if_neg n4.1, if_neg (fun y => y.2 hP.2.1)]
theorem tw_end {P0 X0 U0 : XF} {C0 j k : Nat} {u : Bool} (hn : n ≤ 16) (hj : j < 2 ^ 30) (hk : k < nc) (h4 : nc ≤ 4) (hcd : ∀ c, c < n → ∃ e, e ≤ 99 ∧ cday c = nI e) (hbk : BKV bfrom bto n nc) (hR : RRW P0 X0 U0 n C0) {s : CS} {z : RS} {un : Int32} (hsU : csU s = U0) (hsC : csC s = C0) (hUV : UV n s) (hzX : mX z = X0) (hS : SK cday P0 n nc k j s z un) :
    SK cday P0 n nc k j (twF urg bfrom bto nc nob (nI j) pac u s) (wkL urg bfrom bto n nc nob (nI j) pac k u 17 z un (-1)).1 (wkL urg bfrom bto n nc nob (nI j) pac k u 17 z un (-1)).2 ∧ GM z (wkL urg bfrom bto n nc nob (nI j) pac k u 17 z un (-1)).1 ∧ ∀ c, c < n → ¬ P0 c = nI k → SM z (wkL urg bfrom bto n nc nob (nI j) pac k u 17 z un (-1)).1 c := by
  obtain ⟨z', un', f, bh, a1, a2, a3, a4, a5, a6, a7⟩ := tw_sim (urg := urg) (nob := nob) (pac := pac) (u := u) hn hj hk h4 hcd hbk hR hsU hsC hUV hzX hS C0 (Nat.le_refl _)
  have hN : nwN urg n nob (mP z') (mT z') (mX z') k u bh = 0 := by
    refine slN_0 fun b hb hP => ?_
    have hKb : P0 b = nI k := Classical.byContradiction fun q => ((a3.2 b hb).2 q).1 hP.1
    obtain ⟨t, ht, hUt⟩ := hR.2.2.2 b hb ⟨k, by omega, hKb⟩
    have hit : ix U0 t = b := by show (U0 t).toNatClampNeg = b; rw [hUt, nI_clamp (by omega)]
    exact a4 t ht (by rw [hit]; exact hP)
  rw [a1, wkL_0 hN]
  unfold twF
  rw [hsC]
  exact ⟨a3, a6, a7⟩
theorem wkF_eq {day : Int32} {k : Nat} {z : RS} : wkF urg bfrom bto rh n nc nob pac day k z = (wkL urg bfrom bto n nc nob day pac k false 17 (wkL urg bfrom bto n nc nob day pac k true 17 z (rh k) (-1)).1 (wkL urg bfrom bto n nc nob day pac k true 17 z (rh k) (-1)).2 (-1)).1 := rfl
theorem wk_col {P0 X0 U0 : XF} {C0 j k : Nat} (hn : n ≤ 16) (hj : j < 2 ^ 30) (hk : k < nc) (h4 : nc ≤ 4) (hcd : ∀ c, c < n → ∃ e, e ≤ 99 ∧ cday c = nI e) (hbk : BKV bfrom bto n nc) (hR : RRW P0 X0 U0 n C0) {s : CS} {z : RS} (hsU : csU s = U0) (hsC : csC s = C0) (hUV : UV n s) (hzX : mX z = X0) (hS : SK cday P0 n nc k j s z (rh k)) :
    (∃ un, SK cday P0 n nc k j (twF urg bfrom bto nc nob (nI j) pac false (twF urg bfrom bto nc nob (nI j) pac true s)) (wkF urg bfrom bto rh n nc nob pac (nI j) k z) un) ∧ GM z (wkF urg bfrom bto rh n nc nob pac (nI j) k z) ∧ ∀ c, c < n → ¬ P0 c = nI k → SM z (wkF urg bfrom bto rh n nc nob pac (nI j) k z) c := by
  obtain ⟨a1, a2, a3⟩ := tw_end (urg := urg) (nob := nob) (pac := pac) (u := true) hn hj hk h4 hcd hbk hR hsU hsC hUV hzX hS
  obtain ⟨hu1, hu2⟩ := UV_tw hUV (csC s) (urg := urg) (bfrom := bfrom) (bto := bto) (nc := nc) (nob := nob) (day := nI j) (pac := pac) (u := true)
  have hu1 : csU (twF urg bfrom bto nc nob (nI j) pac true s) = csU s := hu1
  have hu2 : csC (twF urg bfrom bto nc nob (nI j) pac true s) = csC s := hu2
  have hUV2 := UV_twF (urg := urg) (bfrom := bfrom) (bto := bto) (nc := nc) (nob := nob) (day := nI j) (pac := pac) (u := true) hUV
  rw [wkF_eq]
  generalize wkL urg bfrom bto n nc nob (nI j) pac k true 17 z (rh k) (-1) = w1 at a1 a2 a3
  obtain ⟨b1, b2, b3⟩ := tw_end (urg := urg) (nob := nob) (pac := pac) (u := false) hn hj hk h4 hcd hbk hR (hu1.trans hsU) (hu2.trans hsC) hUV2 (a2.1.trans hzX) a1
  exact ⟨⟨_, b1⟩, GM_tr a2 b2, fun c hc q => SM_tr (a3 c hc q) (b3 c hc q)⟩
/-- all columns' work -/
theorem wk_all {P0 X0 U0 : XF} {C0 j : Nat} (hn : n ≤ 16) (hj : j < 2 ^ 30) (h4 : nc ≤ 4) (hcd : ∀ c, c < n → ∃ e, e ≤ 99 ∧ cday c = nI e) (hbk : BKV bfrom bto n nc) (hR : RRW P0 X0 U0 n C0) {s : CS} {z : RS} (hsU : csU s = U0) (hsC : csC s = C0) (hUV : UV n s) (hzX : mX z = X0) (hH : ∀ k, k < nc → csH s k = rh k) (hP0 : ∀ c, c < n → mP z c = P0 c) (hcr : ∀ c, c < n → CR s z c) (hvj : ∀ c, c < n → VJ cday nc (j + 1) (j + 1) z c) :
    ∀ i, i ≤ nc → (∀ c, c < n → ((∃ k, k < i ∧ P0 c = nI k) → CR (twF urg bfrom bto nc nob (nI j) pac false (twF urg bfrom bto nc nob (nI j) pac true s)) (itN (daD urg bfrom bto rh n nc nob pac (nI j)) z i) c ∧ VJ cday nc (j + 1) (j + 1) (itN (daD urg bfrom bto rh n nc nob pac (nI j)) z i) c ∧ (mP (itN (daD urg bfrom bto rh n nc nob pac (nI j)) z i) c = P0 c ∨ mP (itN (daD urg bfrom bto rh n nc nob pac (nI j)) z i) c = 10)) ∧ ((¬ ∃ k, k < i ∧ P0 c = nI k) → SM z (itN (daD urg bfrom bto rh n nc nob pac (nI j)) z i) c)) ∧ GM z (itN (daD urg bfrom bto rh n nc nob pac (nI j)) z i)
  | 0, _ => ⟨fun c _ => ⟨fun ⟨k, hk, _⟩ => absurd hk (Nat.not_lt_zero k), fun _ => SM_rf z c⟩, GM_rf z⟩
  | i + 1, hi => by
    obtain ⟨h1, h2⟩ := wk_all hn hj h4 hcd hbk hR hsU hsC hUV hzX hH hP0 hcr hvj i (by omega)
    simp only [itN]
    generalize itN (daD urg bfrom bto rh n nc nob pac (nI j)) z i = z1 at h1 h2
    have hS : SK cday P0 n nc i j s z1 (rh i) := by
      refine ⟨hH i (by omega), fun c hc => ⟨fun q => ?_, fun q => ?_⟩⟩
      · have hm := (h1 c hc).2 (fun ⟨k, hk, hk2⟩ => by have := nI_inj (by omega) (by omega) (hk2.symm.trans q); omega)
        exact ⟨CR_sm (hcr c hc) (SC_rf _ _) hm, VJ_sm (hvj c hc) hm, Or.inl (by rw [hm.1, hP0 c hc]; exact q)⟩
      · refine ⟨?_, by rw [(hcr c hc).1, hP0 c hc]; exact q⟩
        by_cases he : ∃ k, k < i ∧ P0 c = nI k
        · rcases ((h1 c hc).1 he).2.2 with y | y
          · rw [y]; exact q
          · rw [y]; exact fun y => (nI_4 (show i < 4 by omega)).2.1 y.symm
        · rw [((h1 c hc).2 he).1, hP0 c hc]; exact q
    obtain ⟨⟨un, b1⟩, b2, b3⟩ := wk_col (urg := urg) (nob := nob) (pac := pac) (rh := rh) hn hj (show i < nc by omega) h4 hcd hbk hR hsU hsC hUV (h2.1.trans hzX) hS
    have e : daD urg bfrom bto rh n nc nob pac (nI j) z1 i = wkF urg bfrom bto rh n nc nob pac (nI j) i z1 := rfl
    rw [e]
    refine ⟨fun c hc => ⟨fun ⟨k, hk, hk2⟩ => ?_, fun q => ?_⟩, GM_tr h2 b2⟩
    · by_cases hki : k = i
      · subst hki
        obtain ⟨r1, r2, r3⟩ := (b1.2 c hc).1 hk2
        exact ⟨r1, r2, by rw [hk2]; exact r3⟩
      · have hne : ¬ P0 c = nI i := fun q => hki (nI_inj (by omega) (by omega) (hk2.symm.trans q))
        have hm := b3 c hc hne
        obtain ⟨r1, r2, r3⟩ := (h1 c hc).1 ⟨k, by omega, hk2⟩
        exact ⟨CR_sm r1 (SC_rf _ _) hm, VJ_sm r2 hm, by rw [hm.1]; exact r3⟩
    · exact SM_tr ((h1 c hc).2 (fun ⟨k, hk, hk2⟩ => q ⟨k, by omega, hk2⟩)) (b3 c hc (fun y => q ⟨i, by omega, y⟩))
end WKP
