/-! the pure part: days one behind another -/
section RUNP
variable {cday urg waits bfrom bto byd szs lim lan han rl rn rh : XF} {n nc : Nat} {nob pac : Int32}
/-- a run of the class beside the days of the reference, its days by reasons left out -/
def RDb (cday waits : XF) (n nc j : Nat) (D : DS) (z : RS) : Prop := DRw cday n nc j (dsC D) z ∧ dsJ D = j ∧ mK z ≤ 68 * j ∧ dsM D = mM z ∧ ((dsR D = 0 ∧ mE z = -1 ∧ (n = 0 → j = 0)) ∨ (¬ dsR D = 0 ∧ mE z = dn j ∧ 1 ≤ j)) ∧ (1 ≤ j → (∀ c, c < n → reA D waits n c = mR z c) ∧ nI (ctD n D) = nI (mH z) ∧ ∀ c, c < n → csW (dsC D) c = mW z c)
def RDf (n : Nat) (D : DS) (z : RS) : Prop := ∀ c, c < n → ∀ r, r < 4 → dsF D (c * 4 + r) = mS z (5 * c + r + 1)
theorem fl_t {f : XF} {v : Int32} {i j : Nat} (h : j < i) : fl f v i j = v := if_pos h
theorem RD_rs (hP : PV cday waits bfrom bto byd n nc) (D : DS) (z : RS) : RDb cday waits n nc 0 (rs1 D) (bnF z) ∧ RDf n (rs1 D) (bnF z) := by
  obtain ⟨hn, h4, hcd, hw, hbk, hby⟩ := hP
  have e1 : ∀ c, c < n → mP (bnF z) c = -1 := fun c hc => fl_t (by omega)
  have e2 : ∀ c, c < n → mT (bnF z) c = 0 := fun c hc => fl_t (by omega)
  have e3 : ∀ c, c < n → mD (bnF z) c = -1 := fun c hc => fl_t (by omega)
  refine ⟨⟨⟨?_, ?_, ?_⟩, rfl, Nat.zero_le _, rfl, Or.inl ⟨rfl, rfl, fun _ => rfl⟩, fun h => absurd h (by omega)⟩, ?_⟩
  · intro c hc
    refine ⟨?_, ?_, ?_, ?_, ?_⟩
    · rw [e1 c hc]; exact fl_t (by omega)
    · show fl _ 0 16 c = fl _ 0 16 c
      rw [fl_t (by omega), fl_t (by omega)]
    · rw [e3 c hc]; exact fl_t (by omega)
    · show fl _ 0 16 c = fl _ 0 16 c
      rw [fl_t (by omega), fl_t (by omega)]
    · unfold nxv
      rw [e1 c hc, if_neg (by decide), if_neg (fun q => absurd q.1 (by decide))]
      exact fl_t (by omega)
  · intro c hc
    refine ⟨Or.inl (e1 c hc), fun q => absurd (e2 c hc) q, Or.inr ⟨?_, e3 c hc⟩, ?_⟩
    · rw [e1 c hc]; decide
    · unfold VC
      rw [e1 c hc]
      obtain ⟨e, he, hce⟩ := hcd c hc
      rw [hce]
      exact ⟨fun _ => nI_nlt (by omega) (by omega), fun _ => rfl⟩
  · refine ⟨Nat.zero_le _, fun t ht => absurd ht (Nat.not_lt_zero t), fun t t' _ ht => absurd ht (Nat.not_lt_zero t'), fun c hc ⟨k, hk, hk2⟩ => ?_⟩
    rw [e1 c hc] at hk2
    exact absurd hk2.symm (nI_4 hk).2.2.1
  · intro c hc r hr
    show fl _ 0 64 _ = fl _ 0 80 _
    rw [fl_t (by omega), fl_t (by omega)]
theorem lmF_s : ∀ (n : Nat), (∀ c, c < n → cday c ≤ lmF cday n) ∧ 0 ≤ lmF cday n ∧ (lmF cday n = 0 ∨ ∃ c, c < n ∧ lmF cday n = cday c)
  | 0 => ⟨fun c h => absurd h (Nat.not_lt_zero c), (by decide : (0 : Int32) ≤ 0), Or.inl rfl⟩
  | n + 1 => by
    obtain ⟨h1, h2, h3⟩ := lmF_s n
    unfold lmF
    by_cases h : cday n ≤ lmF cday n
    · rw [if_pos h]
      refine ⟨fun c hc => ?_, h2, ?_⟩
      · by_cases he : c = n
        · subst he; exact h
        · exact h1 c (by omega)
      · rcases h3 with q | ⟨c, q1, q2⟩
        · exact Or.inl q
        · exact Or.inr ⟨c, by omega, q2⟩
    · rw [if_neg h]
      have h := i_nle.mp h
      refine ⟨fun c hc => ?_, Int32.le_trans h2 (Int32.le_of_lt h), Or.inr ⟨n, by omega, rfl⟩⟩
      by_cases he : c = n
      · subst he; exact Int32.le_refl _
      · exact Int32.le_trans (h1 c (by omega)) (Int32.le_of_lt h)
theorem i_anti {a b : Int32} (h : a ≤ b) (h2 : b ≤ a) : a = b := by
  rw [Int32.le_iff_toInt_le] at h h2
  exact Int32.toInt_inj.mp (by omega)
theorem lc_eq (hP : PV cday waits bfrom bto byd n nc) : lcF cday byd n = lmF cday n := by
  obtain ⟨hn, h4, hcd, hw, hbk, hby⟩ := hP
  unfold lcF
  by_cases h : n = 0
  · rw [if_pos h]; subst h; rfl
  · rw [if_neg h]
    obtain ⟨h1, h2, h3⟩ := lmF_s (cday := cday) n
    have hl : ix byd (n - 1) < n := vp_lt (hby.1 (n - 1) (by omega))
    refine i_anti (h1 _ hl) ?_
    obtain ⟨e, he, hce⟩ := hcd _ hl
    rcases h3 with q | ⟨c, q1, q2⟩
    · rw [q, hce]; exact nI_pos' (by omega)
    · rw [q2]
      obtain ⟨t, ht, rfl⟩ := hby.2.1 c q1
      by_cases hte : t = n - 1
      · subst hte; exact Int32.le_refl _
      · rcases hby.2.2 t (n - 1) (by omega) (by omega) with y | y
        · exact Int32.le_of_lt y
        · rw [y.1]; exact Int32.le_refl _
theorem mV_0 {d : Nat} {z : RS} (h : n = 0) : mV (dwF cday urg szs waits bfrom bto rl rn rh n nc nob pac (nI d) z) = 0 := by
  subst h
  have h1 : ∀ (i : Nat) (z : RS), daB cday urg szs waits rl rn 0 nob i z = z := by
    intro i
    induction i with
    | zero => intro z; rfl
    | succ i ih =>
      intro z
      show daB cday urg szs waits rl rn 0 nob i (puM cday urg szs waits rl rn 0 nob i 17 z) = z
      rw [puM_0 (n := 0) (f := 17) rfl]
      exact ih z
  have h2 : ∀ (z : RS) (i : Nat), itN (daD urg bfrom bto rh 0 nc nob pac (nI d)) z i = z := by
    intro z i
    induction i with
    | zero => rfl
    | succ i ih =>
      show wkF urg bfrom bto rh 0 nc nob pac (nI d) i (itN (daD urg bfrom bto rh 0 nc nob pac (nI d)) z i) = z
      rw [ih, wkF_eq, wkL_0 (n := 0) (f := 17) (u := true) rfl, wkL_0 (n := 0) (f := 17) (u := false) rfl]
  show mV (itN (daD urg bfrom bto rh 0 nc nob pac (nI d)) (daB cday urg szs waits rl rn 0 nob nc (da0 z)) nc) = 0
  rw [h2, h1]
  rfl
/-- reasons counted: in both -/
theorem re_cnt {s : CS} {day : Int32} {R f g : XF} (hR : ∀ c, c < n → reF (csP s) (csN s) (csD s) (csW s) waits n day c = R c) (h : ∀ c, c < n → ∀ r, r < 4 → f (c * 4 + r) = g (5 * c + r + 1)) : ∀ i, i ≤ n → ∀ c, c < n → ∀ r, r < 4 → itN (crB waits n s day) f i (c * 4 + r) = itN (rnB R) g i (5 * c + r + 1)
  | 0, _ => h
  | i + 1, hi => by
    have ih := re_cnt hR h i (by omega)
    simp only [itN]
    generalize itN (crB waits n s day) f i = f1 at ih
    generalize itN (rnB R) g i = g1 at ih
    have hRi := hR i (by omega)
    unfold crB rnB
    by_cases hq : reF (csP s) (csN s) (csD s) (csW s) waits n day i = -1
    · rw [if_pos hq, ← hRi, hq, if_pos (by decide)]
      exact ih
    · obtain ⟨q1, q2, q3⟩ := re_ix hq
      rw [if_neg hq]
      have hix : ix R i = (reF (csP s) (csN s) (csD s) (csW s) waits n day i).toNatClampNeg := by rw [hRi]
      have hle : ¬ R i ≤ 0 := by rw [← hRi, q3]; exact nI_nle (by omega) (by omega)
      rw [if_neg hle, hix]
      generalize (reF (csP s) (csN s) (csD s) (csW s) waits n day i).toNatClampNeg = q at q1 q2
      intro c hc r hr
      have e0 : f1 (i * 4 + q - 1) = g1 (5 * i + q) := by
        have := ih i (by omega) (q - 1) (by omega)
        rw [show i * 4 + (q - 1) = i * 4 + q - 1 by omega, show 5 * i + (q - 1) + 1 = 5 * i + q by omega] at this
        exact this
      by_cases he : c * 4 + r = i * 4 + q - 1
      · rw [he, pk_us, show 5 * c + r + 1 = 5 * i + q by omega, pk_us, e0]
      · rw [pk_un he, pk_un (by omega)]
        exact ih c hc r hr
theorem DRw_of {a : Nat} {s : CS} {z : RS} (h : DR cday n nc a a s z) : DRw cday n nc a s z := ⟨fun c hc => by
  obtain ⟨h1, h2, h3, h4, h5, h6⟩ := h.1 c hc
  exact ⟨h1, h2, h3, h4, h6⟩, h.2.1, h.2.2.1⟩
theorem DRw_z {a : Nat} {s : CS} {z z' : RS} (h : DRw cday n nc a s z) (hs : ∀ c, SM z z' c) (hX : mX z' = mX z) (hK : mK z' = mK z) : DRw cday n nc a s z' := by
  obtain ⟨h1, h2, h3⟩ := h
  refine ⟨fun c hc => ?_, fun c hc => VJ_sm (h2 c hc) (hs c), ?_⟩
  · obtain ⟨c1, c2, c3, c4, c6⟩ := h1 c hc
    obtain ⟨b1, b2, b3, b4, b5, b6, b7⟩ := hs c
    unfold CRw nxv
    rw [b1, b2, b3, b4, b5, b6]
    exact ⟨c1, c2, c3, c4, c6⟩
  · obtain ⟨r1, r2, r3, r4⟩ := h3
    unfold RWs
    rw [hX, hK]
    exact ⟨r1, r2, r3, fun c hc hk => r4 c hc (by rw [← (hs c).1]; exact hk)⟩
/-- one day more: in both -/
theorem RD_nd {j : Nat} (hP : PV cday waits bfrom bto byd n nc) (hl : ∀ k, k < nc → lim k = rl k ∧ lan k = rn k ∧ han k = rh k) (hj : j < 2 ^ 20) {D : DS} {z : RS} (h : RDb cday waits n nc j D z) (hr : dsR D = 0) :
    RDb cday waits n nc (j + 1) (nd1 cday urg waits bfrom bto byd szs lim lan han n nc nob pac D) (rn1 cday urg szs waits bfrom bto rl rn rh n nc nob pac j z) ∧
    RDb cday waits n nc (j + 1) (st1 cday urg waits bfrom bto byd szs lim lan han n nc nob pac D) (rn1 cday urg szs waits bfrom bto rl rn rh n nc nob pac j z) ∧
    (RDf n D z → RDf n (st1 cday urg waits bfrom bto byd szs lim lan han n nc nob pac D) (rn1 cday urg szs waits bfrom bto rl rn rh n nc nob pac j z)) ∧
    (∀ c, c < n → csD (dsC (nd1 cday urg waits bfrom bto byd szs lim lan han n nc nob pac D)) c = csD (dsC D) c ∨ (csD (dsC D) c = -1 ∧ csD (dsC (nd1 cday urg waits bfrom bto byd szs lim lan han n nc nob pac D)) c = nI j)) := by
  obtain ⟨h1, h2, h3, h5, h6, h7⟩ := h
  obtain ⟨g1, g2, g3, g4, g5, g6, g7, g8⟩ := day_ok (urg := urg) (szs := szs) (lim := lim) (lan := lan) (han := han) (rl := rl) (rn := rn) (rh := rh) (nob := nob) (pac := pac) (j := j) hP hl (by omega) h1 (by omega)
  have hmE : mE z = -1 ∧ (n = 0 → j = 0) := by
    rcases h6 with q | q
    · exact q.2
    · exact absurd hr q.1
  have hV0 := mV_0 (cday := cday) (urg := urg) (szs := szs) (waits := waits) (bfrom := bfrom) (bto := bto) (rl := rl) (rn := rn) (rh := rh) (n := n) (nc := nc) (nob := nob) (pac := pac) (d := j) (z := z)
  have hlc := lc_eq hP
  unfold rn1
  have e1 : nd1 cday urg waits bfrom bto byd szs lim lan han n nc nob pac D = (ndF cday urg waits bfrom bto byd szs lim lan han n nc nob pac j (dsC D), j + 1, ndL cday urg waits bfrom bto byd szs lim lan han n nc nob pac j (dsC D) (dsM D), ndR cday urg waits bfrom bto byd szs lim lan han n nc nob pac j (dsC D), dsF D) := by unfold nd1; rw [h2]
  have e2 : st1 cday urg waits bfrom bto byd szs lim lan han n nc nob pac D = if ndR cday urg waits bfrom bto byd szs lim lan han n nc nob pac j (dsC D) = 0 then (ndF cday urg waits bfrom bto byd szs lim lan han n nc nob pac j (dsC D), j + 1, ndL cday urg waits bfrom bto byd szs lim lan han n nc nob pac j (dsC D) (dsM D), ndR cday urg waits bfrom bto byd szs lim lan han n nc nob pac j (dsC D), crF waits n (ndF cday urg waits bfrom bto byd szs lim lan han n nc nob pac j (dsC D)) (dn (j + 1)) (dsF D)) else (ndF cday urg waits bfrom bto byd szs lim lan han n nc nob pac j (dsC D), j + 1, ndL cday urg waits bfrom bto byd szs lim lan han n nc nob pac j (dsC D) (dsM D), ndR cday urg waits bfrom bto byd szs lim lan han n nc nob pac j (dsC D), dsF D) := by
    unfold st1
    rw [e1]
    rfl
  rw [e1, e2]
  have eL : ndL cday urg waits bfrom bto byd szs lim lan han n nc nob pac j (dsC D) (dsM D) = mM (dwF cday urg szs waits bfrom bto rl rn rh n nc nob pac (nI j) z) := by
    unfold ndL
    rw [g1.2.2.2, g7, h5]
  have eR : ndR cday urg waits bfrom bto byd szs lim lan han n nc nob pac j (dsC D) = b2 (mV (dwF cday urg szs waits bfrom bto rl rn rh n nc nob pac (nI j) z) = 0 ∧ ¬ nI j < lmF cday n) := by
    unfold ndR
    rw [g1.2.2.2, hlc]
  rw [eL, eR]
  have hW := fun c hc => (g1.1 c hc).2.2.2.2.1
  have hg := DRw_of g1
  generalize ndF cday urg waits bfrom bto byd szs lim lan han n nc nob pac j (dsC D) = s' at *
  generalize dwF cday urg szs waits bfrom bto rl rn rh n nc nob pac (nI j) z = y at *
  by_cases hq : mV y = 0 ∧ ¬ nI j < lmF cday n
  · rw [b2_t hq, if_neg (by decide)]
    have ey : rnE cday n j y = (mP y, mL y, mT y, mN y, mX y, mB y, mD y, mW y, mR y, mS y, mK y, (if n = 0 then 0 else nI j), mM y, mV y, mH y) := if_pos hq
    have hE : (if n = 0 then (0 : Int32) else nI j) = nI j := by
      by_cases h0 : n = 0
      · rw [if_pos h0, hmE.2 h0]; rfl
      · rw [if_neg h0]
    have ey2 : rnS n (rnE cday n j y) = rnE cday n j y := by
      unfold rnS
      rw [if_pos]
      rw [ey]
      show 0 ≤ (if n = 0 then (0 : Int32) else nI j)
      rw [hE]
      exact nI_pos' (by omega)
    have ba : ∀ F : XF, RDb cday waits n nc (j + 1) (s', j + 1, mM y, 1, F) (rnE cday n j y) := by
      intro F
      rw [ey]
      refine ⟨DRw_z hg (fun c => SM_rf _ _) rfl rfl, rfl, ?_, rfl, Or.inr ⟨(by decide : ¬ (1 : Int32) = 0), hE, by omega⟩, fun _ => ⟨g2, ?_, hW⟩⟩
      · show mK y ≤ _
        omega
      · show nI (cnt (fun b => thP (csP s') (csD s') (dn (j + 1)) b) n) = nI (mH y)
        rw [g3]; rfl
    rw [ey2]
    refine ⟨ba _, ba _, fun hf => ?_, g8⟩
    rw [ey]
    intro c hc r hr'
    show dsF D _ = mS y _
    rw [g5]
    exact hf c hc r hr'
  · rw [b2_f hq, if_pos rfl]
    have ey : rnE cday n j y = y := if_neg hq
    have hn0 : ¬ n = 0 := fun h0 => hq ⟨hV0 h0, by
      subst h0
      exact nI_nlt (b := 0) (Nat.zero_le j) (by omega)⟩
    have ey2 : rnS n y = rnT y (itN (rnB (mR y)) (mS y) n) := by
      unfold rnS
      rw [if_neg (by rw [g6, hmE.1]; decide)]
    rw [ey, ey2]
    have ba : ∀ F : XF, RDb cday waits n nc (j + 1) (s', j + 1, mM y, 0, F) (rnT y (itN (rnB (mR y)) (mS y) n)) := by
      intro F
      refine ⟨DRw_z hg (fun c => SM_rf _ _) rfl rfl, rfl, ?_, rfl, Or.inl ⟨rfl, g6.trans hmE.1, fun h0 => absurd h0 hn0⟩, fun _ => ⟨g2, ?_, hW⟩⟩
      · show mK y ≤ _
        omega
      · show nI (cnt (fun b => thP (csP s') (csD s') (dn (j + 1)) b) n) = nI (mH y)
        rw [g3]; rfl
    refine ⟨ba _, ba _, fun hf => ?_, g8⟩
    intro c hc r hr'
    exact re_cnt (s := s') (day := nI j) g2 (fun c hc r hr => by rw [g5]; exact hf c hc r hr) n (Nat.le_refl n) c hc r hr'
/-! the reference's days by their number -/
theorem rnG_sn : ∀ (k d : Nat) (z : RS), rnG cday urg szs waits bfrom bto rl rn rh n nc nob pac (k + 1) d z = (if 0 ≤ mE (rnG cday urg szs waits bfrom bto rl rn rh n nc nob pac k d z) then rnG cday urg szs waits bfrom bto rl rn rh n nc nob pac k d z else rn1 cday urg szs waits bfrom bto rl rn rh n nc nob pac (d + k) (rnG cday urg szs waits bfrom bto rl rn rh n nc nob pac k d z))
  | 0, d, z => by
    unfold rnG
    rfl
  | k + 1, d, z => by
    by_cases h : 0 ≤ mE z
    · rw [rnG_r _ _ _ _ _ _ _ _ _ _ _ _ _ _ _ h, rnG_r _ _ _ _ _ _ _ _ _ _ _ _ _ _ _ h, if_pos h]
    · rw [rnG_s _ _ _ _ _ _ _ _ _ _ _ _ _ _ _ h, rnG_s _ _ _ _ _ _ _ _ _ _ _ _ _ _ _ h, rnG_sn k (d + 1) _, show d + 1 + k = d + (k + 1) by omega]
theorem rnG_st {k : Nat} {z : RS} (h : 0 ≤ mE (rnG cday urg szs waits bfrom bto rl rn rh n nc nob pac k 0 z)) : ∀ i, rnG cday urg szs waits bfrom bto rl rn rh n nc nob pac (k + i) 0 z = rnG cday urg szs waits bfrom bto rl rn rh n nc nob pac k 0 z
  | 0 => rfl
  | i + 1 => by
    have ih := rnG_st h i
    rw [show k + (i + 1) = (k + i) + 1 from rfl, rnG_sn, ih, if_pos h]
/-- the class's run stands on the reference's days; b: with its days by reasons -/
def OT (cday urg szs waits bfrom bto rl rn rh : XF) (n nc : Nat) (nob pac : Int32) (b : Bool) (D : DS) : Prop := ((∀ c, c < n → VS nc (dsC D) c) ∧ phS nc n (dsC D) ≤ 1408 ∧ (dsR D = 0 → dsJ D ≤ 100 ∨ phS nc n (dsC D) + dsJ D ≤ 1508)) ∧ ∀ z0 : RS, RDb cday waits n nc (dsJ D) D (rnG cday urg szs waits bfrom bto rl rn rh n nc nob pac (dsJ D) 0 (bnF z0)) ∧ (b = true → RDf n D (rnG cday urg szs waits bfrom bto rl rn rh n nc nob pac (dsJ D) 0 (bnF z0)))
/-- what is told of hands, sizes and the pace -/
def HV (szs han : XF) (n nc : Nat) (pac : Int32) : Prop := 0 < nc ∧ SZV szs n nc ∧ (∃ p, p < 2 ^ 30 ∧ pac = nI p) ∧ ∀ k, k < 4 → ∃ h, h < 2 ^ 30 ∧ han k = nI h
theorem OT_rs (hP : PV cday waits bfrom bto byd n nc) (b : Bool) (D : DS) : OT cday urg szs waits bfrom bto rl rn rh n nc nob pac b (rs1 D) := by
  have hn := hP.1
  have h4 := hP.2.1
  have e1 : ∀ c, c < n → csP (dsC (rs1 D)) c = -1 := fun c hc => fl_t (by omega)
  have e2 : ∀ c, c < n → csN (dsC (rs1 D)) c = -1 := fun c hc => fl_t (by omega)
  refine ⟨⟨fun c hc => Or.inl ⟨e1 c hc, e2 c hc⟩, ?_, fun _ => Or.inl (Nat.zero_le _)⟩, fun z0 => ⟨(RD_rs hP D z0).1, fun _ => (RD_rs hP D z0).2⟩⟩
  refine Nat.le_trans (smN_k (k := 88) (fun c hc => ?_)) (by omega)
  unfold phC
  rw [e1 c hc, if_neg (by decide), if_pos rfl]
  split <;> omega
theorem OT_ph {j : Nat} {s : CS} {z : RS} (hP : PV cday waits bfrom bto byd n nc) (hH : HV szs han n nc pac) (hD : DRw cday n nc j s z) (h : ∀ c, c < n → VS nc s c) : TI n nc s (ndF cday urg waits bfrom bto byd szs lim lan han n nc nob pac j s) := by
  obtain ⟨hn, h4, hcd, hw, hbk, hby⟩ := hP
  obtain ⟨g1, g2, ⟨p, g3, g4⟩, g5⟩ := hH
  refine TI_day hn g1 h4 hby.1 hbk g2 g4 g3 g5 (UV_rw hn hD.2.2) h (fun c hc hq => ?_)
  rw [(hD.1 c hc).1]
  exact (hD.2.1 c hc).2.2.2.mpr (by rw [hq]; exact i_irr _)
theorem OT_st (hP : PV cday waits bfrom bto byd n nc) (hH : HV szs han n nc pac) (hl : ∀ k, k < nc → lim k = rl k ∧ lan k = rn k ∧ han k = rh k) {b : Bool} {D : DS} (h : OT cday urg szs waits bfrom bto rl rn rh n nc nob pac b D) (hr : dsR D = 0) (hj : dsJ D < 2 ^ 20) :
    OT cday urg szs waits bfrom bto rl rn rh n nc nob pac b (st1 cday urg waits bfrom bto byd szs lim lan han n nc nob pac D) ∧ OT cday urg szs waits bfrom bto rl rn rh n nc nob pac false (nd1 cday urg waits bfrom bto byd szs lim lan han n nc nob pac D) ∧ dsJ (st1 cday urg waits bfrom bto byd szs lim lan han n nc nob pac D) = dsJ D + 1 := by
  obtain ⟨⟨h1, h2, h3⟩, h5⟩ := h
  have hT : TI n nc (dsC D) (ndF cday urg waits bfrom bto byd szs lim lan han n nc nob pac (dsJ D) (dsC D)) := OT_ph hP hH ((h5 (fun _ => 0, fun _ => 0, fun _ => 0, fun _ => 0, fun _ => 0, fun _ => 0, fun _ => 0, fun _ => 0, fun _ => 0, fun _ => 0, 0, 0, 0, 0, 0)).1.1) h1
  have hnd : ∀ z0 : RS, RDb cday waits n nc (dsJ D + 1) (nd1 cday urg waits bfrom bto byd szs lim lan han n nc nob pac D) (rnG cday urg szs waits bfrom bto rl rn rh n nc nob pac (dsJ D + 1) 0 (bnF z0)) ∧ RDb cday waits n nc (dsJ D + 1) (st1 cday urg waits bfrom bto byd szs lim lan han n nc nob pac D) (rnG cday urg szs waits bfrom bto rl rn rh n nc nob pac (dsJ D + 1) 0 (bnF z0)) ∧ (b = true → RDf n (st1 cday urg waits bfrom bto byd szs lim lan han n nc nob pac D) (rnG cday urg szs waits bfrom bto rl rn rh n nc nob pac (dsJ D + 1) 0 (bnF z0))) := by
    intro z0
    obtain ⟨k1, k2⟩ := h5 z0
    have hE : mE (rnG cday urg szs waits bfrom bto rl rn rh n nc nob pac (dsJ D) 0 (bnF z0)) = -1 := by
      rcases k1.2.2.2.2.1 with q | q
      · exact q.2.1
      · exact absurd hr q.1
    rw [rnG_sn, if_neg (by rw [hE]; decide), Nat.zero_add]
    obtain ⟨m1, m2, m3, _⟩ := RD_nd (urg := urg) (szs := szs) (nob := nob) (pac := pac) hP hl hj k1 hr
    exact ⟨m1, m2, fun hb => m3 (k2 hb)⟩
  have ej : dsJ (nd1 cday urg waits bfrom bto byd szs lim lan han n nc nob pac D) = dsJ D + 1 := rfl
  have es : dsC (st1 cday urg waits bfrom bto byd szs lim lan han n nc nob pac D) = ndF cday urg waits bfrom bto byd szs lim lan han n nc nob pac (dsJ D) (dsC D) ∧ dsJ (st1 cday urg waits bfrom bto byd szs lim lan han n nc nob pac D) = dsJ D + 1 ∧ dsR (st1 cday urg waits bfrom bto byd szs lim lan han n nc nob pac D) = ndR cday urg waits bfrom bto byd szs lim lan han n nc nob pac (dsJ D) (dsC D) := by
    unfold st1
    split <;> exact ⟨rfl, rfl, rfl⟩
  have hrest : ndR cday urg waits bfrom bto byd szs lim lan han n nc nob pac (dsJ D) (dsC D) = 0 → dsJ D + 1 ≤ 100 ∨ phS nc n (ndF cday urg waits bfrom bto byd szs lim lan han n nc nob pac (dsJ D) (dsC D)) + (dsJ D + 1) ≤ 1508 := by
    intro hq
    unfold ndR at hq
    have hq := b2_z.mp hq
    rw [lc_eq hP] at hq
    by_cases hlt : nI (dsJ D) < lmF cday n
    · left
      obtain ⟨_, _, q3⟩ := lmF_s (cday := cday) n
      rcases q3 with q3 | ⟨c, q4, q5⟩
      · rw [q3] at hlt; exact absurd hlt (nI_pos (by omega))
      · obtain ⟨e, he, hce⟩ := hP.2.2.1 c q4
        rw [q5, hce] at hlt
        have := (nI_ltI (by omega) (by omega)).mp hlt
        omega
    · right
      have hA : ¬ csA (ndF cday urg waits bfrom bto byd szs lim lan han n nc nob pac (dsJ D) (dsC D)) = 0 := fun y => hq ⟨y, hlt⟩
      have := hT.2.2 hA
      rcases h3 hr with y | y <;> omega
  refine ⟨⟨⟨?_, ?_, ?_⟩, fun z0 => ?_⟩, ⟨⟨hT.1, Nat.le_trans hT.2.1 h2, hrest⟩, fun z0 => ⟨(hnd z0).1, fun q => absurd q (by decide)⟩⟩, es.2.1⟩
  · rw [es.1]; exact hT.1
  · rw [es.1]; exact Nat.le_trans hT.2.1 h2
  · rw [es.1, es.2.1, es.2.2]; exact hrest
  · rw [es.2.1]; exact (hnd z0).2
theorem OT_sdG (hP : PV cday waits bfrom bto byd n nc) (hH : HV szs han n nc pac) (hl : ∀ k, k < nc → lim k = rl k ∧ lan k = rn k ∧ han k = rh k) : ∀ (k : Nat) (D : DS), OT cday urg szs waits bfrom bto rl rn rh n nc nob pac true D → dsJ D + k < 2 ^ 20 →
    OT cday urg szs waits bfrom bto rl rn rh n nc nob pac true (sdG cday urg waits bfrom bto byd szs lim lan han n nc nob pac k D) ∧ dsJ (sdG cday urg waits bfrom bto byd szs lim lan han n nc nob pac k D) ≤ dsJ D + k ∧ (dsR (sdG cday urg waits bfrom bto byd szs lim lan han n nc nob pac k D) = 0 → dsJ (sdG cday urg waits bfrom bto byd szs lim lan han n nc nob pac k D) = dsJ D + k)
  | 0, D, h, _ => ⟨h, Nat.le_refl _, fun _ => rfl⟩
  | k + 1, D, h, hk => by
    by_cases hr : dsR D = 0
    · rw [sdG_s _ _ _ _ _ _ _ _ _ _ _ _ _ _ _ hr]
      obtain ⟨g1, _, g3⟩ := OT_st (lim := lim) (lan := lan) (byd := byd) hP hH hl h hr (by omega)
      obtain ⟨q1, q2, q3⟩ := OT_sdG hP hH hl k _ g1 (by omega)
      exact ⟨q1, by omega, fun y => by have := q3 y; omega⟩
    · rw [sdG_r _ _ _ _ _ _ _ _ _ _ _ _ _ _ _ hr]
      exact ⟨h, by omega, fun y => absurd y hr⟩
theorem OT_sd0 (hP : PV cday waits bfrom bto byd n nc) {a : Nat} {D : DS} (h : OT cday urg szs waits bfrom bto rl rn rh n nc nob pac true D) : OT cday urg szs waits bfrom bto rl rn rh n nc nob pac true (sd0 a D) ∧ dsJ (sd0 a D) ≤ a + 1 := by
  unfold sd0
  by_cases hq : a + 1 < dsJ D
  · rw [if_pos hq]
    exact ⟨OT_rs hP true D, Nat.zero_le _⟩
  · rw [if_neg hq]
    exact ⟨h, by omega⟩
theorem OT_sdF (hP : PV cday waits bfrom bto byd n nc) (hH : HV szs han n nc pac) (hl : ∀ k, k < nc → lim k = rl k ∧ lan k = rn k ∧ han k = rh k) {a : Nat} (ha : a ≤ 3000) {D : DS} (h : OT cday urg szs waits bfrom bto rl rn rh n nc nob pac true D) :
    OT cday urg szs waits bfrom bto rl rn rh n nc nob pac true (sdF cday urg waits bfrom bto byd szs lim lan han n nc nob pac a D) ∧ dsJ (sdF cday urg waits bfrom bto byd szs lim lan han n nc nob pac a D) ≤ a + 1 ∧ (dsR (sdF cday urg waits bfrom bto byd szs lim lan han n nc nob pac a D) = 0 → dsJ (sdF cday urg waits bfrom bto byd szs lim lan han n nc nob pac a D) = a + 1) := by
  obtain ⟨g1, g2⟩ := OT_sd0 (a := a) hP h
  unfold sdF
  obtain ⟨q1, q2, q3⟩ := OT_sdG (urg := urg) (lim := lim) (lan := lan) (nob := nob) hP hH hl (a + 1 - dsJ (sd0 a D)) (sd0 a D) g1 (by omega)
  exact ⟨q1, by omega, fun y => by have := q3 y; omega⟩
/-- the class's run, asked for a day, and the reference's, run to that day -/
theorem OT_rn {a : Nat} (ha : a ≤ 100000) {b : Bool} {E : DS} (h : OT cday urg szs waits bfrom bto rl rn rh n nc nob pac b E) (hJ : dsJ E ≤ a + 1) (hR : dsR E = 0 → dsJ E = a + 1) (z0 : RS) : RDb cday waits n nc (dsJ E) E (rnF cday urg szs waits bfrom bto rl rn rh n nc nob pac a z0) ∧ (b = true → RDf n E (rnF cday urg szs waits bfrom bto rl rn rh n nc nob pac a z0)) := by
  have e : rnF cday urg szs waits bfrom bto rl rn rh n nc nob pac a z0 = rnG cday urg szs waits bfrom bto rl rn rh n nc nob pac (dsJ E) 0 (bnF z0) := by
    unfold rnF
    by_cases hr : dsR E = 0
    · rw [hR hr, Nat.add_comm]
    · obtain ⟨q1, _⟩ := h.2 z0
      have hE : 0 ≤ mE (rnG cday urg szs waits bfrom bto rl rn rh n nc nob pac (dsJ E) 0 (bnF z0)) := by
        rcases q1.2.2.2.2.1 with q | ⟨_, q2, q3⟩
        · exact absurd q.1 hr
        · rw [q2]
          obtain ⟨x, hx⟩ : ∃ x, dsJ E = x + 1 := ⟨dsJ E - 1, by omega⟩
          rw [hx]
          exact nI_pos' (by omega)
      have := rnG_st hE (1 + a - dsJ E)
      rw [show dsJ E + (1 + a - dsJ E) = 1 + a by omega] at this
      exact this
  rw [e]
  exact h.2 z0
theorem OT_rest {b : Bool} {E : DS} (h : OT cday urg szs waits bfrom bto rl rn rh n nc nob pac b E) (hR : dsR E = 0 → dsJ E = 3001) : ¬ dsR E = 0 := by
  intro hr
  have h1 := hR hr
  rcases h.1.2.2 hr with q | q <;> omega
end RUNP
