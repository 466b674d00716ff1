/-! the pure part: class and reference, their answers -/
/-- as OT, whatever the reference's limits are beyond the four columns -/
def ON (cday urg szs waits bfrom bto lim lan han : XF) (n nc : Nat) (nob pac : Int32) (D : DS) : Prop := ∀ rl rn rh : XF, (∀ k, k < nc → lim k = rl k ∧ lan k = rn k ∧ han k = rh k) → OT cday urg szs waits bfrom bto rl rn rh n nc nob pac true D
/-- what is told is the same in both -/
def SE (b : BS) (g : MM) : Prop := bK b = gK g ∧ bN b = gN g ∧ bDay b = gDay g ∧ bUrg b = gUrg g ∧ bWai b = gWai g ∧ bFro b = gFro g ∧ bBto b = gBto g ∧ bSzs b = gSzs g ∧ bRl b = gLl g ∧ bRn b = gLn g ∧ bRh b = gLh g ∧ bRp b = gLp g ∧ bTl b = gOl g ∧ bTn b = gOn g ∧ bTh b = gOh g ∧ bTp b = gOp g
/-- the other run's rules as they count -/
def SV (b : BS) : Prop := (∀ k, k < 4 → bVl b k = toR (bTl b k) (bRl b k) ∧ bVn b k = toR (bTn b k) (bRn b k) ∧ bVh b k = toR (bTh b k) (bRh b k)) ∧ bVp b = toR (bTp b) (bRp b)
/-- what is told keeps to its ranges -/
def SR (b : BS) : Prop := PV (bDay b) (bWai b) (bFro b) (bBto b) (bByd b) (bN b) (bK b) ∧ 0 < bK b ∧ SZV (bSzs b) (bN b) (bK b) ∧ (∀ k, k < 4 → ∃ h, h < 2 ^ 30 ∧ bRh b k = nI h) ∧ (∀ k, k < 4 → bTh b k = -1 ∨ ∃ h, h < 2 ^ 30 ∧ bTh b k = nI h) ∧ (∃ p, p < 2 ^ 30 ∧ bRp b = nI p) ∧ (bTp b = -1 ∨ ∃ p, p < 2 ^ 30 ∧ bTp b = nI p)
/-- the runs stand on the reference's days -/
def SN (b : BS) : Prop := ON (bDay b) (bUrg b) (bSzs b) (bWai b) (bFro b) (bBto b) (bRl b) (bRn b) (bRh b) (bN b) (bK b) 0 (bRp b) (bDP b) ∧ ON (bDay b) (bUrg b) (bSzs b) (bWai b) (bFro b) (bBto b) (bVl b) (bVn b) (bVh b) (bN b) (bK b) 0 (bVp b) (bDQ b) ∧ ON (bDay b) (bUrg b) (bSzs b) (bWai b) (bFro b) (bBto b) (bRl b) (bRn b) (bRh b) (bN b) (bK b) 1 (bRp b) (bDC b)
theorem SR_hp {b : BS} (h : SR b) : HV (bSzs b) (bRh b) (bN b) (bK b) (bRp b) := ⟨h.2.1, h.2.2.1, h.2.2.2.2.2.1, h.2.2.2.1⟩
theorem SR_hq {b : BS} (h : SR b) (hv : SV b) : HV (bSzs b) (bVh b) (bN b) (bK b) (bVp b) := by
  obtain ⟨h1, h2, h3, h4, h5, h6, h7⟩ := h
  refine ⟨h2, h3, ?_, fun k hk => ?_⟩
  · rw [hv.2]
    unfold toR
    by_cases hq : bTp b = -1
    · rw [if_pos hq]; exact h6
    · rw [if_neg hq]
      rcases h7 with q | q
      · exact absurd q hq
      · exact q
  · rw [(hv.1 k hk).2.2]
    unfold toR
    by_cases hq : bTh b k = -1
    · rw [if_pos hq]; exact h4 k hk
    · rw [if_neg hq]
      rcases h5 k hk with q | q
      · exact absurd q hq
      · exact q
section ONP
variable {cday urg waits bfrom bto byd szs lim lan han : XF} {n nc : Nat} {nob pac : Int32}
theorem ON_rs (hP : PV cday waits bfrom bto byd n nc) (D : DS) : ON cday urg szs waits bfrom bto lim lan han n nc nob pac (rs1 D) := fun _ _ _ _ => OT_rs hP true D
theorem ON_sd (hP : PV cday waits bfrom bto byd n nc) (hH : HV szs han n nc pac) {a : Nat} (ha : a ≤ 3000) {D : DS} (h : ON cday urg szs waits bfrom bto lim lan han n nc nob pac D) :
    ON cday urg szs waits bfrom bto lim lan han n nc nob pac (sdF cday urg waits bfrom bto byd szs lim lan han n nc nob pac a D) ∧ dsJ (sdF cday urg waits bfrom bto byd szs lim lan han n nc nob pac a D) ≤ a + 1 ∧ (dsR (sdF cday urg waits bfrom bto byd szs lim lan han n nc nob pac a D) = 0 → dsJ (sdF cday urg waits bfrom bto byd szs lim lan han n nc nob pac a D) = a + 1) := by
  refine ⟨fun rl rn rh hl => (OT_sdF hP hH hl ha (h rl rn rh hl)).1, ?_⟩
  exact (OT_sdF hP hH (fun k _ => ⟨rfl, rfl, rfl⟩) ha (h lim lan han (fun k _ => ⟨rfl, rfl, rfl⟩))).2
/-- the class asked for day a, the reference run to day a -/
theorem ON_at (hP : PV cday waits bfrom bto byd n nc) (hH : HV szs han n nc pac) {rl rn rh : XF} (hl : ∀ k, k < nc → lim k = rl k ∧ lan k = rn k ∧ han k = rh k) {a : Nat} (ha : a ≤ 3000) {D : DS} (h : ON cday urg szs waits bfrom bto lim lan han n nc nob pac D) (z0 : RS) :
    RDb cday waits n nc (dsJ (sdF cday urg waits bfrom bto byd szs lim lan han n nc nob pac a D)) (sdF cday urg waits bfrom bto byd szs lim lan han n nc nob pac a D) (rnF cday urg szs waits bfrom bto rl rn rh n nc nob pac a z0) ∧ RDf n (sdF cday urg waits bfrom bto byd szs lim lan han n nc nob pac a D) (rnF cday urg szs waits bfrom bto rl rn rh n nc nob pac a z0) := by
  obtain ⟨g1, g2, g3⟩ := ON_sd (a := a) hP hH ha h
  have := OT_rn (a := a) (by omega) (g1 rl rn rh hl) g2 g3 z0
  exact ⟨this.1, this.2 rfl⟩
/-- to the end -/
theorem ON_end (hP : PV cday waits bfrom bto byd n nc) (hH : HV szs han n nc pac) {rl rn rh : XF} (hl : ∀ k, k < nc → lim k = rl k ∧ lan k = rn k ∧ han k = rh k) {WH : Nat} (hWH : WH = 100000) {D : DS} (h : ON cday urg szs waits bfrom bto lim lan han n nc nob pac D) (z0 : RS) :
    RDb cday waits n nc (dsJ (sdF cday urg waits bfrom bto byd szs lim lan han n nc nob pac 3000 D)) (sdF cday urg waits bfrom bto byd szs lim lan han n nc nob pac 3000 D) (rnF cday urg szs waits bfrom bto rl rn rh n nc nob pac WH z0) ∧ RDf n (sdF cday urg waits bfrom bto byd szs lim lan han n nc nob pac 3000 D) (rnF cday urg szs waits bfrom bto rl rn rh n nc nob pac WH z0) ∧ ¬ dsR (sdF cday urg waits bfrom bto byd szs lim lan han n nc nob pac 3000 D) = 0 := by
  obtain ⟨g1, g2, g3⟩ := ON_sd (a := 3000) hP hH (Nat.le_refl _) h
  have hr := OT_rest (g1 rl rn rh hl) g3
  have := OT_rn (a := WH) (Nat.le_of_eq hWH) (g1 rl rn rh hl) (by omega) (fun q => absurd q hr) z0
  exact ⟨this.1, this.2 rfl, hr⟩
end ONP
/-! the answers out of a day that stands in both -/
section ANS
variable {cday waits : XF} {n nc j : Nat} {D : DS} {z : RS}
theorem an_P (h : RDb cday waits n nc j D z) {c : Nat} (hc : c < n) : csP (dsC D) c = mP z c := (h.1.1 c hc).1
theorem an_L (h : RDb cday waits n nc j D z) {c : Nat} (hc : c < n) : csL (dsC D) c = mL z c := (h.1.1 c hc).2.1
theorem an_D (h : RDb cday waits n nc j D z) {c : Nat} (hc : c < n) : csD (dsC D) c = mD z c := (h.1.1 c hc).2.2.1
/-- the day on which a card was DONE -/
theorem an_dv (h : RDb cday waits n nc j D z) {c : Nat} (hc : c < n) : (mP z c = 10 ∧ ∃ d, d < j ∧ mD z c = nI d ∧ cday c ≤ nI d) ∨ (¬ mP z c = 10 ∧ mD z c = -1) := (h.1.2.1 c hc).2.2.1
theorem an_ag (h : RDb cday waits n nc j D z) (hj : j < 2 ^ 30) {c : Nat} (hc : c < n) : agF (csD (dsC D)) cday c = agM (mD z) cday c := by
  unfold agF agM
  rw [an_D h hc]
  rcases an_dv h hc with ⟨_, d, q1, q2, _⟩ | ⟨_, q⟩
  · rw [q2, if_neg (nI_nm1 (by omega)), if_pos (nI_pos' (by omega))]
  · rw [q, if_pos rfl, if_neg (by decide)]
theorem an_c10 (h : RDb cday waits n nc j D z) : cnt (fun b => csP (dsC D) b = 10) n = cnt (fun b => mP z b = 10) n := cnt_cg fun b hb => by rw [an_P h hb]
theorem sumI_cg {f g : XF} : ∀ {n : Nat}, (∀ i, i < n → f i = g i) → sumI f n = sumI g n
  | 0, _ => rfl
  | n + 1, h => by
    unfold sumI
    rw [sumI_cg (n := n) (fun i hi => h i (by omega)), h n (by omega)]
theorem cnt_not {P : Nat → Prop} [DecidablePred P] : ∀ n, cnt P n + cnt (fun b => ¬ P b) n = n
  | 0 => rfl
  | n + 1 => by
    have := cnt_not (P := P) n
    unfold cnt
    by_cases h : P n
    · rw [if_pos h, if_neg (fun q => q h)]; omega
    · rw [if_neg h, if_pos h]; omega
theorem an_told (h : RDb cday waits n nc j D z) (hf : RDf n D z) (hj : j < 2 ^ 30) {c : Nat} (hc : c < n) {what : Int32} (hw : wiP what 0 5) : tdA D cday c what = mtdA z cday c what := by
  obtain ⟨e, _, e2⟩ := wi_in (a := 0) (N := 5) hw (by omega) (by omega)
  rcases (show what.toNatClampNeg = 0 ∨ what.toNatClampNeg = 1 ∨ what.toNatClampNeg = 2 ∨ what.toNatClampNeg = 3 ∨ what.toNatClampNeg = 4 ∨ what.toNatClampNeg = 5 by omega) with q | q | q | q | q | q <;> rw [q] at e <;> subst e
  · exact an_D h hc
  · exact an_ag h hj hc
  · exact hf c hc 0 (by omega)
  · exact hf c hc 1 (by omega)
  · exact hf c hc 2 (by omega)
  · exact hf c hc 3 (by omega)
theorem tdA_no {c : Nat} {what : Int32} (hw : ¬ wiP what 0 5) : tdA D cday c what = -1 := by
  have : ∀ v : Int32, wiP v 0 5 → ¬ what = v := fun v hv q => hw (q ▸ hv)
  unfold tdA
  rw [if_neg (this 0 (by decide)), if_neg (this 1 (by decide)), if_neg (this 2 (by decide)), if_neg (this 3 (by decide)), if_neg (this 4 (by decide)), if_neg (this 5 (by decide))]
theorem cu_iff {what : Int32} (h4 : nc ≤ 4) : inC (what - 10) (nI nc) ↔ wiP what 10 (9 + nI nc) := by
  have e9 : (9 : Int32) + nI nc = nI (9 + nc) := by rw [show (9 : Int32) = nI 9 from rfl, nI_add]
  rw [e9]
  constructor
  · rintro ⟨h1, h2⟩
    obtain ⟨x, hx, hx2⟩ := nI_of h1
    have hxn : x < nc := Nat.lt_of_not_le fun y => h2 (by rw [hx2]; exact nI_le y hx)
    have hw : what = nI (x + 10) := by
      have : what = (what - 10) + 10 := (Int32.sub_add_cancel what 10).symm
      rw [this, hx2, show (10 : Int32) = nI 10 from rfl, nI_add]
    rw [hw]
    exact ⟨nI_nlt (b := 10) (by omega) (by omega), nI_nlt (by omega) (by omega)⟩
  · intro h
    obtain ⟨e, e1, e2⟩ := wi_in (a := 10) (N := 9 + nc) h (by omega) (by omega)
    rw [e, show (10 : Int32) = nI 10 from rfl, pk_sub e1]
    exact ⟨nI_pos (by omega), nI_ge (by omega) (by omega)⟩
theorem an_counts (h : RDb cday waits n nc j D z) (hj : 1 ≤ j) (h4 : nc ≤ 4) (hn : n ≤ 16) (what : Int32) : ctA D n nc what = if wiP what 0 3 ∨ wiP what 10 (9 + nI nc) then mctA z n what else -1 := by
  have e1 : nI n - nI (cnt (fun b => csP (dsC D) b = -1) n) = nI (cnt (fun b => ¬ mP z b = -1) n) := by
    have a1 : cnt (fun b => csP (dsC D) b = -1) n = cnt (fun b => mP z b = -1) n := cnt_cg fun b hb => by rw [an_P h hb]
    have a2 := cnt_not (P := fun b => mP z b = -1) n
    rw [a1, pk_sub (by omega)]
    congr 1
    omega
  have e2 := an_c10 h
  have e3 := (h.2.2.2.2.2 hj).2.1
  unfold ctA mctA
  by_cases q0 : what = 0
  · rw [if_pos q0, if_pos (Or.inl (by rw [q0]; decide)), if_pos q0, e1]
  · rw [if_neg q0, if_neg q0]
    by_cases q1 : what = 1
    · rw [if_pos q1, if_pos (Or.inl (by rw [q1]; decide)), if_pos q1, e2]
    · rw [if_neg q1, if_neg q1]
      by_cases q2 : what = 2
      · rw [if_pos q2, if_pos (Or.inl (by rw [q2]; decide)), if_pos q2, e1, e2]
      · rw [if_neg q2, if_neg q2]
        by_cases q3 : what = 3
        · rw [if_pos q3, if_pos (Or.inl (by rw [q3]; decide)), if_pos q3, e3]
        · rw [if_neg q3, if_neg q3]
          have hno : ¬ wiP what 0 3 := fun y => by
            rcases ot_c what with r | r | r | r | r
            · exact q0 r
            · exact q1 r
            · exact q2 r
            · exact q3 r
            · exact r y
          by_cases hc : inC (what - 10) (nI nc)
          · rw [if_pos hc, if_pos (Or.inr ((cu_iff h4).mp hc))]
            congr 1
            exact cnt_cg fun b hb => by rw [an_P h hb]
          · rw [if_neg hc, if_neg (fun y => y.elim hno (fun y => hc ((cu_iff h4).mpr y)))]
theorem an_length (h : RDb cday waits n nc j D z) (hj : j < 2 ^ 30) (hr : ¬ dsR D = 0) (what : Int32) : leA D cday n what = mleA z cday n what := by
  have e0 : dn (dsJ D) = mE z := by
    rcases h.2.2.2.2.1 with q | q
    · exact absurd q.1 hr
    · rw [h.2.1]; exact q.2.1.symm
  have e1 : dsM D = mM z := h.2.2.2.1
  have e2 : sumI (agF (csD (dsC D)) cday) n = sumI (agM (mD z) cday) n := sumI_cg fun i hi => an_ag h hj hi
  unfold leA mleA
  rw [e0, e1, e2, an_c10 h]
/-! PROMISE -/
/-- a card is DONE, and no older -/
abbrev poP (cday : XF) (z : RS) (y : Nat) (b : Nat) : Prop := ¬ mD z b < 0 ∧ agM (mD z) cday b ≤ nI y
theorem an_age (hcd : ∀ c, c < n → ∃ e, e ≤ 99 ∧ cday c = nI e) (h : RDb cday waits n nc j D z) (hj : j < 2 ^ 20) {c : Nat} (hc : c < n) : (mD z c = -1 ∧ agM (mD z) cday c = -1) ∨ (¬ mD z c < 0 ∧ ∃ y, 1 ≤ y ∧ y ≤ j ∧ agM (mD z) cday c = nI y) := by
  unfold agM
  rcases an_dv h hc with ⟨_, d, q1, q2, q3⟩ | ⟨_, q⟩
  · refine Or.inr ⟨by rw [q2]; exact nI_pos (by omega), ?_⟩
    obtain ⟨e, he, hce⟩ := hcd c hc
    rw [q2, if_pos (nI_pos' (by omega)), hce]
    rw [hce] at q3
    have hed := (nI_leI (by omega) (by omega)).mp q3
    exact ⟨d - e + 1, by omega, by omega, by rw [pk_sub hed, nI_1]⟩
  · rw [q, if_neg (by decide)]
    exact Or.inl ⟨rfl, rfl⟩
/-- the reference looks upwards for the least age -/
theorem mp_up {share : Int32} {Y : Nat} (hY : share * nI (mpN z n) ≤ nI (100 * mpC z cday n Y)) : ∀ (k y x : Nat), y ≤ Y → Y ≤ y + k → (1 ≤ y → x = mpC z cday n y) → (y = 0 → ¬ share * nI (mpN z n) ≤ nI (100 * x)) → 1 ≤ Y →
    ∃ y', mpG z cday n share k y x = nI y' ∧ y ≤ y' ∧ 1 ≤ y' ∧ y' ≤ Y ∧ share * nI (mpN z n) ≤ nI (100 * mpC z cday n y') ∧ ∀ t, y ≤ t → t < y' → 1 ≤ t → ¬ share * nI (mpN z n) ≤ nI (100 * mpC z cday n t)
  | 0, y, x, h1, h2, hx, h0, hY1 => by
    have : y = Y := by omega
    subst this
    exact ⟨y, rfl, Nat.le_refl _, hY1, Nat.le_refl _, hY, fun t a b => absurd a (by omega)⟩
  | k + 1, y, x, h1, h2, hx, h0, hY1 => by
    by_cases hq : share * nI (mpN z n) ≤ nI (100 * x)
    · have hy : 1 ≤ y := by
        rcases Nat.eq_zero_or_pos y with q | q
        · exact absurd hq (h0 q)
        · exact q
      rw [mpG_t _ _ _ hq]
      exact ⟨y, rfl, Nat.le_refl _, hy, h1, by rw [← hx hy]; exact hq, fun t a b => absurd a (by omega)⟩
    · have hyY : y ≠ Y := fun q => by
        subst q
        rw [hx hY1] at hq
        exact hq hY
      rw [mpG_s _ _ _ hq]
      obtain ⟨y', a1, a2, a3, a4, a5, a6⟩ := mp_up hY k (y + 1) (mpC z cday n (y + 1)) (by omega) (by omega) (fun _ => rfl) (fun q => absurd q (by omega)) hY1
      refine ⟨y', a1, by omega, a3, a4, a5, fun t b1 b2 b3 => ?_⟩
      by_cases ht : t = y
      · subst ht
        rw [← hx b3]
        exact hq
      · exact a6 t (by omega) b2 b3
theorem cnt_le2 {P P' : Nat → Prop} [DecidablePred P] [DecidablePred P'] : ∀ {n : Nat}, (∀ b, b < n → P' b → P b) → cnt P' n ≤ cnt P n
  | 0, _ => Nat.le_refl 0
  | n + 1, h => by
    have ih := cnt_le2 (n := n) (fun b hb => h b (by omega))
    unfold cnt
    by_cases hp : P' n
    · rw [if_pos hp, if_pos (h n (by omega) hp)]; omega
    · rw [if_neg hp]; split <;> omega
/-- the class looks for the least age among the cards -/
theorem sh_le {don : XF} {share dn' : Int32} {y : Nat} (hy : y < 2 ^ 30) (hg : ∀ i, i < n → (¬ agF don cday i = -1 ∧ ¬ nI (cnt (fun b => noP don cday (agF don cday i) b) n * 100) < share * dn') → ∃ t, y ≤ t ∧ t < 2 ^ 30 ∧ agF don cday i = nI t) :
    ∀ i, i ≤ n → (shF don cday n share dn' i = -1 ∨ ∃ t, y ≤ t ∧ t < 2 ^ 30 ∧ shF don cday n share dn' i = nI t) ∧ ((∃ c, c < i ∧ agF don cday c = nI y ∧ ¬ nI (cnt (fun b => noP don cday (agF don cday c) b) n * 100) < share * dn') → shF don cday n share dn' i = nI y)
  | 0, _ => ⟨Or.inl rfl, fun ⟨c, hc, _⟩ => absurd hc (Nat.not_lt_zero c)⟩
  | i + 1, hi => by
    obtain ⟨h1, h2⟩ := sh_le hy hg i (by omega)
    unfold shF
    by_cases hq : (¬ agF don cday i = -1 ∧ ¬ nI (cnt (fun b => noP don cday (agF don cday i) b) n * 100) < share * dn') ∧ (shF don cday n share dn' i = -1 ∨ ¬ shF don cday n share dn' i ≤ agF don cday i)
    · rw [if_pos hq]
      obtain ⟨t, t1, t2, t3⟩ := hg i (by omega) hq.1
      refine ⟨Or.inr ⟨t, t1, t2, t3⟩, fun ⟨c, c1, c2, c3⟩ => ?_⟩
      by_cases hc : c = i
      · subst hc; exact c2
      · have h3 := h2 ⟨c, by omega, c2, c3⟩
        rw [h3, t3] at hq
        rcases hq.2 with q | q
        · exact absurd q (nI_nm1 (by omega))
        · exact absurd (nI_le t1 (by omega)) q
    · rw [if_neg hq]
      refine ⟨h1, fun ⟨c, c1, c2, c3⟩ => ?_⟩
      by_cases hc : c = i
      · subst hc
        have h4 : ¬ (shF don cday n share dn' c = -1 ∨ ¬ shF don cday n share dn' c ≤ agF don cday c) := fun q => hq ⟨⟨by rw [c2]; exact nI_nm1 (by omega), c3⟩, q⟩
        rcases h1 with q | ⟨t, t1, t2, t3⟩
        · exact absurd (Or.inl q) h4
        · have h5 : nI t ≤ nI y := by
            rw [← t3, ← c2]
            exact Classical.byContradiction fun q => h4 (Or.inr q)
          have := (nI_leI (by omega) (by omega)).mp h5
          rw [t3, show t = y by omega]
      · exact h2 ⟨c, by omega, c2, c3⟩
theorem sh_no {don : XF} {share dn' : Int32} (hg : ∀ i, i < n → agF don cday i = -1) : ∀ i, i ≤ n → shF don cday n share dn' i = -1
  | 0, _ => rfl
  | i + 1, hi => by
    unfold shF
    rw [if_neg (fun q => q.1.1 (hg i (by omega)))]
    exact sh_no hg i (by omega)
theorem an_prom (hcd : ∀ c, c < n → ∃ e, e ≤ 99 ∧ cday c = nI e) (hn : n ≤ 16) (h : RDb cday waits n nc j D z) (hj : j < 2 ^ 20) {share : Int32} (hs : wiP share 1 100) {WH : Nat} (hWH : WH = 100000) (hdv : dvI 100000 (mD z)) : shF (csD (dsC D)) cday n share (nI (cnt (fun b0 => csP (dsC D) b0 = 10) n)) n = if mpN z n = 0 then -1 else mpG z cday n share (2 * WH) 0 0 := by
  have e1 : cnt (fun b0 => csP (dsC D) b0 = 10) n = mpN z n := cnt_cg fun b hb => by
    rw [an_P h hb]
    rcases an_dv h hb with ⟨q, d, q1, q2, _⟩ | ⟨q, q2⟩
    · rw [q2]; exact ⟨fun _ => nI_pos (by omega), fun _ => q⟩
    · rw [q2]; exact ⟨fun y => absurd y q, fun y => absurd (by decide) y⟩
  have e2 : ∀ (y : Nat), y < 2 ^ 30 → cnt (fun b => noP (csD (dsC D)) cday (nI y) b) n = mpC z cday n y := fun y _ => cnt_cg fun b hb => by
    show (¬ csD (dsC D) b = -1 ∧ agF (csD (dsC D)) cday b ≤ nI y) ↔ (¬ mD z b < 0 ∧ agM (mD z) cday b ≤ nI y)
    rw [an_ag h (by omega) hb, an_D h hb]
    rcases an_dv h hb with ⟨q, d, q1, q2, _⟩ | ⟨q, q2⟩
    · rw [q2]; exact ⟨fun y => ⟨nI_pos (by omega), y.2⟩, fun y => ⟨nI_nm1 (by omega), y.2⟩⟩
    · rw [q2]; exact ⟨fun y => absurd rfl y.1, fun y => absurd (by decide) y.1⟩
  rw [e1]
  obtain ⟨hs1, hs2, hs3⟩ := wi_in (a := 1) (N := 100) hs (by omega) (by omega)
  have hm : mpN z n ≤ 16 := Nat.le_trans (cnt_le _ n) hn
  by_cases h0 : mpN z n = 0
  · rw [if_pos h0]
    refine sh_no (fun i hi => ?_) n (Nat.le_refl n)
    rw [an_ag h (by omega) hi]
    rcases an_age hcd h hj hi with q | ⟨q, _⟩
    · exact q.2
    · exfalso
      have := cnt_lt (P := fun b => ¬ mD z b < 0) (P' := fun _ => False) (fun _ y => y.elim) q (fun y => y) n hi
      unfold mpN at h0
      omega
  · rw [if_neg h0]
    have hsd : share * nI (mpN z n) = nI (share.toNatClampNeg * mpN z n) := by
      rw [show share * nI (mpN z n) = nI share.toNatClampNeg * nI (mpN z n) by rw [← hs1], pk_mul]
    have hpos : 1 ≤ share.toNatClampNeg * mpN z n := Nat.mul_pos hs2 (by omega)
    have hle : share.toNatClampNeg * mpN z n ≤ 100 * 16 := Nat.mul_le_mul hs3 hm
    obtain ⟨y', a1, a2, a3, a4, a5, a6⟩ := mp_up (k := 2 * WH) (y := 0) (x := 0) (mp_big (Y := 100002) (by omega) (by omega) hn hs hdv hcd) (by omega) (by omega) (fun q => absurd q (by omega)) (fun _ => by
      rw [hsd]
      exact nI_ge (a := 0) (by omega) (by omega)) (by omega)
    rw [a1]
    have hcn : ∀ y, mpC z cday n y ≤ 16 := fun y => Nat.le_trans (cnt_le _ n) hn
    have cond : ∀ y, y < 2 ^ 30 → (¬ nI (cnt (fun b => noP (csD (dsC D)) cday (nI y) b) n * 100) < share * nI (mpN z n) ↔ share * nI (mpN z n) ≤ nI (100 * mpC z cday n y)) := fun y hy => by
      rw [e2 y hy, Nat.mul_comm]
      exact i_nlt
    -- some card has just that age
    have hc : ∃ c, c < n ∧ agM (mD z) cday c = nI y' := by
      refine Classical.byContradiction fun hno => ?_
      have hsame : mpC z cday n y' = mpC z cday n (y' - 1) := cnt_cg fun b hb => by
        rcases an_age hcd h hj hb with q | ⟨q, t, t1, t2, t3⟩
        · rw [q.1]; exact ⟨fun y => absurd (by decide) y.1, fun y => absurd (by decide) y.1⟩
        · rw [t3]
          have hne : t ≠ y' := fun e => hno ⟨b, hb, by rw [t3, e]⟩
          rw [nI_leI (by omega) (by omega), nI_leI (by omega) (by omega)]
          exact ⟨fun y => ⟨y.1, by omega⟩, fun y => ⟨y.1, by omega⟩⟩
      by_cases hy1 : y' = 1
      · subst hy1
        have hz : mpC z cday n 0 = 0 := by
          have : cnt (fun b => ¬ mD z b < 0 ∧ agM (mD z) cday b ≤ nI 0) n = cnt (fun _ => False) n := cnt_cg fun b hb => by
            rcases an_age hcd h hj hb with q | ⟨q, t, t1, t2, t3⟩
            · rw [q.1]; exact ⟨fun y => absurd (by decide) y.1, fun y => y.elim⟩
            · rw [t3]; exact ⟨fun y => absurd y.2 (nI_ge (by omega) (by omega)), fun y => y.elim⟩
          have h2 : ∀ m, cnt (fun _ => False) m = 0 := by
            intro m
            induction m with
            | zero => rfl
            | succ m ih => unfold cnt; rw [ih]; rfl
          show cnt _ n = 0
          rw [this]; exact h2 n
        rw [hsame, show 1 - 1 = 0 from rfl, hz, hsd] at a5
        exact nI_ge (a := 0) (by omega) (by omega) a5
      · rw [hsame] at a5
        exact a6 (y' - 1) (by omega) (by omega) (by omega) a5
    obtain ⟨c, hc, hca⟩ := hc
    refine (sh_le (y := y') (by omega) (fun i hi hq => ?_) n (Nat.le_refl n)).2 ⟨c, hc, ?_, ?_⟩
    · rw [an_ag h (by omega) hi] at hq ⊢
      rcases an_age hcd h hj hi with q | ⟨q, t, t1, t2, t3⟩
      · exact absurd q.2 hq.1
      · refine ⟨t, ?_, by omega, t3⟩
        rw [t3] at hq
        have hq2 := (cond t (by omega)).mp hq.2
        refine Classical.byContradiction fun hlt => a6 t (by omega) (by omega) t1 hq2
    · rw [an_ag h (by omega) hc]; exact hca
    · rw [an_ag h (by omega) hc, hca]
      exact (cond y' (by omega)).mpr a5
end ANS
