/-! the pure part: what stands between class and reference, and what is told -/
def SJ (b : BS) : Prop := dsJ (bDP b) ≤ 3001 ∧ dsJ (bDQ b) ≤ 3001 ∧ dsJ (bDC b) ≤ 3001
def IV (WH : Nat) (b : BS) (g : MM) : Prop := SE b g ∧ SV b ∧ SR b ∧ SN b ∧ SJ b ∧ SB b WH ∧ SBm b g WH
theorem OcW_cg {b b' : BS} (h1 : b'.1 = b.1) (h2 : b'.2.1 = b.2.1) (WH m way : Nat) : OcW b' WH m way = OcW b WH m way := by
  unfold OcW bDay bN bUrg bSzs bWai bFro bBto bK bRn bRh bRp
  rw [h1, h2]
theorem BQ_cg {b b' : BS} (h1 : b'.1 = b.1) (h2 : b'.2.1 = b.2.1) (WH m : Nat) : ∀ i, BQ b' WH m i = BQ b WH m i
  | 0 => rfl
  | i + 1 => by
    unfold BQ
    rw [BQ_cg h1 h2 WH m i, OcW_cg h1 h2]
theorem BOK_cg {b b' : BS} (h1 : b'.1 = b.1) (h2 : b'.2.1 = b.2.1) {WH m i : Nat} {v : Int32} {L : XF} (h : BOK b WH m i v L) : BOK b' WH m i v L := by
  have hk : bK b' = bK b := by unfold bK; rw [h1]
  unfold BOK at h ⊢
  rw [BQ_cg h1 h2, hk]
  exact h
theorem SBm_cg {b b' : BS} {g g' : MM} {WH : Nat} (h1 : b'.1 = b.1) (h2 : b'.2.1 = b.2.1) (q1 : gFr g' = gFr g) (q2 : gBu g' = gBu g) (q3 : gBs g' = gBs g) (q4 : gBo g' = gBo g) (h : SBm b g WH) : SBm b' g' WH := by
  have hk : bK b' = bK b := by unfold bK; rw [h1]
  unfold SBm at h ⊢
  rw [q1, q2, q3, q4, hk]
  exact h.elim Or.inl (fun ⟨m, a1, a2, a3, a4⟩ => Or.inr ⟨m, a1, a2, a3, BOK_cg h1 h2 a4⟩)
theorem SB_cg {b b' : BS} {WH : Nat} (h1 : b'.1 = b.1) (h2 : b'.2.1 = b.2.1) (q1 : bFu b' = bFu b) (q2 : bLs b' = bLs b) (q3 : bLL b' = bLL b) (h : SB b WH) : SB b' WH := by
  have hk : bK b' = bK b := by unfold bK; rw [h1]
  unfold SB at h ⊢
  rw [q1, q2, q3, hk]
  exact h.elim Or.inl (fun ⟨m, a1, a2, a3, a4⟩ => Or.inr ⟨m, a1, a2, a3, BOK_cg h1 h2 a4⟩)
theorem IV_BI {WH : Nat} {b : BS} {g : MM} (h : IV WH b g) : BI b := by
  obtain ⟨-, -, h3, h4, h5, -, -⟩ := h
  obtain ⟨hn, hk, hcd, hw, hbk, hby⟩ := h3.1
  have key : ∀ {lim lan han : XF} {nob pac : Int32} {D : DS}, ON (bDay b) (bUrg b) (bSzs b) (bWai b) (bFro b) (bBto b) lim lan han (bN b) (bK b) nob pac D → UV (bN b) (dsC D) := fun {lim lan han _ _ _} q => UV_rw hn ((q lim lan han (fun _ _ => ⟨rfl, rfl, rfl⟩)).2 rz).1.1.2.2
  exact ⟨hn, hk, hby.1, key h4.1, key h4.2.1, key h4.2.2, h5⟩
theorem IV_GI {WH : Nat} {b : BS} {g : MM} (h : IV WH b g) : GI g := by
  obtain ⟨⟨e1, e2, e3, e4, e5, e6, e7, e8, e9, e10, e11, e12, e13, e14, e15, e16⟩, -, h3, -⟩ := h
  obtain ⟨hn, hk, hcd, hw, hbk, hby⟩ := h3.1
  unfold GI
  rw [← e1, ← e2, ← e3, ← e5]
  refine ⟨hn, hk, fun t ht q => ?_, hcd⟩
  rcases hw t ht with y | ⟨w, hw1, hw2⟩
  · rw [y] at q; exact absurd (by decide) q
  · rw [hw2]; exact vp_in_nI (by omega) (by omega)
/-- something was told: the class forgets its runs -/
theorem IV_fg {WH : Nat} {b : BS} {g : MM} (he : SE b g) (hr : SR b) (hm : SBm b g WH) : IV WH (fgF b) g := by
  have hP := hr.1
  refine ⟨he, ⟨fun k hk => ⟨tf_t hk, tf_t hk, tf_t hk⟩, rfl⟩, hr, ⟨ON_rs hP _, ON_rs hP _, ON_rs hP _⟩, ⟨Nat.zero_le _, Nat.zero_le _, Nat.zero_le _⟩, Or.inl rfl, ?_⟩
  exact SBm_cg (b := b) (g := g) rfl rfl rfl rfl rfl rfl hm
theorem IV_g {WH : Nat} {b : BS} {g g' : MM} (h : IV WH b g) (h1 : g'.1 = g.1) (h2 : g'.2.1 = g.2.1) (h3 : g'.2.2.1 = g.2.2.1) (q1 : gFr g' = gFr g) (q2 : gBu g' = gBu g) (q3 : gBs g' = gBs g) (q4 : gBo g' = gBo g) : IV WH b g' := by
  obtain ⟨e, a2, a3, a4, a5, a6, a7⟩ := h
  refine ⟨?_, a2, a3, a4, a5, a6, SBm_cg rfl rfl q1 q2 q3 q4 a7⟩
  unfold SE gK gN gDay gUrg gWai gFro gBto gSzs gLl gLn gLh gLp gOl gOn gOh gOp at e ⊢
  rw [h1, h2, h3]
  exact e
theorem fl4 (v : Int32) : fl z0X v 4 = f4X v := by
  funext j
  unfold fl f4X z0X upd
  by_cases h : j < 4
  · rw [if_pos h]
    rcases (show j = 0 ∨ j = 1 ∨ j = 2 ∨ j = 3 by omega) with rfl | rfl | rfl | rfl <;> rfl
  · rw [if_neg h, if_neg (by omega), if_neg (by omega), if_neg (by omega), if_neg (by omega)]
theorem IV_0 {WH : Nat} : IV WH (saF 1 bz) mz := by
  refine IV_fg (b := saT 1 bz) (g := mz) ⟨rfl, rfl, rfl, rfl, rfl, rfl, rfl, rfl, ?_, ?_, ?_, rfl, ?_, ?_, ?_, rfl⟩ ⟨⟨by decide, by decide, ?_, ?_, ?_, ?_, ?_, ?_⟩, by decide, ?_, ?_, ?_, ?_, Or.inl rfl⟩ (Or.inl rfl)
  · exact fl4 3
  · exact fl4 1
  · exact fl4 2
  · exact fl4 (-1)
  · exact fl4 (-1)
  · exact fl4 (-1)
  · exact fun c hc => absurd hc (Nat.not_lt_zero c)
  · exact fun c hc => absurd hc (Nat.not_lt_zero c)
  · exact fun c hc => absurd hc (Nat.not_lt_zero c)
  · exact fun c hc => absurd hc (Nat.not_lt_zero c)
  · exact fun c hc => absurd hc (Nat.not_lt_zero c)
  · exact fun c c' _ hc => absurd hc (Nat.not_lt_zero c')
  · exact fun c hc => absurd hc (Nat.not_lt_zero c)
  · exact fun k hk => ⟨2, by decide, fl_t hk⟩
  · exact fun k hk => Or.inl (fl_t hk)
  · exact ⟨1, by decide, rfl⟩
/-! what is told -/
theorem st_columns {WH : Nat} {b : BS} {g : MM} (h : IV WH b g) (v : Int32) : IV WH (csF v b) (mcsF v g) := by
  unfold csF mcsF
  by_cases hq : wiP v 1 4
  · rw [if_pos hq, if_pos hq]
    obtain ⟨h1, h2, h3⟩ := wi_in (a := 1) (N := 4) hq (by omega) (by omega)
    obtain ⟨⟨e1, e2, e3, e4, e5, e6, e7, e8, e9, e10, e11, e12, e13, e14, e15, e16⟩, -⟩ := h
    refine IV_fg (b := saT v.toNatClampNeg b) (g := msaF v.toNatClampNeg g) ⟨rfl, rfl, e3, e4, e5, e6, e7, e8, ?_, ?_, ?_, rfl, ?_, ?_, ?_, rfl⟩ ⟨⟨by show 0 ≤ 16; omega, h3, ?_, ?_, ?_, ?_, ?_, ?_⟩, h2, ?_, ?_, ?_, ?_, Or.inl rfl⟩ (Or.inl rfl)
    · show fl (bRl b) 3 4 = fl (gLl g) 3 4
      rw [e9]
    · show fl (bRn b) 1 4 = fl (gLn g) 1 4
      rw [e10]
    · show fl (bRh b) 2 4 = fl (gLh g) 2 4
      rw [e11]
    · show fl (bTl b) (-1) 4 = fl (gOl g) (-1) 4
      rw [e13]
    · show fl (bTn b) (-1) 4 = fl (gOn g) (-1) 4
      rw [e14]
    · show fl (bTh b) (-1) 4 = fl (gOh g) (-1) 4
      rw [e15]
    · exact fun c hc => absurd hc (Nat.not_lt_zero c)
    · exact fun c hc => absurd hc (Nat.not_lt_zero c)
    · exact fun c hc => absurd hc (Nat.not_lt_zero c)
    · exact fun c hc => absurd hc (Nat.not_lt_zero c)
    · exact fun c hc => absurd hc (Nat.not_lt_zero c)
    · exact fun c c' _ hc => absurd hc (Nat.not_lt_zero c')
    · exact fun c hc => absurd hc (Nat.not_lt_zero c)
    · exact fun k hk => ⟨2, by decide, fl_t hk⟩
    · exact fun k hk => Or.inl (fl_t hk)
    · exact ⟨1, by decide, rfl⟩
  · rw [if_neg hq, if_neg hq]; exact h
theorem st_column {WH : Nat} {b : BS} {g : MM} (h : IV WH b g) (k x y z : Int32) : (coP k x y z b ↔ coQ k x y z (gK g)) ∧ IV WH (coF k x y z b) (mcoF k x y z g) := by
  have hk : bK b = gK g := h.1.1
  have hc : coP k x y z b ↔ coQ k x y z (gK g) := by
    show (inC k (nI (bK b)) ∧ _) ↔ (inC k (nI (gK g)) ∧ _)
    rw [hk]
  refine ⟨hc, ?_⟩
  unfold coF mcoF
  by_cases hq : coP k x y z b
  · rw [if_pos hq, if_pos (hc.mp hq)]
    obtain ⟨⟨e1, e2, e3, e4, e5, e6, e7, e8, e9, e10, e11, e12, e13, e14, e15, e16⟩, -, hr, -⟩ := h
    obtain ⟨r1, r2, r3, r4, r5, r6, r7⟩ := hr
    obtain ⟨z1, -, -⟩ := wi_in (a := 0) (N := 20) hq.2.2.2 (by omega) (by omega)
    obtain ⟨z2, -, z3⟩ := wi_in (a := 0) (N := 20) hq.2.2.2 (by omega) (by omega)
    refine IV_fg (b := coT k.toNatClampNeg x y z b) (g := mcoT k.toNatClampNeg x y z g) ⟨e1, e2, e3, e4, e5, e6, e7, e8, ?_, ?_, ?_, e12, ?_, ?_, ?_, e16⟩ ⟨r1, r2, r3, ?_, ?_, r6, r7⟩ (Or.inl rfl)
    · show upd (bRl b) _ x = upd (gLl g) _ x
      rw [e9]
    · show upd (bRn b) _ y = upd (gLn g) _ y
      rw [e10]
    · show upd (bRh b) _ z = upd (gLh g) _ z
      rw [e11]
    · show upd (bTl b) _ (-1) = upd (gOl g) _ (-1)
      rw [e13]
    · show upd (bTn b) _ (-1) = upd (gOn g) _ (-1)
      rw [e14]
    · show upd (bTh b) _ (-1) = upd (gOh g) _ (-1)
      rw [e15]
    · intro j hj
      show ∃ h, h < 2 ^ 30 ∧ upd (bRh b) k.toNatClampNeg z j = nI h
      by_cases hjk : j = k.toNatClampNeg
      · rw [hjk, pk_us]; exact ⟨z.toNatClampNeg, by omega, z1⟩
      · rw [pk_un hjk]; exact r4 j hj
    · intro j hj
      show upd (bTh b) k.toNatClampNeg (-1) j = -1 ∨ ∃ h, h < 2 ^ 30 ∧ upd (bTh b) k.toNatClampNeg (-1) j = nI h
      by_cases hjk : j = k.toNatClampNeg
      · rw [hjk, pk_us]; exact Or.inl rfl
      · rw [pk_un hjk]; exact r5 j hj
  · rw [if_neg hq, if_neg (fun y => hq (hc.mpr y))]; exact h
theorem st_pace {WH : Nat} {b : BS} {g : MM} (h : IV WH b g) (v : Int32) : IV WH (paF v b) (mpaF v g) := by
  unfold paF mpaF
  by_cases hq : wiP v 1 9
  · rw [if_pos hq, if_pos hq]
    obtain ⟨h1, h2, h3⟩ := wi_in (a := 1) (N := 9) hq (by omega) (by omega)
    obtain ⟨⟨e1, e2, e3, e4, e5, e6, e7, e8, e9, e10, e11, e12, e13, e14, e15, e16⟩, -, hr, -⟩ := h
    obtain ⟨r1, r2, r3, r4, r5, r6, r7⟩ := hr
    exact IV_fg (b := paT v b) (g := mpaT v g) ⟨e1, e2, e3, e4, e5, e6, e7, e8, e9, e10, e11, rfl, e13, e14, e15, e16⟩ ⟨r1, r2, r3, r4, r5, ⟨v.toNatClampNeg, by omega, h1⟩, r7⟩ (Or.inl rfl)
  · rw [if_neg hq, if_neg hq]; exact h
theorem sz45 (f : XF) (c : Nat) : ∀ i, sz4 f c i = sz5 f c i
  | 0 => rfl
  | i + 1 => by
    unfold sz4 sz5
    rw [sz45 f c i, Nat.mul_comm]
theorem sz4_at (f : XF) (c : Nat) : ∀ i j, sz4 f c i j = if c * 4 ≤ j ∧ j < c * 4 + i then 1 else f j
  | 0, j => by
    rw [if_neg (by omega)]; rfl
  | i + 1, j => by
    unfold sz4
    by_cases h : j = c * 4 + i
    · rw [h, pk_us, if_pos (by omega)]
    · rw [pk_un h, sz4_at f c i j]
      by_cases h2 : c * 4 ≤ j ∧ j < c * 4 + i
      · rw [if_pos h2, if_pos (by omega)]
      · rw [if_neg h2, if_neg (by omega)]
theorem ins_spec {cday : XF} {c : Nat} : ∀ (i : Nat) (f : XF), ∃ p, p ≤ i ∧ (∀ t, t < p → insF cday c f i t = f t) ∧ insF cday c f i p = nI c ∧ (∀ t, p < t → t ≤ i → insF cday c f i t = f (t - 1)) ∧ (p = 0 ∨ cday (ix f (p - 1)) ≤ cday c) ∧ (∀ t, p ≤ t → t < i → ¬ cday (ix f t) ≤ cday c)
  | 0, f => ⟨0, Nat.le_refl 0, fun t h => absurd h (Nat.not_lt_zero t), pk_us, fun t h h2 => absurd h (by omega), Or.inl rfl, fun t _ h => absurd h (Nat.not_lt_zero t)⟩
  | i + 1, f => by
    by_cases hq : cday (ix f i) ≤ cday c
    · have e : insF cday c f (i + 1) = upd f (i + 1) (nI c) := if_pos hq
      rw [e]
      exact ⟨i + 1, Nat.le_refl _, fun t h => pk_un (by omega), pk_us, fun t h h2 => absurd h (by omega), Or.inr hq, fun t h h2 => absurd h (by omega)⟩
    · have e : insF cday c f (i + 1) = insF cday c (upd f (i + 1) (f i)) i := if_neg hq
      rw [e]
      obtain ⟨p, a1, a2, a3, a4, a5, a6⟩ := ins_spec (cday := cday) (c := c) i (upd f (i + 1) (f i))
      have hu : ∀ t, t ≤ i → upd f (i + 1) (f i) t = f t := fun t ht => pk_un (by omega)
      -- behind the i-th place nothing is touched
      have hb : ∀ (i : Nat) (f : XF) (t : Nat), i < t → insF cday c f i t = f t := by
        intro i
        induction i with
        | zero => intro f t ht; exact pk_un (by omega)
        | succ i ih =>
          intro f t ht
          unfold insF
          split
          · exact pk_un (by omega)
          · rw [ih _ t (by omega)]; exact pk_un (by omega)
      refine ⟨p, by omega, fun t ht => (a2 t ht).trans (hu t (by omega)), a3, fun t h h2 => ?_, ?_, fun t h h2 => ?_⟩
      · by_cases ht : t = i + 1
        · subst ht
          rw [hb i _ (i + 1) (by omega), pk_us]; rfl
        · rw [a4 t h (by omega)]; exact hu (t - 1) (by omega)
      · rcases a5 with y | y
        · exact Or.inl y
        · right
          have : ix (upd f (i + 1) (f i)) (p - 1) = ix f (p - 1) := by
            show (upd f (i + 1) (f i) (p - 1)).toNatClampNeg = (f (p - 1)).toNatClampNeg
            rw [hu (p - 1) (by omega)]
          rw [this] at y
          exact y
      · by_cases ht : t = i
        · subst ht; exact hq
        · have := a6 t h (by omega)
          have e2 : ix (upd f (i + 1) (f i)) t = ix f t := by
            show (upd f (i + 1) (f i) t).toNatClampNeg = (f t).toNatClampNeg
            rw [hu t (by omega)]
          rw [e2] at this
          exact this
theorem BYD_ins {cday byd : XF} {n : Nat} {v : Int32} (hn : n < 16) (h : BYD cday byd n) : BYD (upd cday n v) (insF (upd cday n v) n byd n) (n + 1) := by
  obtain ⟨h1, h2, h3⟩ := h
  obtain ⟨p, a1, a2, a3, a4, a5, a6⟩ := ins_spec (cday := upd cday n v) (c := n) n byd
  generalize insF (upd cday n v) n byd n = f at *
  have l1 : ∀ t, t < n → ix byd t < n := fun t ht => vp_lt (h1 t ht)
  have ex1 : ∀ t, t < p → ix f t = ix byd t := fun t ht => by show (f t).toNatClampNeg = _; rw [a2 t ht]
  have ex2 : ix f p = n := by show (f p).toNatClampNeg = n; rw [a3, nI_clamp (by omega)]
  have ex3 : ∀ t, p < t → t < n + 1 → ix f t = ix byd (t - 1) := fun t ht h => by show (f t).toNatClampNeg = _; rw [a4 t ht (by omega)]
  have cd : ∀ t, t < n → upd cday n v (ix byd t) = cday (ix byd t) := fun t ht => pk_un (by have := l1 t ht; omega)
  refine ⟨fun t ht => ?_, fun c hc => ?_, fun t t' ht ht' => ?_⟩
  · rcases Nat.lt_trichotomy t p with q | q | q
    · rw [a2 t q]; exact vp_mono (h1 t (by omega)) (by omega)
    · subst q; rw [a3]; exact vp_in_nI (by omega) (by omega)
    · rw [a4 t q (by omega)]; exact vp_mono (h1 (t - 1) (by omega)) (by omega)
  · by_cases hcn : c = n
    · subst hcn; exact ⟨p, by omega, ex2⟩
    · obtain ⟨t, ht, hx⟩ := h2 c (by omega)
      by_cases hp : t < p
      · exact ⟨t, by omega, (ex1 t hp).trans hx⟩
      · exact ⟨t + 1, by omega, (ex3 (t + 1) (by omega) (by omega)).trans hx⟩
  · rcases Nat.lt_trichotomy t p with q | q | q
    · rw [ex1 t q, cd t (by omega)]
      rcases Nat.lt_trichotomy t' p with r | r | r
      · rw [ex1 t' r, cd t' (by omega)]
        exact h3 t t' ht (by omega)
      · subst r
        rw [ex2, pk_us]
        have hlast : cday (ix byd (t' - 1)) ≤ v := by
          rcases a5 with y | y
          · omega
          · rw [cd (t' - 1) (by omega), pk_us] at y; exact y
        have hle : cday (ix byd t) ≤ v := by
          by_cases he : t = t' - 1
          · rw [he]; exact hlast
          · rcases h3 t (t' - 1) (by omega) (by omega) with y | y
            · exact Int32.le_trans (Int32.le_of_lt y) hlast
            · rw [y.1]; exact hlast
        by_cases heq : cday (ix byd t) = v
        · exact Or.inr ⟨heq, l1 t (by omega)⟩
        · left
          exact Classical.byContradiction fun y => heq (i_anti hle (i_nlt.mp y))
      · rw [ex3 t' r (by omega), cd (t' - 1) (by omega)]
        exact h3 t (t' - 1) (by omega) (by omega)
    · subst q
      rw [ex2, ex3 t' ht (by omega), cd (t' - 1) (by omega), pk_us]
      have := a6 (t' - 1) (by omega) (by omega)
      rw [cd (t' - 1) (by omega), pk_us] at this
      exact Or.inl (i_nle.mp this)
    · rw [ex3 t q (by omega), ex3 t' (by omega) (by omega), cd (t - 1) (by omega), cd (t' - 1) (by omega)]
      exact h3 (t - 1) (t' - 1) (by omega) (by omega)
theorem st_card {WH : Nat} {b : BS} {g : MM} (h : IV WH b g) (v : Int32) (u : Bool) : adA v b = madA v g ∧ IV WH (adF v u b) (madF v u g) := by
  have hN : bN b = gN g := h.1.2.1
  have hn := h.2.2.1.1.1
  have hc : adP v b ↔ adQ v (gN g) := by
    show (wiP v 0 99 ∧ bN b < 16) ↔ (wiP v 0 99 ∧ ¬ gN g = 16)
    rw [← hN]
    exact ⟨fun y => ⟨y.1, by omega⟩, fun y => ⟨y.1, by have := y.2; omega⟩⟩
  unfold adA madA adF madF
  by_cases hq : adP v b
  · rw [if_pos hq, if_pos hq, if_pos (hc.mp hq), if_pos (hc.mp hq), hN]
    refine ⟨rfl, ?_⟩
    obtain ⟨⟨e1, e2, e3, e4, e5, e6, e7, e8, e9, e10, e11, e12, e13, e14, e15, e16⟩, -, hr, -⟩ := h
    obtain ⟨⟨p1, p2, p3, p4, p5, p6⟩, r2, r3, r4, r5, r6, r7⟩ := hr
    have h16 : bN b < 16 := hq.2
    obtain ⟨d1, -, d3⟩ := wi_in (a := 0) (N := 99) hq.1 (by omega) (by omega)
    refine IV_fg (b := adT v u b) (g := madT v u g) ⟨e1, by show bN b + 1 = gN g + 1; rw [e2], ?_, ?_, ?_, ?_, ?_, ?_, e9, e10, e11, e12, e13, e14, e15, e16⟩ ⟨⟨h16, p2, ?_, ?_, ?_, ?_⟩, r2, ?_, r4, r5, r6, r7⟩ (Or.inl rfl)
    · show upd (bDay b) (bN b) v = upd (gDay g) (gN g) v
      rw [e2, e3]
    · show upd (bUrg b) (bN b) _ = upd (gUrg g) (gN g) _
      rw [e2, e4]
    · show upd (bWai b) (bN b) _ = upd (gWai g) (gN g) _
      rw [e2, e5]
    · show upd (bFro b) (bN b) _ = upd (gFro g) (gN g) _
      rw [e2, e6]
    · show upd (bBto b) (bN b) _ = upd (gBto g) (gN g) _
      rw [e2, e7]
    · show sz4 (bSzs b) (bN b) 4 = sz5 (gSzs g) (gN g) 4
      rw [e2, e8, sz45]
    · intro c hc
      show ∃ e, e ≤ 99 ∧ upd (bDay b) (bN b) v c = nI e
      have hc : c < bN b + 1 := hc
      by_cases he : c = bN b
      · rw [he, pk_us]; exact ⟨_, d3, d1⟩
      · rw [pk_un he]; exact p3 c (by omega)
    · intro c hc
      show upd (bWai b) (bN b) (-1) c = -1 ∨ ∃ w, w < bN b + 1 ∧ upd (bWai b) (bN b) (-1) c = nI w
      have hc : c < bN b + 1 := hc
      by_cases he : c = bN b
      · rw [he, pk_us]; exact Or.inl rfl
      · rw [pk_un he]
        exact (p4 c (by omega)).elim Or.inl (fun ⟨w, w1, w2⟩ => Or.inr ⟨w, by omega, w2⟩)
    · intro c hc
      show upd (bFro b) (bN b) (-1) c = -1 ∨ ∃ r q, r < bK b ∧ q < r ∧ upd (bFro b) (bN b) (-1) c = nI r ∧ upd (bBto b) (bN b) (-1) c = nI q
      have hc : c < bN b + 1 := hc
      by_cases he : c = bN b
      · rw [he, pk_us]; exact Or.inl rfl
      · rw [pk_un he, pk_un he]; exact p5 c (by omega)
    · exact BYD_ins h16 p6
    · intro c hc k hk
      show ∃ w, w ≤ 9 ∧ sz4 (bSzs b) (bN b) 4 (c * 4 + k) = nI w
      have hc : c < bN b + 1 := hc
      have hk : k < bK b := hk
      rw [sz4_at]
      by_cases he : c = bN b
      · rw [if_pos (by omega)]; exact ⟨1, by omega, rfl⟩
      · rw [if_neg (by omega)]; exact r3 c (by omega) k hk
  · rw [if_neg hq, if_neg hq, if_neg (fun y => hq (hc.mpr y)), if_neg (fun y => hq (hc.mpr y))]; exact ⟨rfl, h⟩
theorem st_size {WH : Nat} {b : BS} {g : MM} (h : IV WH b g) (c k v : Int32) : (szP c k v b ↔ szQ c k v (gN g) (gK g)) ∧ IV WH (szF c k v b) (mszF c k v g) := by
  have hN : bN b = gN g := h.1.2.1
  have hk : bK b = gK g := h.1.1
  have hc : szP c k v b ↔ szQ c k v (gN g) (gK g) := by
    show (inC c (nI (bN b)) ∧ inC k (nI (bK b)) ∧ _) ↔ (inC c (nI (gN g)) ∧ inC k (nI (gK g)) ∧ _)
    rw [hk, hN]
  refine ⟨hc, ?_⟩
  unfold szF mszF
  by_cases hq : szP c k v b
  · rw [if_pos hq, if_pos (hc.mp hq)]
    obtain ⟨⟨e1, e2, e3, e4, e5, e6, e7, e8, e9, e10, e11, e12, e13, e14, e15, e16⟩, -, hr, -⟩ := h
    obtain ⟨r1, r2, r3, r4, r5, r6, r7⟩ := hr
    obtain ⟨v1, -, v3⟩ := wi_in (a := 0) (N := 9) hq.2.2 (by omega) (by omega)
    refine IV_fg (b := szT c.toNatClampNeg k.toNatClampNeg v b) (g := mszT c.toNatClampNeg k.toNatClampNeg v g) ⟨e1, e2, e3, e4, e5, e6, e7, ?_, e9, e10, e11, e12, e13, e14, e15, e16⟩ ⟨r1, r2, ?_, r4, r5, r6, r7⟩ (Or.inl rfl)
    · show upd (bSzs b) (c.toNatClampNeg * 4 + k.toNatClampNeg) v = upd (gSzs g) (4 * c.toNatClampNeg + k.toNatClampNeg) v
      rw [e8, Nat.mul_comm]
    · intro c' hc' k' hk'
      show ∃ w, w ≤ 9 ∧ upd (bSzs b) (c.toNatClampNeg * 4 + k.toNatClampNeg) v (c' * 4 + k') = nI w
      by_cases he : c' * 4 + k' = c.toNatClampNeg * 4 + k.toNatClampNeg
      · rw [he, pk_us]; exact ⟨_, v3, v1⟩
      · rw [pk_un he]; exact r3 c' hc' k' hk'
  · rw [if_neg hq, if_neg (fun y => hq (hc.mpr y))]; exact h
theorem inC_nI {x : Int32} {n : Nat} (hn : n < 2 ^ 31) (h : inC x (nI n)) : x = nI x.toNatClampNeg ∧ x.toNatClampNeg < n := by
  obtain ⟨j, hj, rfl⟩ := nI_of h.1
  rw [nI_clamp hj]
  exact ⟨rfl, Nat.lt_of_not_le fun q => h.2 (nI_le q hj)⟩
theorem st_waits {WH : Nat} {b : BS} {g : MM} (h : IV WH b g) (c v : Int32) : (waP c v b ↔ waQ c v (gN g)) ∧ IV WH (waF c v b) (mwaF c v g) := by
  have hN : bN b = gN g := h.1.2.1
  have hc : waP c v b ↔ waQ c v (gN g) := by
    show (inC c (nI (bN b)) ∧ _) ↔ (inC c (nI (gN g)) ∧ _)
    rw [hN]
  refine ⟨hc, ?_⟩
  unfold waF mwaF
  by_cases hq : waP c v b
  · rw [if_pos hq, if_pos (hc.mp hq)]
    obtain ⟨⟨e1, e2, e3, e4, e5, e6, e7, e8, e9, e10, e11, e12, e13, e14, e15, e16⟩, -, hr, -⟩ := h
    obtain ⟨⟨p1, p2, p3, p4, p5, p6⟩, r2, r3, r4, r5, r6, r7⟩ := hr
    obtain ⟨c1, c2⟩ := inC_nI (by omega) hq.1
    have hv : v = -1 ∨ ∃ w, w < bN b ∧ v = nI w := by
      by_cases hm : v = -1
      · exact Or.inl hm
      · have q2 := (wi_m1 hm).mp hq.2
        rw [c1] at q2
        obtain ⟨w1, w2⟩ := inC_nI (by omega) ((in_card (by omega)).mp q2)
        exact Or.inr ⟨_, by omega, w1⟩
    refine IV_fg (b := waT c.toNatClampNeg v b) (g := mwaT c.toNatClampNeg v g) ⟨e1, e2, e3, e4, ?_, e6, e7, e8, e9, e10, e11, e12, e13, e14, e15, e16⟩ ⟨⟨p1, p2, p3, ?_, p5, p6⟩, r2, r3, r4, r5, r6, r7⟩ (Or.inl rfl)
    · show upd (bWai b) _ v = upd (gWai g) _ v
      rw [e5]
    · intro d hd
      show upd (bWai b) c.toNatClampNeg v d = -1 ∨ ∃ w, w < bN b ∧ upd (bWai b) c.toNatClampNeg v d = nI w
      by_cases he : d = c.toNatClampNeg
      · rw [he, pk_us]; exact hv
      · rw [pk_un he]; exact p4 d hd
  · rw [if_neg hq, if_neg (fun y => hq (hc.mpr y))]; exact h
theorem st_back {WH : Nat} {b : BS} {g : MM} (h : IV WH b g) (c r q : Int32) : (baP c r q b ↔ baQ c r q (gN g) (gK g)) ∧ IV WH (baF c r q b) (mbaF c r q g) := by
  have hN : bN b = gN g := h.1.2.1
  have hk : bK b = gK g := h.1.1
  have hc : baP c r q b ↔ baQ c r q (gN g) (gK g) := by
    show (inC c (nI (bN b)) ∧ (r = -1 ∨ inC r (nI (bK b)) ∧ _)) ↔ (inC c (nI (gN g)) ∧ (r = -1 ∨ inC r (nI (gK g)) ∧ _))
    rw [hN, hk]
  refine ⟨hc, ?_⟩
  unfold baF mbaF
  by_cases hq : baP c r q b
  · rw [if_pos hq, if_pos (hc.mp hq)]
    obtain ⟨⟨e1, e2, e3, e4, e5, e6, e7, e8, e9, e10, e11, e12, e13, e14, e15, e16⟩, -, hr, -⟩ := h
    obtain ⟨⟨p1, p2, p3, p4, p5, p6⟩, r2, r3, r4, r5, r6, r7⟩ := hr
    have hv : r = -1 ∨ ∃ r' q', r' < bK b ∧ q' < r' ∧ r = nI r' ∧ (if r = -1 then -1 else q) = nI q' := by
      by_cases hm : r = -1
      · exact Or.inl hm
      · right
        rcases hq.2 with y | ⟨y1, y2⟩
        · exact absurd y hm
        · obtain ⟨w1, w2⟩ := inC_nI (by omega) y1
          rw [w1] at y2
          obtain ⟨w3, w4⟩ := inC_nI (by omega) ((in_card (by omega)).mp y2)
          rw [if_neg hm]
          exact ⟨_, _, w2, w4, w1, w3⟩
    refine IV_fg (b := baT c.toNatClampNeg r q b) (g := mbaT c.toNatClampNeg r q g) ⟨e1, e2, e3, e4, e5, ?_, ?_, e8, e9, e10, e11, e12, e13, e14, e15, e16⟩ ⟨⟨p1, p2, p3, p4, ?_, p6⟩, r2, r3, r4, r5, r6, r7⟩ (Or.inl rfl)
    · show upd (bFro b) _ r = upd (gFro g) _ r
      rw [e6]
    · show upd (bBto b) _ (if r = -1 then -1 else q) = upd (gBto g) _ (if r = -1 then -1 else q)
      rw [e7]
    · intro d hd
      show upd (bFro b) c.toNatClampNeg r d = -1 ∨ ∃ r' q', r' < bK b ∧ q' < r' ∧ upd (bFro b) c.toNatClampNeg r d = nI r' ∧ upd (bBto b) c.toNatClampNeg (if r = -1 then -1 else q) d = nI q'
      by_cases he : d = c.toNatClampNeg
      · rw [he, pk_us, pk_us]; exact hv
      · rw [pk_un he, pk_un he]; exact p5 d hd
  · rw [if_neg hq, if_neg (fun y => hq (hc.mpr y))]; exact h
theorem st_other {WH : Nat} {b : BS} {g : MM} (h : IV WH b g) (what k v : Int32) : (moP what k v (bK b) ↔ moP what k v (gK g)) ∧ IV WH (otF what k v b) (motF what k v g) := by
  have hk : bK b = gK g := h.1.1
  refine ⟨by rw [hk], ?_⟩
  unfold otF motF
  rw [← hk]
  by_cases hq : moP what k v (bK b)
  · rw [if_pos hq, if_pos hq]
    obtain ⟨⟨e1, e2, e3, e4, e5, e6, e7, e8, e9, e10, e11, e12, e13, e14, e15, e16⟩, -, hr, -, -, -, hm⟩ := h
    obtain ⟨r1, r2, r3, r4, r5, r6, r7⟩ := hr
    by_cases w0 : what = 0
    · rw [if_pos w0, if_pos w0]
      refine IV_fg (b := ot0 k.toNatClampNeg v b) (g := mo0 k.toNatClampNeg v g) ⟨e1, e2, e3, e4, e5, e6, e7, e8, e9, e10, e11, e12, ?_, e14, e15, e16⟩ ⟨r1, r2, r3, r4, r5, r6, r7⟩ (SBm_cg (b := b) (g := g) rfl rfl rfl rfl rfl rfl hm)
      show upd (bTl b) _ v = upd (gOl g) _ v
      rw [e13]
    · rw [if_neg w0, if_neg w0]
      by_cases w1 : what = 1
      · rw [if_pos w1, if_pos w1]
        refine IV_fg (b := ot1 k.toNatClampNeg v b) (g := mo1 k.toNatClampNeg v g) ⟨e1, e2, e3, e4, e5, e6, e7, e8, e9, e10, e11, e12, e13, ?_, e15, e16⟩ ⟨r1, r2, r3, r4, r5, r6, r7⟩ (SBm_cg (b := b) (g := g) rfl rfl rfl rfl rfl rfl hm)
        show upd (bTn b) _ v = upd (gOn g) _ v
        rw [e14]
      · rw [if_neg w1, if_neg w1]
        by_cases w2 : what = 2
        · rw [if_pos w2, if_pos w2]
          have hv : v = -1 ∨ ∃ h, h < 2 ^ 30 ∧ v = nI h := by
            by_cases hm1 : v = -1
            · exact Or.inl hm1
            · right
              have hw : wiP v (-1) 20 := by
                rcases hq with y | y | y | y
                · exact absurd y.1 w0
                · exact absurd y.1 w1
                · exact y.2.2
                · rw [y.1] at w2; exact absurd w2 (by decide)
              obtain ⟨z1, -, z3⟩ := wi_in (a := 0) (N := 20) ((wi_m1 hm1).mp hw) (by omega) (by omega)
              exact ⟨_, by omega, z1⟩
          refine IV_fg (b := ot2 k.toNatClampNeg v b) (g := mo2 k.toNatClampNeg v g) ⟨e1, e2, e3, e4, e5, e6, e7, e8, e9, e10, e11, e12, e13, e14, ?_, e16⟩ ⟨r1, r2, r3, r4, ?_, r6, r7⟩ (SBm_cg (b := b) (g := g) rfl rfl rfl rfl rfl rfl hm)
          · show upd (bTh b) _ v = upd (gOh g) _ v
            rw [e15]
          · intro j hj
            show upd (bTh b) k.toNatClampNeg v j = -1 ∨ ∃ h, h < 2 ^ 30 ∧ upd (bTh b) k.toNatClampNeg v j = nI h
            by_cases hjk : j = k.toNatClampNeg
            · rw [hjk, pk_us]; exact hv
            · rw [pk_un hjk]; exact r5 j hj
        · rw [if_neg w2, if_neg w2]
          have hv : v = -1 ∨ ∃ h, h < 2 ^ 30 ∧ v = nI h := by
            rcases hq with y | y | y | y
            · exact absurd y.1 w0
            · exact absurd y.1 w1
            · exact absurd y.1 w2
            · rcases y.2 with z | z
              · exact Or.inl z
              · obtain ⟨z1, -, z3⟩ := wi_in (a := 1) (N := 9) z (by omega) (by omega)
                exact Or.inr ⟨_, by omega, z1⟩
          exact IV_fg (b := ot3 v b) (g := mo3 v g) ⟨e1, e2, e3, e4, e5, e6, e7, e8, e9, e10, e11, e12, e13, e14, e15, rfl⟩ ⟨r1, r2, r3, r4, r5, r6, hv⟩ (SBm_cg (b := b) (g := g) rfl rfl rfl rfl rfl rfl hm)
  · rw [if_neg hq, if_neg hq]; exact h
