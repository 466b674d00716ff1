/-! the pure part: what is asked -/
theorem goX_f (o f : XF) (k : Nat) : goX false o f k = f k := rfl
theorem goX_t (o f : XF) (k : Nat) : goX true o f k = toR (o k) (f k) := rfl
/-- the run that is asked, in both: to a day -/
theorem qu_at {WH : Nat} {b : BS} {g : MM} (h : IV WH b g) (u : Bool) {a : Nat} (ha : a ≤ 3000) : RDb (bDay b) (bWai b) (bN b) (bK b) (dsJ (runU u (shw u a b))) (runU u (shw u a b)) (gZ (gru u a g)) ∧ RDf (bN b) (runU u (shw u a b)) (gZ (gru u a g)) ∧ 1 ≤ dsJ (runU u (shw u a b)) ∧ dsJ (runU u (shw u a b)) ≤ 3001 := by
  obtain ⟨⟨e1, e2, e3, e4, e5, e6, e7, e8, e9, e10, e11, e12, e13, e14, e15, e16⟩, hv, hr, hn, -⟩ := h
  have hk4 := hr.1.2.1
  cases u with
  | false =>
    have hl : ∀ k, k < bK b → bRl b k = gRl (gby false g) k ∧ bRn b k = gRn (gby false g) k ∧ bRh b k = gRh (gby false g) k := fun k hk => by
      refine ⟨?_, ?_, ?_⟩
      · show bRl b k = tf (goX false (gOl g) (gLl g)) (gRl g) 4 k
        rw [tf_t (by omega), e9]; rfl
      · show bRn b k = tf (goX false (gOn g) (gLn g)) (gRn g) 4 k
        rw [tf_t (by omega), e10]; rfl
      · show bRh b k = tf (goX false (gOh g) (gLh g)) (gRh g) 4 k
        rw [tf_t (by omega), e11]; rfl
    have hz : gZ (gru false a g) = rnF (gDay g) (gUrg g) (gSzs g) (gWai g) (gFro g) (gBto g) (gRl (gby false g)) (gRn (gby false g)) (gRh (gby false g)) (gN g) (gK g) 0 (gLp g) a (gZ g) := rfl
    have hs : runU false (shw false a b) = sdF (bDay b) (bUrg b) (bWai b) (bFro b) (bBto b) (bByd b) (bSzs b) (bRl b) (bRn b) (bRh b) (bN b) (bK b) 0 (bRp b) a (bDP b) := rfl
    rw [hz, hs, ← e1, ← e2, ← e3, ← e4, ← e5, ← e6, ← e7, ← e8, ← e12]
    obtain ⟨q1, q2⟩ := ON_at hr.1 (SR_hp hr) hl ha hn.1 (gZ g)
    obtain ⟨-, q3, q4⟩ := ON_sd hr.1 (SR_hp hr) ha hn.1
    refine ⟨q1, q2, ?_, by omega⟩
    rcases q1.2.2.2.2.1 with y | y
    · have := q4 y.1; omega
    · exact y.2.2
  | true =>
    have hl : ∀ k, k < bK b → bVl b k = gRl (gby true g) k ∧ bVn b k = gRn (gby true g) k ∧ bVh b k = gRh (gby true g) k := fun k hk => by
      obtain ⟨v1, v2, v3⟩ := hv.1 k (by omega)
      refine ⟨?_, ?_, ?_⟩
      · show bVl b k = tf (goX true (gOl g) (gLl g)) (gRl g) 4 k
        rw [tf_t (by omega), v1, e9, e13]; rfl
      · show bVn b k = tf (goX true (gOn g) (gLn g)) (gRn g) 4 k
        rw [tf_t (by omega), v2, e10, e14]; rfl
      · show bVh b k = tf (goX true (gOh g) (gLh g)) (gRh g) 4 k
        rw [tf_t (by omega), v3, e11, e15]; rfl
    have hz : gZ (gru true a g) = rnF (gDay g) (gUrg g) (gSzs g) (gWai g) (gFro g) (gBto g) (gRl (gby true g)) (gRn (gby true g)) (gRh (gby true g)) (gN g) (gK g) 0 (toR (gOp g) (gLp g)) a (gZ g) := rfl
    have hs : runU true (shw true a b) = sdF (bDay b) (bUrg b) (bWai b) (bFro b) (bBto b) (bByd b) (bSzs b) (bVl b) (bVn b) (bVh b) (bN b) (bK b) 0 (bVp b) a (bDQ b) := rfl
    rw [hz, hs, ← e1, ← e2, ← e3, ← e4, ← e5, ← e6, ← e7, ← e8, ← e12, ← e16, ← hv.2]
    obtain ⟨q1, q2⟩ := ON_at hr.1 (SR_hq hr hv) hl ha hn.2.1 (gZ g)
    obtain ⟨-, q3, q4⟩ := ON_sd hr.1 (SR_hq hr hv) ha hn.2.1
    refine ⟨q1, q2, ?_, by omega⟩
    rcases q1.2.2.2.2.1 with y | y
    · have := q4 y.1; omega
    · exact y.2.2
/-- the same, to the end -/
theorem qu_end {WH : Nat} (hWH : WH = 100000) {b : BS} {g : MM} (h : IV WH b g) (u : Bool) : RDb (bDay b) (bWai b) (bN b) (bK b) (dsJ (runU u (shw u 3000 b))) (runU u (shw u 3000 b)) (gZ (gru u WH g)) ∧ RDf (bN b) (runU u (shw u 3000 b)) (gZ (gru u WH g)) ∧ ¬ dsR (runU u (shw u 3000 b)) = 0 ∧ dsJ (runU u (shw u 3000 b)) ≤ 3001 := by
  obtain ⟨⟨e1, e2, e3, e4, e5, e6, e7, e8, e9, e10, e11, e12, e13, e14, e15, e16⟩, hv, hr, hn, -⟩ := h
  have hk4 := hr.1.2.1
  cases u with
  | false =>
    have hl : ∀ k, k < bK b → bRl b k = gRl (gby false g) k ∧ bRn b k = gRn (gby false g) k ∧ bRh b k = gRh (gby false g) k := fun k hk => by
      refine ⟨?_, ?_, ?_⟩
      · show bRl b k = tf (goX false (gOl g) (gLl g)) (gRl g) 4 k
        rw [tf_t (by omega), e9]; rfl
      · show bRn b k = tf (goX false (gOn g) (gLn g)) (gRn g) 4 k
        rw [tf_t (by omega), e10]; rfl
      · show bRh b k = tf (goX false (gOh g) (gLh g)) (gRh g) 4 k
        rw [tf_t (by omega), e11]; rfl
    have hz : gZ (gru false WH g) = rnF (gDay g) (gUrg g) (gSzs g) (gWai g) (gFro g) (gBto g) (gRl (gby false g)) (gRn (gby false g)) (gRh (gby false g)) (gN g) (gK g) 0 (gLp g) WH (gZ g) := rfl
    have hs : runU false (shw false 3000 b) = sdF (bDay b) (bUrg b) (bWai b) (bFro b) (bBto b) (bByd b) (bSzs b) (bRl b) (bRn b) (bRh b) (bN b) (bK b) 0 (bRp b) 3000 (bDP b) := rfl
    rw [hz, hs, ← e1, ← e2, ← e3, ← e4, ← e5, ← e6, ← e7, ← e8, ← e12]
    obtain ⟨q1, q2, q5⟩ := ON_end hr.1 (SR_hp hr) hl hWH hn.1 (gZ g)
    obtain ⟨-, q3, q4⟩ := ON_sd hr.1 (SR_hp hr) (Nat.le_refl 3000) hn.1
    exact ⟨q1, q2, q5, by omega⟩
  | true =>
    have hl : ∀ k, k < bK b → bVl b k = gRl (gby true g) k ∧ bVn b k = gRn (gby true g) k ∧ bVh b k = gRh (gby true g) k := fun k hk => by
      obtain ⟨v1, v2, v3⟩ := hv.1 k (by omega)
      refine ⟨?_, ?_, ?_⟩
      · show bVl b k = tf (goX true (gOl g) (gLl g)) (gRl g) 4 k
        rw [tf_t (by omega), v1, e9, e13]; rfl
      · show bVn b k = tf (goX true (gOn g) (gLn g)) (gRn g) 4 k
        rw [tf_t (by omega), v2, e10, e14]; rfl
      · show bVh b k = tf (goX true (gOh g) (gLh g)) (gRh g) 4 k
        rw [tf_t (by omega), v3, e11, e15]; rfl
    have hz : gZ (gru true WH g) = rnF (gDay g) (gUrg g) (gSzs g) (gWai g) (gFro g) (gBto g) (gRl (gby true g)) (gRn (gby true g)) (gRh (gby true g)) (gN g) (gK g) 0 (toR (gOp g) (gLp g)) WH (gZ g) := rfl
    have hs : runU true (shw true 3000 b) = sdF (bDay b) (bUrg b) (bWai b) (bFro b) (bBto b) (bByd b) (bSzs b) (bVl b) (bVn b) (bVh b) (bN b) (bK b) 0 (bVp b) 3000 (bDQ b) := rfl
    rw [hz, hs, ← e1, ← e2, ← e3, ← e4, ← e5, ← e6, ← e7, ← e8, ← e12, ← e16, ← hv.2]
    obtain ⟨q1, q2, q5⟩ := ON_end hr.1 (SR_hq hr hv) hl hWH hn.2.1 (gZ g)
    obtain ⟨-, q3, q4⟩ := ON_sd hr.1 (SR_hq hr hv) (Nat.le_refl 3000) hn.2.1
    exact ⟨q1, q2, q5, by omega⟩
/-- a run of the board goes on: what stands keeps standing -/
theorem IV_seP {WH : Nat} {b : BS} {g : MM} (h : IV WH b g) {D : DS} (hD : ON (bDay b) (bUrg b) (bSzs b) (bWai b) (bFro b) (bBto b) (bRl b) (bRn b) (bRh b) (bN b) (bK b) 0 (bRp b) D) (hJ : dsJ D ≤ 3001) : IV WH (seP D b) g := by
  obtain ⟨e, a2, a3, ⟨n1, n2, n3⟩, ⟨j1, j2, j3⟩, a6, a7⟩ := h
  exact ⟨e, a2, a3, ⟨hD, n2, n3⟩, ⟨hJ, j2, j3⟩, SB_cg (b := b) rfl rfl rfl rfl rfl a6, SBm_cg (b := b) (g := g) rfl rfl rfl rfl rfl rfl a7⟩
theorem IV_seQ {WH : Nat} {b : BS} {g : MM} (h : IV WH b g) {D : DS} (hD : ON (bDay b) (bUrg b) (bSzs b) (bWai b) (bFro b) (bBto b) (bVl b) (bVn b) (bVh b) (bN b) (bK b) 0 (bVp b) D) (hJ : dsJ D ≤ 3001) : IV WH (seQ D b) g := by
  obtain ⟨e, a2, a3, ⟨n1, n2, n3⟩, ⟨j1, j2, j3⟩, a6, a7⟩ := h
  exact ⟨e, a2, a3, ⟨n1, hD, n3⟩, ⟨j1, hJ, j3⟩, SB_cg (b := b) rfl rfl rfl rfl rfl a6, SBm_cg (b := b) (g := g) rfl rfl rfl rfl rfl rfl a7⟩
theorem IV_seC {WH : Nat} {b : BS} {g : MM} (h : IV WH b g) {D : DS} (hD : ON (bDay b) (bUrg b) (bSzs b) (bWai b) (bFro b) (bBto b) (bRl b) (bRn b) (bRh b) (bN b) (bK b) 1 (bRp b) D) (hJ : dsJ D ≤ 3001) : IV WH (seC D b) g := by
  obtain ⟨e, a2, a3, ⟨n1, n2, n3⟩, ⟨j1, j2, j3⟩, a6, a7⟩ := h
  exact ⟨e, a2, a3, ⟨n1, n2, hD⟩, ⟨j1, j2, hJ⟩, SB_cg (b := b) rfl rfl rfl rfl rfl a6, SBm_cg (b := b) (g := g) rfl rfl rfl rfl rfl rfl a7⟩
theorem IV_shw {WH : Nat} {b : BS} {g : MM} (h : IV WH b g) (u : Bool) {a : Nat} (ha : a ≤ 3000) : IV WH (shw u a b) g := by
  have hr := h.2.2.1
  cases u with
  | false =>
    obtain ⟨q1, q2, -⟩ := ON_sd hr.1 (SR_hp hr) ha h.2.2.2.1.1
    exact IV_seP h q1 (Nat.le_trans q2 (by omega))
  | true =>
    obtain ⟨q1, q2, -⟩ := ON_sd hr.1 (SR_hq hr h.2.1) ha h.2.2.2.1.2.1
    exact IV_seQ h q1 (Nat.le_trans q2 (by omega))
theorem IV_gru {WH : Nat} {b : BS} {g : MM} (h : IV WH b g) (u : Bool) (a : Nat) : IV WH b (gru u a g) := IV_g (g := g) h rfl rfl rfl rfl rfl rfl rfl
theorem st_told {WH : Nat} (hWH : WH = 100000) {b : BS} {g : MM} (h : IV WH b g) (c what : Int32) (u : Bool) : tlA c what u b = mtlA WH c what u g ∧ IV WH (tlF c u b) (mtlF WH c what u g) := by
  have hN : bN b = gN g := h.1.2.1
  have hd : bDay b = gDay g := h.1.2.2.1
  unfold tlA mtlA tlF mtlF
  rw [← hN, ← hd]
  by_cases hc : inC c (nI (bN b))
  · rw [if_pos hc, if_pos hc]
    by_cases hw : wiP what 0 5
    · rw [if_pos ⟨hc, hw⟩, if_pos ⟨hc, hw⟩]
      obtain ⟨q1, q2, q3, q4⟩ := qu_end hWH h u
      exact ⟨an_told q1 q2 (by omega) (inC_nI (by have := h.2.2.1.1.1; omega) hc).2 hw, IV_gru (IV_shw h u (Nat.le_refl _)) u WH⟩
    · rw [if_neg (fun y => hw y.2), if_neg (fun y => hw y.2), tdA_no hw]
      exact ⟨rfl, IV_shw h u (Nat.le_refl _)⟩
  · rw [if_neg hc, if_neg hc, if_neg (fun y => hc y.1), if_neg (fun y => hc y.1)]
    exact ⟨rfl, h⟩
theorem wd_3000 {dd : Int32} (h : wiP dd 0 3000) : dd.toNatClampNeg ≤ 3000 := (wi_in (a := 0) (N := 3000) h (by omega) (by omega)).2.2
theorem st_at {WH : Nat} {b : BS} {g : MM} (h : IV WH b g) (c dd : Int32) (u : Bool) : atA c dd u b = matA c dd u g ∧ rnA c dd u b = mreA c dd u g ∧ IV WH (atF c dd u b) (matF c dd u g) := by
  have hN : bN b = gN g := h.1.2.1
  have hc : atP c dd b ↔ atQ c dd (gN g) := by
    show (inC c (nI (bN b)) ∧ _) ↔ (inC c (nI (gN g)) ∧ _)
    rw [hN]
  unfold atA matA rnA mreA atF matF
  by_cases hq : atP c dd b
  · rw [if_pos hq, if_pos hq, if_pos hq, if_pos (hc.mp hq), if_pos (hc.mp hq), if_pos (hc.mp hq)]
    have ha := wd_3000 hq.2
    obtain ⟨q1, q2, q3, q4⟩ := qu_at h u ha
    have hcn := (inC_nI (by have := h.2.2.1.1.1; omega) hq.1).2
    exact ⟨an_P q1 hcn, (q1.2.2.2.2.2 q3).1 _ hcn, IV_gru (IV_shw h u ha) u _⟩
  · have hq2 := fun y => hq (hc.mpr y)
    rw [if_neg hq, if_neg hq, if_neg hq, if_neg hq2, if_neg hq2, if_neg hq2]
    exact ⟨rfl, rfl, h⟩
theorem st_counts {WH : Nat} {b : BS} {g : MM} (h : IV WH b g) (dd what : Int32) (u : Bool) : cuA dd what u b = mcuA dd what u g ∧ IV WH (cuF dd u b) (mcuF dd what u g) := by
  have hN : bN b = gN g := h.1.2.1
  have hK : bK b = gK g := h.1.1
  unfold cuA mcuA cuF mcuF
  rw [← hN, ← hK]
  by_cases hd : wiP dd 0 3000
  · rw [if_pos hd, if_pos hd]
    have ha := wd_3000 hd
    obtain ⟨q1, q2, q3, q4⟩ := qu_at h u ha
    rw [an_counts q1 q3 h.2.2.1.1.2.1 h.2.2.1.1.1]
    by_cases hw : wiP what 0 3 ∨ wiP what 10 (9 + nI (bK b))
    · rw [if_pos hw, if_pos ⟨hd, hw⟩, if_pos ⟨hd, hw⟩]
      exact ⟨rfl, IV_gru (IV_shw h u ha) u _⟩
    · rw [if_neg hw, if_neg (fun y => hw y.2), if_neg (fun y => hw y.2)]
      exact ⟨rfl, IV_shw h u ha⟩
  · rw [if_neg hd, if_neg hd, if_neg (fun y => hd y.1), if_neg (fun y => hd y.1)]
    exact ⟨rfl, h⟩
theorem st_length {WH : Nat} (hWH : WH = 100000) {b : BS} {g : MM} (h : IV WH b g) (what : Int32) (u : Bool) : leA (runU u (shw u 3000 b)) (bDay b) (bN b) what = mleA (gZ (gru u WH g)) (gDay g) (gN g) what ∧ IV WH (shw u 3000 b) (gru u WH g) := by
  have hN : bN b = gN g := h.1.2.1
  have hd : bDay b = gDay g := h.1.2.2.1
  rw [← hN, ← hd]
  obtain ⟨q1, q2, q3, q4⟩ := qu_end hWH h u
  exact ⟨an_length q1 (by omega) q3 what, IV_gru (IV_shw h u (Nat.le_refl _)) u WH⟩
theorem st_promise {WH : Nat} (hWH : WH = 100000) {b : BS} {g : MM} (h : IV WH b g) (share : Int32) (u : Bool) : prA share u b = mprA WH share u g ∧ IV WH (prF share u b) (gru u WH g) := by
  have hN : bN b = gN g := h.1.2.1
  have hd : bDay b = gDay g := h.1.2.2.1
  unfold prA mprA prF
  rw [← hN, ← hd]
  by_cases hs : wiP share 1 100
  · rw [if_pos hs, if_pos hs]
    obtain ⟨q1, q2, q3, q4⟩ := qu_end hWH h u
    rw [an_prom h.2.2.1.1.2.2.1 h.2.2.1.1.1 q1 (by omega) hs hWH (gru_D hWH u g)]
    refine ⟨?_, IV_gru (IV_shw h u (Nat.le_refl _)) u WH⟩
    by_cases h0 : mpN (gZ (gru u WH g)) (bN b) = 0
    · rw [if_pos h0, if_neg (fun y => y.2 h0)]
    · rw [if_neg h0, if_pos ⟨hs, h0⟩]
  · rw [if_neg hs, if_neg hs, if_neg (fun y => hs y.1)]
    exact ⟨rfl, IV_gru h u WH⟩
theorem st_about {WH : Nat} {b : BS} {g : MM} (h : IV WH b g) (what : Int32) : abA what b = if what = 0 then nI (gK g) else if what = 1 then nI (gN g) else if what = 2 then gLp g else if what = 3 then toR (gOp g) (gLp g) else -1 := by
  obtain ⟨⟨e1, e2, e3, e4, e5, e6, e7, e8, e9, e10, e11, e12, e13, e14, e15, e16⟩, hv, -⟩ := h
  unfold abA
  rw [hv.2, e1, e2, e12, e16]
theorem st_cost {WH : Nat} (hWH : WH = 100000) {b : BS} {g : MM} (h : IV WH b g) : csA2 b = mcoA WH g ∧ IV WH (csT b) (mcoF2 WH g) := by
  have h0 := h
  obtain ⟨p1, -, p3, p4⟩ := qu_end hWH h false
  obtain ⟨⟨e1, e2, e3, e4, e5, e6, e7, e8, e9, e10, e11, e12, e13, e14, e15, e16⟩, hv, hr, hn, -⟩ := h
  have hk4 := hr.1.2.1
  have hl : ∀ k, k < bK b → bRl b k = gRl (gby false g) k ∧ bRn b k = gRn (gby false g) k ∧ bRh b k = gRh (gby false g) k := fun k hk => by
    refine ⟨?_, ?_, ?_⟩
    · show bRl b k = tf (goX false (gOl g) (gLl g)) (gRl g) 4 k
      rw [tf_t (by omega), e9]; rfl
    · show bRn b k = tf (goX false (gOn g) (gLn g)) (gRn g) 4 k
      rw [tf_t (by omega), e10]; rfl
    · show bRh b k = tf (goX false (gOh g) (gLh g)) (gRh g) 4 k
      rw [tf_t (by omega), e11]; rfl
  have hz : gZ (gc2 WH g) = rnF (gDay g) (gUrg g) (gSzs g) (gWai g) (gFro g) (gBto g) (gRl (gby false g)) (gRn (gby false g)) (gRh (gby false g)) (gN g) (gK g) 1 (gLp g) WH (gZ (gc1 WH g)) := rfl
  have hs : sdC 3000 b = sdF (bDay b) (bUrg b) (bWai b) (bFro b) (bBto b) (bByd b) (bSzs b) (bRl b) (bRn b) (bRh b) (bN b) (bK b) 1 (bRp b) 3000 (bDC b) := rfl
  have q1 : RDb (bDay b) (bWai b) (bN b) (bK b) (dsJ (sdC 3000 b)) (sdC 3000 b) (gZ (gc2 WH g)) := by
    rw [hz, hs, ← e1, ← e2, ← e3, ← e4, ← e5, ← e6, ← e7, ← e8, ← e12]
    exact (ON_end hr.1 (SR_hp hr) hl hWH hn.2.2 _).1
  obtain ⟨o1, o2, -⟩ := ON_sd hr.1 (SR_hp hr) (Nat.le_refl 3000) hn.2.2
  rw [← hs] at o1 o2
  have hp : runU false (shw false 3000 b) = sdP 3000 b := rfl
  rw [hp] at p1 p3 p4
  have hg1 : gru false WH g = gc1 WH g := rfl
  rw [hg1] at p1
  have hD1 : (cnt (fun b0 => csP (dsC (sdP 3000 b)) b0 = 10) (bN b) = bN b) ↔ dnM (gc1 WH g) := by
    rw [an_c10 p1]
    show _ ↔ cnt (fun b => mP (gZ (gc1 WH g)) b = 10) (gN g) = gN g
    rw [e2]
  have hD2 : (cnt (fun b0 => csP (dsC (sdC 3000 b)) b0 = 10) (bN b) = bN b) ↔ dnM (gc2 WH g) := by
    rw [an_c10 q1]
    show _ ↔ cnt (fun b => mP (gZ (gc2 WH g)) b = 10) (gN g) = gN g
    rw [e2]
  have hS1 : spA (sdP 3000 b) b = spM (gc1 WH g) := by
    show sumI (fun b0 => if bUrg b b0 = 0 then agF (csD (dsC (sdP 3000 b))) (bDay b) b0 else 0) (bN b) = sumI (fun b => if gUrg g b = 0 then agM (mD (gZ (gc1 WH g))) (gDay g) b else 0) (gN g)
    rw [← e2, ← e3, ← e4]
    exact sumI_cg fun c hc => by rw [an_ag p1 (by omega) hc]
  have hS2 : spA (sdC 3000 b) b = spM (gc2 WH g) := by
    show sumI (fun b0 => if bUrg b b0 = 0 then agF (csD (dsC (sdC 3000 b))) (bDay b) b0 else 0) (bN b) = sumI (fun b => if gUrg g b = 0 then agM (mD (gZ (gc2 WH g))) (gDay g) b else 0) (gN g)
    rw [← e2, ← e3, ← e4]
    exact sumI_cg fun c hc => by rw [an_ag q1 (by omega) hc]
  constructor
  · unfold csA2 mcoA
    rw [hS1, hS2]
    by_cases hq : dnM (gc1 WH g) ∧ dnM (gc2 WH g)
    · rw [if_pos hq, if_pos ⟨hD1.mpr hq.1, hD2.mpr hq.2⟩]
    · rw [if_neg hq, if_neg (fun y => hq ⟨hD1.mp y.1, hD2.mp y.2⟩)]
  · have hb : IV WH (csT b) g := by
      have i1 : IV WH (seP (sdP 3000 b) b) g := IV_shw h0 false (Nat.le_refl _)
      exact IV_seC i1 o1 (by omega)
    have h1 : IV WH (csT b) (gc1 WH g) := IV_gru hb false WH
    unfold mcoF2
    split
    · exact IV_g (g := gc1 WH g) h1 rfl rfl rfl rfl rfl rfl rfl
    · exact h1
theorem st_best {WH : Nat} (hWH : WH = 100000) {b : BS} {g : MM} (h : IV WH b g) (m : Int32) : beA m b = mbeA WH m g ∧ IV WH (beF m b) (mbeF WH m g) ∧ (wiP m 1 4 → ∀ k, k < bK b → ¬ mbeA WH m g = -1 → bLL (seF m.toNatClampNeg b) k = gBo (mbeF WH m g) k) ∧ (mbeA WH m g = -1 ∨ ∃ w, w < 2 ^ 30 ∧ mbeA WH m g = nI w) := by
  unfold beA mbeA beF mbeF
  by_cases hq : wiP m 1 4
  · rw [if_pos hq, if_pos hq, if_pos hq, if_pos hq]
    obtain ⟨h1, h2, h3⟩ := wi_in (a := 1) (N := 4) hq (by omega) (by omega)
    obtain ⟨a1, a2, a3⟩ := gsk_ok h.2.2.1 h.1 hWH h.2.2.2.2.2.2 h2 h3
    obtain ⟨b1, b2⟩ := seS_ok h.2.2.1 hWH h.2.2.2.2.2.1 h2 h3
    generalize m.toNatClampNeg = m0 at *
    have hv : bLs (seF m0 b) = gBs (gsk WH m0 g) := b1.trans a2.1.symm
    have hL : bLL (seF m0 b) = ssL (seS m0 b) := rfl
    refine ⟨hv, ?_, fun _ k hk hne => ?_, ?_⟩
    · obtain ⟨e, v, r, n, j, s, s2⟩ := h
      refine ⟨a1, v, r, n, j, Or.inr ⟨m0, h2, h3, rfl, BOK_cg (b := b) (b' := seF m0 b) rfl rfl ⟨b1, b2⟩⟩, ?_⟩
      exact SBm_cg (b := b) (g := gsk WH m0 g) rfl rfl rfl rfl rfl rfl a3
    · rw [hL, b2 (by rw [b1, ← a2.1]; exact hne) k hk, a2.2 hne k hk]
    · rw [a2.1]
      exact BQ_v h.2.2.1 hWH m0 _
  · rw [if_neg hq, if_neg hq, if_neg hq, if_neg hq]
    exact ⟨rfl, h, fun y => absurd y hq, Or.inl rfl⟩
theorem st_bestLimit {WH : Nat} (hWH : WH = 100000) {b : BS} {g : MM} (h : IV WH b g) (m k : Int32) : blA m k b = mblA WH m k g ∧ IV WH (blF m k b) (mblF WH m k g) := by
  have hK : bK b = gK g := h.1.1
  obtain ⟨c1, c2, c3, c4⟩ := st_best hWH h m
  unfold blA mblA blF mblF
  rw [← hK]
  by_cases hk : inC k (nI (bK b))
  · rw [if_pos hk]
    have hkn := (inC_nI (by have := h.2.2.1.1.2.1; omega) hk).2
    unfold beA at c1
    unfold beF at c2
    by_cases hm : wiP m 1 4
    · rw [if_pos hm] at c1 c2
      rw [if_pos (show blP m k b from ⟨hm, hk⟩), if_pos (show blP m k b from ⟨hm, hk⟩), c1]
      refine ⟨?_, c2⟩
      by_cases h1 : mbeA WH m g = -1
      · rw [if_pos h1, if_neg (show ¬ (inC k (nI (bK b)) ∧ 0 ≤ mbeA WH m g) from fun y => by rw [h1] at y; exact absurd y.2 (by decide))]
      · rw [if_neg h1, if_pos (show inC k (nI (bK b)) ∧ 0 ≤ mbeA WH m g from ⟨hk, ?_⟩)]
        · exact c3 hm _ hkn h1
        · rcases c4 with y | ⟨w, hw, y⟩
          · exact absurd y h1
          · rw [y]; exact nI_pos' (by omega)
    · rw [if_neg hm] at c1 c2
      rw [if_neg (show ¬ blP m k b from fun y => hm y.1), if_neg (show ¬ blP m k b from fun y => hm y.1), if_neg (show ¬ (inC k (nI (bK b)) ∧ 0 ≤ mbeA WH m g) from fun y => by rw [← c1] at y; exact absurd y.2 (by decide))]
      exact ⟨rfl, c2⟩
  · rw [if_neg hk, if_neg (show ¬ blP m k b from fun y => hk y.2), if_neg (show ¬ blP m k b from fun y => hk y.2), if_neg (show ¬ (inC k (nI (bK b)) ∧ 0 ≤ mbeA WH m g) from fun y => hk y.1)]
    exact ⟨rfl, h⟩
/-! DIFFER -/
theorem dn_inj {a c : Nat} (ha : a < 2 ^ 30) (hc : c < 2 ^ 30) (h : dn a = dn c) : a = c := by
  have := congrArg (fun x => x + 1) h
  simp only [dn_1] at this
  exact nI_inj (by omega) (by omega) this
section DFP
variable {cday urg waits bfrom bto byd szs lim lan han : XF} {n nc : Nat} {nob pac : Int32}
/-- a run at rest is at rest on the same day -/
theorem rest_cmp {P E : DS} (hP : ON cday urg szs waits bfrom bto lim lan han n nc nob pac P) (hE : ON cday urg szs waits bfrom bto lim lan han n nc nob pac E) (hR : ¬ dsR E = 0) (hj : dsJ P < 2 ^ 20) (hj2 : dsJ E < 2 ^ 20) : (¬ dsR P = 0 → dsJ P = dsJ E) ∧ (dsR P = 0 → dsJ P < dsJ E) := by
  obtain ⟨p1, -⟩ := (hP lim lan han (fun _ _ => ⟨rfl, rfl, rfl⟩)).2 rz
  obtain ⟨q1, -⟩ := (hE lim lan han (fun _ _ => ⟨rfl, rfl, rfl⟩)).2 rz
  have hqE : mE (rnG cday urg szs waits bfrom bto lim lan han n nc nob pac (dsJ E) 0 (bnF rz)) = dn (dsJ E) ∧ 1 ≤ dsJ E := by
    rcases q1.2.2.2.2.1 with y | y
    · exact absurd y.1 hR
    · exact y.2
  have pos : ∀ x, 1 ≤ x → x < 2 ^ 20 → 0 ≤ dn x := fun x hx hx2 => by
    obtain ⟨y, rfl⟩ : ∃ y, x = y + 1 := ⟨x - 1, by omega⟩
    exact nI_pos' (by omega)
  have hqp : 0 ≤ mE (rnG cday urg szs waits bfrom bto lim lan han n nc nob pac (dsJ E) 0 (bnF rz)) := by rw [hqE.1]; exact pos _ hqE.2 hj2
  refine ⟨fun hp => ?_, fun hp => ?_⟩
  · have hpE : mE (rnG cday urg szs waits bfrom bto lim lan han n nc nob pac (dsJ P) 0 (bnF rz)) = dn (dsJ P) ∧ 1 ≤ dsJ P := by
      rcases p1.2.2.2.2.1 with y | y
      · exact absurd y.1 hp
      · exact y.2
    have hpp : 0 ≤ mE (rnG cday urg szs waits bfrom bto lim lan han n nc nob pac (dsJ P) 0 (bnF rz)) := by rw [hpE.1]; exact pos _ hpE.2 hj
    rcases Nat.le_total (dsJ P) (dsJ E) with y | y
    · have := rnG_st hpp (dsJ E - dsJ P)
      rw [show dsJ P + (dsJ E - dsJ P) = dsJ E by omega] at this
      rw [this, hpE.1] at hqE
      exact dn_inj (by omega) (by omega) hqE.1
    · have := rnG_st hqp (dsJ P - dsJ E)
      rw [show dsJ E + (dsJ P - dsJ E) = dsJ P by omega] at this
      rw [this, hqE.1] at hpE
      exact (dn_inj (by omega) (by omega) hpE.1).symm
  · refine Classical.byContradiction fun hlt => ?_
    have := rnG_st hqp (dsJ P - dsJ E)
    rw [show dsJ E + (dsJ P - dsJ E) = dsJ P by omega] at this
    rcases p1.2.2.2.2.1 with y | y
    · rw [this] at y
      rw [y.2.1] at hqp
      exact absurd hqp (by decide)
    · exact y.1 hp
end DFP
theorem mx_max {x y : Nat} (hx : x < 2 ^ 30) (hy : y < 2 ^ 30) : mx2 (dn x) (dn y) = dn (max x y) := by
  have hl : dn x ≤ dn y ↔ x ≤ y := by
    cases x with
    | zero =>
      refine ⟨fun _ => Nat.zero_le _, fun _ => ?_⟩
      cases y with
      | zero => exact Int32.le_refl _
      | succ y => exact Int32.le_trans (show (-1 : Int32) ≤ 0 by decide) (nI_pos' (by omega))
    | succ x =>
      cases y with
      | zero =>
        refine ⟨fun q => ?_, fun q => absurd q (by omega)⟩
        have : (0 : Int32) ≤ -1 := Int32.le_trans (nI_pos' (show x < 2 ^ 31 by omega)) q
        exact absurd this (by decide)
      | succ y => exact (nI_leI (by omega) (by omega)).trans (by omega)
  unfold mx2
  by_cases h : x ≤ y
  · rw [if_pos (hl.mpr h), Nat.max_eq_right h]
  · rw [if_neg (fun q => h (hl.mp q)), Nat.max_eq_left (by omega)]
/-- day by day, in both -/
theorem df_i {WH : Nat} {b : BS} (jP jQ M : Nat) (hM1 : jP ≤ M) (hM2 : jQ ≤ M) (hM3 : M = jP ∨ M = jQ) (hj1 : jP = dsJ (sdP 3000 b)) (hj2 : jQ = dsJ (sdQ 3000 b)) (hjP : jP ≤ 3001) (hjQ : jQ ≤ 3001) : ∀ (k i : Nat) (P Q : DS) (g : MM), IV WH b g → i + k = 3001 →
    ON (bDay b) (bUrg b) (bSzs b) (bWai b) (bFro b) (bBto b) (bRl b) (bRn b) (bRh b) (bN b) (bK b) 0 (bRp b) P → ON (bDay b) (bUrg b) (bSzs b) (bWai b) (bFro b) (bBto b) (bVl b) (bVn b) (bVh b) (bN b) (bK b) 0 (bVp b) Q → dsJ P ≤ i → dsJ Q ≤ i → (dsR P = 0 → dsJ P = i) → (dsR Q = 0 → dsJ Q = i) →
    (dfG b k i P Q).2.2 = (mdG (M - i) i g).2 ∧ IV WH b (mdG (M - i) i g).1 ∧
    ON (bDay b) (bUrg b) (bSzs b) (bWai b) (bFro b) (bBto b) (bRl b) (bRn b) (bRh b) (bN b) (bK b) 0 (bRp b) (dfG b k i P Q).1 ∧ ON (bDay b) (bUrg b) (bSzs b) (bWai b) (bFro b) (bBto b) (bVl b) (bVn b) (bVh b) (bN b) (bK b) 0 (bVp b) (dfG b k i P Q).2.1 ∧ dsJ (dfG b k i P Q).1 ≤ 3001 ∧ dsJ (dfG b k i P Q).2.1 ≤ 3001
  | 0, i, P, Q, g, h, hi, hP, hQ, h1, h2, h3, h4 => by
    rw [show M - i = 0 by omega]
    exact ⟨rfl, h, hP, hQ, by show dsJ P ≤ _; omega, by show dsJ Q ≤ _; omega⟩
  | k + 1, i, P, Q, g, h, hi, hP, hQ, h1, h2, h3, h4 => by
    have hr := h.2.2.1
    have hn := h.2.2.2.1
    obtain ⟨x1, x2, x3⟩ := ON_sd hr.1 (SR_hp hr) (Nat.le_refl 3000) hn.1
    obtain ⟨y1, y2, y3⟩ := ON_sd hr.1 (SR_hq hr h.2.1) (Nat.le_refl 3000) hn.2.1
    have rP := OT_rest (x1 _ _ _ (fun _ _ => ⟨rfl, rfl, rfl⟩)) x3
    have rQ := OT_rest (y1 _ _ _ (fun _ _ => ⟨rfl, rfl, rfl⟩)) y3
    obtain ⟨c1, c2⟩ := rest_cmp hP x1 rP (by omega) (by omega)
    obtain ⟨d1, d2⟩ := rest_cmp hQ y1 rQ (by omega) (by omega)
    have eP : dsJ (sdF (bDay b) (bUrg b) (bWai b) (bFro b) (bBto b) (bByd b) (bSzs b) (bRl b) (bRn b) (bRh b) (bN b) (bK b) 0 (bRp b) 3000 (bDP b)) = jP := hj1.symm
    have eQ : dsJ (sdF (bDay b) (bUrg b) (bWai b) (bFro b) (bBto b) (bByd b) (bSzs b) (bVl b) (bVn b) (bVh b) (bN b) (bK b) 0 (bVp b) 3000 (bDQ b)) = jQ := hj2.symm
    rw [eP] at c1 c2
    rw [eQ] at d1 d2
    by_cases hrest : ¬ dsR P = 0 ∧ ¬ dsR Q = 0
    · have := c1 hrest.1
      have := d1 hrest.2
      rw [dfG_r hrest, show M - i = 0 by omega]
      exact ⟨rfl, h, hP, hQ, by show dsJ P ≤ _; omega, by show dsJ Q ≤ _; omega⟩
    · have hlt : i < M := by
        by_cases hp : dsR P = 0
        · have := c2 hp
          have := h3 hp
          rcases hM3 with q | q <;> omega
        · by_cases hq : dsR Q = 0
          · have := d2 hq
            have := h4 hq
            omega
          · exact absurd ⟨hp, hq⟩ hrest
      obtain ⟨m, hm⟩ : ∃ m, M - i = m + 1 := ⟨M - i - 1, by omega⟩
      have hmm : m = M - (i + 1) := by omega
      have hi3 : i + 1 ≤ 3001 := by omega
      have hik : i + 1 + k = 3001 := by omega
      rw [hm]
      -- the day in both
      obtain ⟨s1, s2, s3⟩ := ON_sd (a := i) hr.1 (SR_hp hr) (by omega) hP
      obtain ⟨t1, t2, t3⟩ := ON_sd (a := i) hr.1 (SR_hq hr h.2.1) (by omega) hQ
      have esP : sdP i (seP P b) = sdF (bDay b) (bUrg b) (bWai b) (bFro b) (bBto b) (bByd b) (bSzs b) (bRl b) (bRn b) (bRh b) (bN b) (bK b) 0 (bRp b) i P := rfl
      have esQ : sdQ i (seQ Q b) = sdF (bDay b) (bUrg b) (bWai b) (bFro b) (bBto b) (bByd b) (bSzs b) (bVl b) (bVn b) (bVh b) (bN b) (bK b) 0 (bVp b) i Q := rfl
      rw [← esP] at s1 s2 s3
      rw [← esQ] at t1 t2 t3
      have hbP : IV WH (seP P b) g := IV_seP h hP (by omega)
      have hbQ : IV WH (seQ Q b) (ghv (gru false i g)) := IV_seQ (IV_g (g := g) h rfl rfl rfl rfl rfl rfl rfl) hQ (by omega)
      obtain ⟨u1, -⟩ := qu_at hbP false (a := i) (by omega)
      obtain ⟨v1, -⟩ := qu_at hbQ true (a := i) (by omega)
      have u1 : RDb (bDay b) (bWai b) (bN b) (bK b) (dsJ (sdP i (seP P b))) (sdP i (seP P b)) (gZ (gru false i g)) := u1
      have v1 : RDb (bDay b) (bWai b) (bN b) (bK b) (dsJ (sdQ i (seQ Q b))) (sdQ i (seQ Q b)) (gZ (gd1 i g)) := v1
      have hgd : IV WH b (gd1 i g) := IV_g (g := g) h rfl rfl rfl rfl rfl rfl rfl
      have hun : unP (sdP i (seP P b)) (sdQ i (seQ Q b)) (bN b) ↔ unQ (gd1 i g) := by
        have hN : bN b = gN g := h.1.2.1
        show (∃ c, c < bN b ∧ _) ↔ (∃ c, c < gN g ∧ (¬ tf (mP (gZ (gru false i g))) (gHp (gru false i g)) (gN g) c = mP (gZ (gd1 i g)) c ∨ ¬ tf (mL (gZ (gru false i g))) (gHq (gru false i g)) (gN g) c = mL (gZ (gd1 i g)) c))
        rw [← hN]
        refine exists_congr fun c => and_congr_right fun hc => ?_
        rw [tf_t hc, tf_t hc, an_P u1 hc, an_P v1 hc, an_L u1 hc, an_L v1 hc]
      by_cases hq : unP (sdP i (seP P b)) (sdQ i (seQ Q b)) (bN b)
      · rw [dfG_t hrest hq, mdG_t (hun.mp hq)]
        exact ⟨rfl, hgd, s1, t1, Nat.le_trans s2 hi3, Nat.le_trans t2 hi3⟩
      · rw [dfG_n hrest hq, mdG_n (fun y => hq (hun.mpr y)), hmm]
        exact df_i jP jQ M hM1 hM2 hM3 hj1 hj2 hjP hjQ k (i + 1) _ _ (gd1 i g) hgd hik s1 t1 s2 t2 s3 t3
theorem st_differ {WH : Nat} (hWH : WH = 100000) {b : BS} {g : MM} (h : IV WH b g) : (dfE b).2.2 = (mdE WH g).2 ∧ IV WH (dfF b) (mdE WH g).1 := by
  obtain ⟨p1, -, p3, p4⟩ := qu_end hWH h false
  have h1 : IV WH b (gru false WH g) := IV_gru h false WH
  obtain ⟨q1, -, q3, q4⟩ := qu_end hWH h1 true
  have hM : mdM WH g = max (dsJ (sdP 3000 b)) (dsJ (sdQ 3000 b)) := by
    have e1 : mE (gZ (gru false WH g)) = dn (dsJ (sdP 3000 b)) := by
      rcases p1.2.2.2.2.1 with y | y
      · exact absurd y.1 p3
      · exact y.2.1
    have e2 : mE (gZ (gru true WH (gru false WH g))) = dn (dsJ (sdQ 3000 b)) := by
      rcases q1.2.2.2.2.1 with y | y
      · exact absurd y.1 q3
      · exact y.2.1
    have p4 : dsJ (sdP 3000 b) ≤ 3001 := p4
    have q4 : dsJ (sdQ 3000 b) ≤ 3001 := q4
    unfold mdM
    rw [e1, e2, mx_max (by omega) (by omega), dn_1, nI_clamp (by omega), Nat.max_comm]
  have hr := h.2.2.1
  have h2 : IV WH b (gru true WH (gru false WH g)) := IV_gru h1 true WH
  obtain ⟨a1, a2, a3, a4, a5, a6⟩ := df_i (dsJ (sdP 3000 b)) (dsJ (sdQ 3000 b)) (max (dsJ (sdP 3000 b)) (dsJ (sdQ 3000 b))) (Nat.le_max_left _ _) (Nat.le_max_right _ _) ((Nat.le_total (dsJ (sdP 3000 b)) (dsJ (sdQ 3000 b))).elim (fun q => Or.inr (Nat.max_eq_right q)) (fun q => Or.inl (Nat.max_eq_left q))) rfl rfl p4 q4 3001 0 (rs1 (bDP b)) (rs1 (bDQ b)) _ h2 (by omega) (ON_rs hr.1 _) (ON_rs hr.1 _) (Nat.zero_le _) (Nat.zero_le _) (fun _ => rfl) (fun _ => rfl)
  rw [Nat.sub_zero, ← hM] at a1 a2
  refine ⟨a1, ?_⟩
  have h3 : IV WH b (mdE WH g).1 := a2
  exact IV_seQ (IV_seP h3 a3 a5) a4 a6
