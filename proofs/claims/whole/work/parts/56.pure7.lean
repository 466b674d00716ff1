/-! the pure part: the search -/
/-- a card's days so far -/
def wC (cday : XF) (D : DS) (c : Nat) : Nat := if csP (dsC D) c = -1 then 0 else if csD (dsC D) c = -1 then dsJ D - ix cday c else ix (csD (dsC D)) c - ix cday c + 1
def Wt (cday : XF) (n : Nat) (D : DS) : Nat := smN (wC cday D) n
def outZ (cday : XF) (n : Nat) (z : RS) : Int32 := if cnt (fun b => mP z b = 10) n = n then sumI (agM (mD z) cday) n else -1
theorem smN_ct {f g : Nat → Nat} {P : Nat → Prop} [DecidablePred P] : ∀ {n : Nat}, (∀ c, c < n → g c = f c + (if P c then 1 else 0)) → smN g n = smN f n + cnt P n
  | 0, _ => rfl
  | n + 1, h => by
    unfold smN cnt
    rw [smN_ct (n := n) (fun c hc => h c (by omega)), h n (by omega)]
    omega
theorem sumI_nI {f : XF} {w : Nat → Nat} : ∀ {n : Nat}, (∀ c, c < n → f c = nI (w c)) → sumI f n = nI (smN w n)
  | 0, _ => rfl
  | n + 1, h => by
    unfold sumI smN
    rw [sumI_nI (n := n) (fun c hc => h c (by omega)), h n (by omega), nI_add]
theorem cnt_all {P : Nat → Prop} [DecidablePred P] : ∀ {n : Nat}, cnt P n = n → ∀ c, c < n → P c
  | 0, _, c, hc => absurd hc (Nat.not_lt_zero c)
  | n + 1, h, c, hc => by
    have hl := cnt_le P n
    unfold cnt at h
    by_cases hp : P n
    · rw [if_pos hp] at h
      by_cases he : c = n
      · subst he; exact hp
      · exact cnt_all (n := n) (by omega) c (by omega)
    · rw [if_neg hp] at h; omega
section SRC
variable {cday urg waits bfrom bto byd szs lim lan han rl rn rh : XF} {n nc : Nat} {nob pac : Int32}
theorem wt_card {j c : Nat} {D D' : DS} {z z' : RS} (hj : j < 2 ^ 20) (hcd : ∃ e, e ≤ 99 ∧ cday c = nI e) (h : RDb cday waits n nc j D z) (h' : RDb cday waits n nc (j + 1) D' z') (hs : csD (dsC D') c = csD (dsC D) c ∨ (csD (dsC D) c = -1 ∧ csD (dsC D') c = nI j)) (hc : c < n) : wC cday D' c = wC cday D c + (if thP (csP (dsC D')) (csD (dsC D')) (dn (dsJ D')) c then 1 else 0) := by
  obtain ⟨e, he, hce⟩ := hcd
  have hix : ix cday c = e := by show (cday c).toNatClampNeg = e; rw [hce, nI_clamp (by omega)]
  have hp : csP (dsC D) c = -1 ↔ j ≤ e := by
    rw [an_P h hc]
    refine (h.1.2.1 c hc).2.2.2.trans ?_
    rw [hce, nI_ltI (by omega) (by omega)]
    omega
  have hp' : csP (dsC D') c = -1 ↔ j + 1 ≤ e := by
    rw [an_P h' hc]
    refine (h'.1.2.1 c hc).2.2.2.trans ?_
    rw [hce, nI_ltI (by omega) (by omega)]
    omega
  have hd := an_dv h hc
  rw [← an_P h hc, ← an_D h hc] at hd
  have hdn : dn (dsJ D') = nI j := by rw [h'.2.1]; rfl
  rw [hdn]
  unfold wC
  rw [hix, h.2.1, h'.2.1]
  show _ = _ + (if ¬ csP (dsC D') c = -1 ∧ ¬ (¬ csD (dsC D') c = -1 ∧ ¬ nI j ≤ csD (dsC D') c) then 1 else 0)
  by_cases h1 : j + 1 ≤ e
  · rw [if_pos (hp'.mpr h1), if_pos (hp.mpr (by omega)), if_neg (fun q => q.1 (hp'.mpr h1))]
  · have n1 : ¬ csP (dsC D') c = -1 := fun q => h1 (hp'.mp q)
    rw [if_neg n1]
    by_cases h2 : j ≤ e
    · have hej : e = j := by omega
      subst hej
      rw [if_pos (hp.mpr h2)]
      have hm : csD (dsC D) c = -1 := by
        rcases hd with q | q
        · rw [hp.mpr h2] at q; exact absurd q.1 (by decide)
        · exact q.2
      rcases hs with q | q
      · rw [q, hm, if_pos rfl, if_pos ⟨n1, fun y => y.1 rfl⟩]; omega
      · rw [q.2, if_neg (nI_nm1 (by omega)), if_pos ⟨n1, fun y => y.2 (Int32.le_refl _)⟩]
        show (csD (dsC D') c).toNatClampNeg - e + 1 = 0 + 1
        rw [q.2, nI_clamp (by omega)]; omega
    · rw [if_neg (fun q => h2 (hp.mp q))]
      rcases hd with ⟨_, d, q1, q2, _⟩ | ⟨_, q2⟩
      · have q3 : csD (dsC D') c = nI d := by
          rcases hs with q | q
          · rw [q, q2]
          · rw [q.1] at q2; exact absurd q2.symm (nI_nm1 (by omega))
        show (if csD (dsC D') c = -1 then _ else (csD (dsC D') c).toNatClampNeg - e + 1) = (if csD (dsC D) c = -1 then _ else (csD (dsC D) c).toNatClampNeg - e + 1) + _
        rw [q3, q2, if_neg (nI_nm1 (by omega)), if_neg (nI_nm1 (by omega)), if_neg (fun y => y.2 ⟨nI_nm1 (by omega), nI_ge q1 (by omega)⟩)]
      · rw [q2, if_pos rfl]
        rcases hs with q | q
        · rw [q, q2, if_pos rfl, if_pos ⟨n1, fun y => y.1 rfl⟩]; omega
        · rw [q.2, if_neg (nI_nm1 (by omega)), if_pos ⟨n1, fun y => y.2 (Int32.le_refl _)⟩]
          show (csD (dsC D') c).toNatClampNeg - e + 1 = j - e + 1
          rw [q.2, nI_clamp (by omega)]
theorem wt_le {j : Nat} {D : DS} {z : RS} (hn : n ≤ 16) (hj : j < 2 ^ 20) (h : RDb cday waits n nc j D z) : Wt cday n D ≤ 16 * j := by
  refine Nat.le_trans (smN_k (k := j) (fun c hc => ?_)) (Nat.mul_le_mul_right _ hn)
  have hd := an_dv h hc
  rw [← an_P h hc, ← an_D h hc] at hd
  unfold wC
  rw [h.2.1]
  split
  · omega
  · split
    · omega
    · rename_i hq
      rcases hd with ⟨_, d, q1, q2, _⟩ | ⟨_, q2⟩
      · show (csD (dsC D) c).toNatClampNeg - _ + 1 ≤ j
        rw [q2, nI_clamp (by omega)]; omega
      · exact absurd q2 hq
theorem out_D {j : Nat} {D : DS} {z : RS} (hcd : ∀ c, c < n → ∃ e, e ≤ 99 ∧ cday c = nI e) (hj : j < 2 ^ 20) (h : RDb cday waits n nc j D z) : outZ cday n z = if cnt (fun b => csP (dsC D) b = 10) n = n then nI (Wt cday n D) else -1 := by
  unfold outZ
  rw [an_c10 h]
  by_cases hq : cnt (fun b => mP z b = 10) n = n
  · rw [if_pos hq, if_pos hq]
    refine sumI_nI (fun c hc => ?_)
    have hp := cnt_all hq c hc
    have hd := an_dv h hc
    obtain ⟨e, he, hce⟩ := hcd c hc
    rcases hd with ⟨_, d, q1, q2, q3⟩ | ⟨q, _⟩
    · rw [hce] at q3
      have hed := (nI_leI (by omega) (by omega)).mp q3
      unfold agM wC
      show (if 0 ≤ mD z c then mD z c - cday c + 1 else -1) = nI (if csP (dsC D) c = -1 then 0 else if csD (dsC D) c = -1 then _ else (csD (dsC D) c).toNatClampNeg - (cday c).toNatClampNeg + 1)
      rw [an_P h hc, an_D h hc, hp, q2, hce, if_pos (nI_pos' (by omega)), if_neg (by decide), if_neg (nI_nm1 (by omega)), nI_clamp (by omega), nI_clamp (by omega), pk_sub hed, nI_1]
    · exact absurd hp q
  · rw [if_neg hq, if_neg hq]
theorem sb_run (hP : PV cday waits bfrom bto byd n nc) (hH : HV szs han n nc pac) (hl : ∀ k, k < nc → lim k = rl k ∧ lan k = rn k ∧ han k = rh k) {bound : Int32} : ∀ (k : Nat) (D : DS) (cd : Int32), OT cday urg szs waits bfrom bto rl rn rh n nc nob pac false D → dsJ D + k < 2 ^ 19 → cd = nI (Wt cday n D) →
    OT cday urg szs waits bfrom bto rl rn rh n nc nob pac false (sbG cday urg waits bfrom bto byd szs lim lan han n nc nob pac bound k D cd).1 ∧ dsJ (sbG cday urg waits bfrom bto byd szs lim lan han n nc nob pac bound k D cd).1 ≤ dsJ D + k ∧ Wt cday n D ≤ Wt cday n (sbG cday urg waits bfrom bto byd szs lim lan han n nc nob pac bound k D cd).1 ∧
    ((sbG cday urg waits bfrom bto byd szs lim lan han n nc nob pac bound k D cd).2 = false → (dsR (sbG cday urg waits bfrom bto byd szs lim lan han n nc nob pac bound k D cd).1 = 0 → dsJ (sbG cday urg waits bfrom bto byd szs lim lan han n nc nob pac bound k D cd).1 = dsJ D + k) ∧ (bound = -1 ∨ nI (Wt cday n (sbG cday urg waits bfrom bto byd szs lim lan han n nc nob pac bound k D cd).1) < bound ∨ (sbG cday urg waits bfrom bto byd szs lim lan han n nc nob pac bound k D cd).1 = D)) ∧
    ((sbG cday urg waits bfrom bto byd szs lim lan han n nc nob pac bound k D cd).2 = true → ¬ bound = -1 ∧ ¬ nI (Wt cday n (sbG cday urg waits bfrom bto byd szs lim lan han n nc nob pac bound k D cd).1) < bound)
  | 0, D, cd, h, _, _ => ⟨h, Nat.le_refl _, Nat.le_refl _, fun _ => ⟨fun _ => rfl, Or.inr (Or.inr rfl)⟩, fun q => absurd (show false = true from q) (by decide)⟩
  | k + 1, D, cd, h, hk, hcd => by
    by_cases hr : dsR D = 0
    · obtain ⟨_, g1, _⟩ := OT_st (lim := lim) (lan := lan) (byd := byd) hP hH hl h hr (by omega)
      have ej : dsJ (nd1 cday urg waits bfrom bto byd szs lim lan han n nc nob pac D) = dsJ D + 1 := rfl
      obtain ⟨k1, _⟩ := h.2 rz
      obtain ⟨k2, _⟩ := g1.2 rz
      rw [ej] at k2
      obtain ⟨_, _, _, k3⟩ := RD_nd (urg := urg) (szs := szs) (nob := nob) (pac := pac) (rl := rl) (rn := rn) (rh := rh) hP hl (by omega) k1 hr
      have hW : Wt cday n (nd1 cday urg waits bfrom bto byd szs lim lan han n nc nob pac D) = Wt cday n D + ctD n (nd1 cday urg waits bfrom bto byd szs lim lan han n nc nob pac D) := smN_ct (fun c hc => wt_card (by omega) (hP.2.2.1 c hc) k1 k2 (k3 c hc) hc)
      have hcd1 : cd + nI (ctD n (nd1 cday urg waits bfrom bto byd szs lim lan han n nc nob pac D)) = nI (Wt cday n (nd1 cday urg waits bfrom bto byd szs lim lan han n nc nob pac D)) := by rw [hcd, nI_add, hW]
      by_cases hs : ¬ bound = -1 ∧ ¬ cd + nI (ctD n (nd1 cday urg waits bfrom bto byd szs lim lan han n nc nob pac D)) < bound
      · rw [sbG_t _ _ _ _ _ _ _ _ _ _ _ _ _ _ _ hr hs.1 hs.2]
        refine ⟨g1, by rw [ej]; omega, by rw [hW]; omega, fun q => absurd (show true = false from q) (by decide), fun _ => ⟨hs.1, ?_⟩⟩
        rw [← hcd1]
        exact hs.2
      · have hs' : bound = -1 ∨ cd + nI (ctD n (nd1 cday urg waits bfrom bto byd szs lim lan han n nc nob pac D)) < bound := by
          by_cases hb : bound = -1
          · exact Or.inl hb
          · exact Or.inr (Classical.byContradiction fun q => hs ⟨hb, q⟩)
        rw [sbG_n _ _ _ _ _ _ _ _ _ _ _ _ _ _ _ hr hs']
        obtain ⟨a1, a2, a3, a4, a5⟩ := sb_run hP hH hl (bound := bound) k _ _ g1 (by rw [ej]; omega) hcd1
        refine ⟨a1, by rw [ej] at a2; omega, by rw [hW] at a3; omega, fun q => ⟨fun y => ?_, ?_⟩, a5⟩
        · have := (a4 q).1 y
          rw [ej] at this
          omega
        · rcases (a4 q).2 with y | y | y
          · exact Or.inl y
          · exact Or.inr (Or.inl y)
          · rw [y, ← hcd1]
            exact hs'.elim Or.inl (fun w => Or.inr (Or.inl w))
    · rw [sbG_r _ _ _ _ _ _ _ _ _ _ _ _ _ _ _ _ hr]
      exact ⟨h, by show dsJ D ≤ _; omega, Nat.le_refl _, fun _ => ⟨fun y => absurd y hr, Or.inr (Or.inr rfl)⟩, fun q => absurd (show false = true from q) (by decide)⟩
/-- a trial's answer is the reference's -/
theorem sb_out (hP : PV cday waits bfrom bto byd n nc) (hH : HV szs han n nc pac) (hl : ∀ k, k < nc → lim k = rl k ∧ lan k = rn k ∧ han k = rh k) {WH : Nat} (hWH : WH = 100000) (bound : Int32) (D0 : DS) (z0 : RS) :
    sbA cday n (sbE cday urg waits bfrom bto byd szs lim lan han n nc nob pac bound D0) = if ¬ outZ cday n (rnF cday urg szs waits bfrom bto rl rn rh n nc nob pac WH z0) = -1 ∧ (bound = -1 ∨ outZ cday n (rnF cday urg szs waits bfrom bto rl rn rh n nc nob pac WH z0) < bound) then outZ cday n (rnF cday urg szs waits bfrom bto rl rn rh n nc nob pac WH z0) else -1 := by
  have h0 : OT cday urg szs waits bfrom bto rl rn rh n nc nob pac false (rs1 D0) := OT_rs hP false D0
  have hW0 : (0 : Int32) = nI (Wt cday n (rs1 D0)) := by
    have : Wt cday n (rs1 D0) ≤ n * 0 := smN_k (fun c hc => by
      unfold wC
      rw [if_pos (show csP (dsC (rs1 D0)) c = -1 from fl_t (by have := hP.1; omega))]
      exact Nat.le_refl 0)
    have : Wt cday n (rs1 D0) = 0 := by omega
    rw [this]
    rfl
  obtain ⟨a1, a2, a3, a4, a5⟩ := sb_run (lim := lim) (lan := lan) (byd := byd) hP hH hl (bound := bound) 3001 (rs1 D0) 0 h0 (by show 0 + 3001 < _; omega) hW0
  unfold sbE
  generalize sbG cday urg waits bfrom bto byd szs lim lan han n nc nob pac bound 3001 (rs1 D0) 0 = E at *
  have hj0 : dsJ (rs1 D0) = 0 := rfl
  rw [hj0] at a2 a4
  cases hE : E.2 with
  | false =>
    obtain ⟨b1, b2⟩ := a4 hE
    have hr := OT_rest a1 (fun q => (b1 q).trans rfl)
    have hz := (OT_rn (a := WH) (Nat.le_of_eq hWH) a1 (by omega) (fun q => absurd q hr) z0).1
    have ho := out_D hP.2.2.1 (by omega) hz
    have hne : ¬ E.1 = rs1 D0 := fun q => hr (by rw [q]; rfl)
    have hbd : bound = -1 ∨ nI (Wt cday n E.1) < bound := by
      rcases b2 with y | y | y
      · exact Or.inl y
      · exact Or.inr y
      · exact absurd y hne
    unfold sbA
    rw [hE, if_neg (by decide)]
    rw [ho]
    by_cases hq : cnt (fun b => csP (dsC E.1) b = 10) n = n
    · rw [if_pos hq, if_pos hq]
      have hwl := wt_le hP.1 (by omega) hz
      rw [if_pos ⟨nI_nm1 (by omega), hbd⟩]
      have hq2 := hq
      rw [an_c10 hz] at hq2
      unfold outZ at ho
      rw [if_pos hq2, if_pos hq] at ho
      rw [← ho]
      exact sumI_cg fun c hc => an_ag hz (by omega) hc
    · rw [if_neg hq, if_neg hq, if_neg (fun y => y.1 rfl)]
  | true =>
    obtain ⟨b1, b2⟩ := a5 hE
    obtain ⟨c1, c2, c3, c4, c5⟩ := sb_run (lim := lim) (lan := lan) (byd := byd) hP hH hl (bound := -1) (3001 - dsJ E.1) E.1 (nI (Wt cday n E.1)) a1 (by omega) rfl
    generalize sbG cday urg waits bfrom bto byd szs lim lan han n nc nob pac (-1) (3001 - dsJ E.1) E.1 (nI (Wt cday n E.1)) = F at *
    have hF : F.2 = false := by
      cases hF : F.2 with
      | false => rfl
      | true => exact absurd rfl (c5 hF).1
    have hr := OT_rest c1 (fun q => by have := (c4 hF).1 q; omega)
    have hz := (OT_rn (a := WH) (Nat.le_of_eq hWH) c1 (by omega) (fun q => absurd q hr) z0).1
    have ho := out_D hP.2.2.1 (by omega) hz
    have hwl := wt_le hP.1 (by omega) hz
    unfold sbA
    rw [hE, if_pos rfl, ho]
    by_cases hq : cnt (fun b => csP (dsC F.1) b = 10) n = n
    · rw [if_pos hq, if_neg]
      rintro ⟨_, y | y⟩
      · exact b1 y
      · exact b2 (Int32.lt_of_le_of_lt (nI_le c3 (by omega)) y)
    · rw [if_neg hq, if_neg (fun y => y.1 rfl)]
/-- what a run to the end leaves hangs on the first columns' rules alone -/
theorem out_eq (hP : PV cday waits bfrom bto byd n nc) (hH : HV szs rh n nc pac) (hl : ∀ k, k < nc → rl k = lim k ∧ rn k = lan k ∧ rh k = han k) {WH : Nat} (hWH : WH = 100000) (z0 z1 : RS) : outZ cday n (rnF cday urg szs waits bfrom bto lim lan han n nc nob pac WH z1) = outZ cday n (rnF cday urg szs waits bfrom bto rl rn rh n nc nob pac WH z0) ∧ (outZ cday n (rnF cday urg szs waits bfrom bto rl rn rh n nc nob pac WH z0) = -1 ∨ ∃ w, w < 2 ^ 30 ∧ outZ cday n (rnF cday urg szs waits bfrom bto rl rn rh n nc nob pac WH z0) = nI w) ∧ (cnt (fun b => mP (rnF cday urg szs waits bfrom bto lim lan han n nc nob pac WH z1) b = 10) n = n → ¬ outZ cday n (rnF cday urg szs waits bfrom bto rl rn rh n nc nob pac WH z0) = -1) := by
  have h0 : ON cday urg szs waits bfrom bto rl rn rh n nc nob pac (rs1 dz) := ON_rs hP dz
  obtain ⟨a1, _, a3⟩ := ON_end hP hH (fun k hk => ⟨rfl, rfl, rfl⟩) hWH h0 z0
  obtain ⟨b1, _, _⟩ := ON_end hP hH hl hWH h0 z1
  have hJ := (ON_sd hP hH (Nat.le_refl 3000) h0).2.1
  have o1 := out_D hP.2.2.1 (by omega) a1
  have o2 := out_D hP.2.2.1 (by omega) b1
  have hwl := wt_le hP.1 (by omega) a1
  refine ⟨o2.trans o1.symm, ?_, fun hq => ?_⟩
  · rw [o1]
    split
    · exact Or.inr ⟨_, by omega, rfl⟩
    · exact Or.inl rfl
  · rw [← an_c10 b1] at hq
    rw [o1, if_pos hq]
    exact nI_nm1 (by omega)
end SRC
/-! limits as digits -/
def DG (m : Nat) : Nat → XF → Nat → Prop
  | 0, _, _ => True
  | j + 1, f, r => f j = nI (1 + r % m) ∧ DG m j f (r / m)
theorem DG_cg {m : Nat} : ∀ {j : Nat} {f g : XF} {r : Nat}, (∀ k, k < j → f k = g k) → DG m j f r → DG m j g r
  | 0, _, _, _, _, _ => trivial
  | j + 1, f, g, r, h, hd => ⟨(h j (by omega)).symm.trans hd.1, DG_cg (fun k hk => h k (by omega)) hd.2⟩
theorem DG_un {m : Nat} : ∀ {j : Nat} {f g : XF} {r : Nat}, DG m j f r → DG m j g r → ∀ k, k < j → f k = g k
  | 0, _, _, _, _, _, k, hk => absurd hk (Nat.not_lt_zero k)
  | j + 1, f, g, r, h1, h2, k, hk => by
    by_cases he : k = j
    · subst he; exact h1.1.trans h2.1.symm
    · exact DG_un h1.2 h2.2 k (by omega)
theorem dg_ge {m : Nat} : ∀ (j : Nat) (f : XF) (r k : Nat), j ≤ k → dgF m j f r k = f k
  | 0, _, _, _, _ => rfl
  | j + 1, f, r, k, hk => by
    unfold dgF
    rw [dg_ge j _ _ k (by omega), pk_un (by omega)]
theorem dg_DG {m : Nat} : ∀ (j : Nat) (f : XF) (r : Nat), DG m j (dgF m j f r) r
  | 0, _, _ => trivial
  | j + 1, f, r => by
    unfold dgF
    refine ⟨?_, dg_DG j _ _⟩
    rw [dg_ge j _ _ j (Nat.le_refl j), pk_us]
theorem gn_ge {m : Int32} : ∀ (j : Nat) (f : XF) (k : Nat), j ≤ k → gnF m f j k = f k
  | 0, _, _, _ => rfl
  | j + 1, f, k, hk => by
    unfold gnF
    split
    · rw [gn_ge j _ k (by omega), pk_un (by omega)]
    · rw [pk_un (by omega)]
theorem gn_DG {m : Nat} (h1 : 1 ≤ m) (h4 : m ≤ 4) : ∀ (j : Nat) (f : XF) (r : Nat), DG m j f r → DG m j (gnF (nI m) f j) (r + 1)
  | 0, _, _, _ => trivial
  | j + 1, f, r, h => by
    have hm : r % m < m := Nat.mod_lt _ (by omega)
    unfold gnF
    rw [h.1]
    by_cases hq : nI m ≤ nI (1 + r % m)
    · rw [if_pos hq]
      have hle := (nI_leI (by omega) (by omega)).mp hq
      have e : (r + 1) % m = 0 ∧ (r + 1) / m = r / m + 1 := by
        rcases (show m = 1 ∨ m = 2 ∨ m = 3 ∨ m = 4 by omega) with rfl | rfl | rfl | rfl <;> omega
      refine ⟨?_, ?_⟩
      · rw [gn_ge j _ j (Nat.le_refl j), pk_us, e.1]; rfl
      · rw [e.2]
        exact gn_DG h1 h4 j _ _ (DG_cg (fun k hk => (pk_un (by omega)).symm) h.2)
    · rw [if_neg hq]
      have hlt : ¬ m ≤ 1 + r % m := fun y => hq (nI_le y (by omega))
      have e : (r + 1) % m = r % m + 1 ∧ (r + 1) / m = r / m := by
        rcases (show m = 1 ∨ m = 2 ∨ m = 3 ∨ m = 4 by omega) with rfl | rfl | rfl | rfl <;> omega
      refine ⟨?_, ?_⟩
      · rw [pk_us, e.1, nI_1]
        congr 1
      · rw [e.2]
        exact DG_cg (fun k hk => (pk_un (by omega)).symm) h.2
theorem DG_1 {m : Nat} : ∀ (j : Nat) (f : XF), (∀ k, k < j → f k = 1) → DG m j f 0
  | 0, _, _ => trivial
  | j + 1, f, h => by
    refine ⟨?_, ?_⟩
    · rw [h j (by omega), Nat.zero_mod]; rfl
    · rw [Nat.zero_div]
      exact DG_1 j f (fun k hk => h k (by omega))
/-! the search's outcome, told once for class and reference -/
def OcW (b : BS) (WH m way : Nat) : Int32 := outZ (bDay b) (bN b) (rnF (bDay b) (bUrg b) (bSzs b) (bWai b) (bFro b) (bBto b) (dgF m (bK b) z0X way) (bRn b) (bRh b) (bN b) (bK b) 0 (bRp b) WH rz)
def BQ (b : BS) (WH m : Nat) : Nat → Int32 × Nat
  | 0 => (-1, 0)
  | i + 1 => if ¬ OcW b WH m i = -1 ∧ ((BQ b WH m i).1 = -1 ∨ OcW b WH m i < (BQ b WH m i).1) then (OcW b WH m i, i) else BQ b WH m i
def BOK (b : BS) (WH m i : Nat) (v : Int32) (L : XF) : Prop := v = (BQ b WH m i).1 ∧ (¬ v = -1 → ∀ k, k < bK b → L k = dgF m (bK b) z0X (BQ b WH m i).2 k)
theorem toR_s (x : Int32) : toR x x = x := by unfold toR; split <;> simp_all
theorem tf_t {f g : XF} {i k : Nat} (h : k < i) : tf f g i k = f k := if_pos h
theorem OcW_v {b : BS} (h : SR b) {WH : Nat} (hWH : WH = 100000) (m way : Nat) : OcW b WH m way = -1 ∨ ∃ w, w < 2 ^ 30 ∧ OcW b WH m way = nI w := (out_eq (lim := dgF m (bK b) z0X way) (lan := bRn b) (han := bRh b) h.1 (SR_hp h) (fun _ _ => ⟨rfl, rfl, rfl⟩) hWH rz rz).2.1
theorem BQ_v {b : BS} (h : SR b) {WH : Nat} (hWH : WH = 100000) (m : Nat) : ∀ i, (BQ b WH m i).1 = -1 ∨ ∃ w, w < 2 ^ 30 ∧ (BQ b WH m i).1 = nI w
  | 0 => Or.inl rfl
  | i + 1 => by
    unfold BQ
    split
    · exact OcW_v h hWH m i
    · exact BQ_v h hWH m i
/-- the class's search -/
theorem seS_i {b : BS} (h : SR b) {WH : Nat} (hWH : WH = 100000) {m : Nat} (h1 : 1 ≤ m) (h4 : m ≤ 4) (S0 : SS) (hT : ∀ k, k < bK b → ssT S0 k = 1) (hM : ssM S0 = -1) : ∀ i, DG m (bK b) (ssT (itN (fuB (bDay b) (bUrg b) (bWai b) (bFro b) (bBto b) (bByd b) (bSzs b) (tf (toF (bRn b) (bRn b)) (bXn b) 4) (tf (toF (bRh b) (bRh b)) (bXh b) 4) (bN b) (bK b) 0 (toR (bRp b) (bRp b)) (nI m)) S0 i)) i ∧ BOK b WH m i (ssM (itN (fuB (bDay b) (bUrg b) (bWai b) (bFro b) (bBto b) (bByd b) (bSzs b) (tf (toF (bRn b) (bRn b)) (bXn b) 4) (tf (toF (bRh b) (bRh b)) (bXh b) 4) (bN b) (bK b) 0 (toR (bRp b) (bRp b)) (nI m)) S0 i)) (ssL (itN (fuB (bDay b) (bUrg b) (bWai b) (bFro b) (bBto b) (bByd b) (bSzs b) (tf (toF (bRn b) (bRn b)) (bXn b) 4) (tf (toF (bRh b) (bRh b)) (bXh b) 4) (bN b) (bK b) 0 (toR (bRp b) (bRp b)) (nI m)) S0 i))
  | 0 => ⟨DG_1 _ _ hT, hM, fun q => absurd hM q⟩
  | i + 1 => by
    obtain ⟨g1, g2, g3⟩ := seS_i h hWH h1 h4 S0 hT hM i
    simp only [itN]
    generalize itN (fuB (bDay b) (bUrg b) (bWai b) (bFro b) (bBto b) (bByd b) (bSzs b) (tf (toF (bRn b) (bRn b)) (bXn b) 4) (tf (toF (bRh b) (bRh b)) (bXh b) 4) (bN b) (bK b) 0 (toR (bRp b) (bRp b)) (nI m)) S0 i = S at *
    have hk4 : bK b ≤ 4 := h.1.2.1
    have hag := DG_un g1 (dg_DG (m := m) (bK b) z0X i)
    have hl : ∀ k, k < bK b → ssT S k = dgF m (bK b) z0X i k ∧ (tf (toF (bRn b) (bRn b)) (bXn b) 4) k = bRn b k ∧ (tf (toF (bRh b) (bRh b)) (bXh b) 4) k = bRh b k := fun k hk => ⟨hag k hk, by rw [tf_t (by omega)]; exact toR_s _, by rw [tf_t (by omega)]; exact toR_s _⟩
    have hH : HV (bSzs b) (tf (toF (bRh b) (bRh b)) (bXh b) 4) (bN b) (bK b) (toR (bRp b) (bRp b)) := by
      obtain ⟨q1, q2, q3, q4⟩ := SR_hp h
      rw [toR_s]
      refine ⟨q1, q2, q3, fun k hk => ?_⟩
      rw [tf_t hk]
      show ∃ h, h < 2 ^ 30 ∧ toR (bRh b k) (bRh b k) = nI h
      rw [toR_s]
      exact q4 k hk
    have hA : sbA (bDay b) (bN b) (fuE (bDay b) (bUrg b) (bWai b) (bFro b) (bBto b) (bByd b) (bSzs b) (tf (toF (bRn b) (bRn b)) (bXn b) 4) (tf (toF (bRh b) (bRh b)) (bXh b) 4) (bN b) (bK b) 0 (toR (bRp b) (bRp b)) S) = if ¬ OcW b WH m i = -1 ∧ (ssM S = -1 ∨ OcW b WH m i < ssM S) then OcW b WH m i else -1 := by
      have := sb_out (urg := bUrg b) (nob := 0) h.1 hH hl hWH (ssM S) (ssD S) rz
      rw [toR_s] at this
      unfold fuE
      rw [toR_s]
      exact this
    unfold fuB
    rw [hA]
    rw [g2] at hA ⊢
    by_cases hq : ¬ OcW b WH m i = -1 ∧ ((BQ b WH m i).1 = -1 ∨ OcW b WH m i < (BQ b WH m i).1)
    · rw [if_pos hq, if_neg hq.1]
      have hB : BQ b WH m (i + 1) = (OcW b WH m i, i) := if_pos hq
      refine ⟨gn_DG h1 h4 _ _ _ g1, ?_⟩
      unfold BOK
      rw [hB]
      refine ⟨rfl, fun _ k hk => ?_⟩
      show va_cpy (ssT S) (ssL S) 0 0 4 k = _
      rw [pk_cpy_in (by omega) (by omega)]
      show ssT S (0 + (k - 0)) = _
      rw [Nat.zero_add, Nat.sub_zero]
      exact hag k hk
    · rw [if_neg hq, if_pos rfl]
      have hB : BQ b WH m (i + 1) = BQ b WH m i := if_neg hq
      refine ⟨gn_DG h1 h4 _ _ _ g1, ?_⟩
      unfold BOK
      rw [hB]
      exact ⟨rfl, fun y => g3 (by rw [g2]; exact y)⟩
/-- what is kept of a search, by the class -/
def SB (b : BS) (WH : Nat) : Prop := bFu b = -1 ∨ ∃ m, 1 ≤ m ∧ m ≤ 4 ∧ bFu b = nI m ∧ BOK b WH m (m ^ bK b) (bLs b) (bLL b)
theorem seS_ok {b : BS} (h : SR b) {WH : Nat} (hWH : WH = 100000) (hb : SB b WH) {m : Nat} (h1 : 1 ≤ m) (h4 : m ≤ 4) : BOK b WH m (m ^ bK b) (ssM (seS m b)) (ssL (seS m b)) := by
  unfold seS
  by_cases hq : bFu b = nI m
  · rw [if_pos hq]
    rcases hb with y | ⟨m', a1, a2, a3, a4⟩
    · exact absurd (hq.symm.trans y) (nI_nm1 (by omega))
    · have : m' = m := nI_inj (by omega) (by omega) (a3.symm.trans hq)
      subst this
      exact a4
  · rw [if_neg hq]
    exact (seS_i h hWH h1 h4 _ (fun k hk => by have := h.1.2.1; exact fl_t (by omega)) rfl (m ^ bK b)).2
/-- what is kept of a search, by the reference -/
def SBm (b : BS) (g : MM) (WH : Nat) : Prop := gFr g = 0 ∨ ∃ m, 1 ≤ m ∧ m ≤ 4 ∧ gBu g = nI m ∧ BOK b WH m (m ^ bK b) (gBs g) (gBo g)
theorem gk1_o {b : BS} {g : MM} (h : SR b) (he : SE b g) {WH : Nat} (hWH : WH = 100000) (m way : Nat) : outZ (gDay g) (gN g) (gZ (gk1 WH m way g)) = OcW b WH m way ∧ (cnt (fun b => mP (gZ (gk1 WH m way g)) b = 10) (gN g) = gN g → ¬ OcW b WH m way = -1) ∧ ∀ k, k < bK b → gRl (gk1 WH m way g) k = dgF m (bK b) z0X way k := by
  obtain ⟨e1, e2, e3, e4, e5, e6, e7, e8, e9, e10, e11, e12, e13, e14, e15, e16⟩ := he
  have hk4 : bK b ≤ 4 := h.1.2.1
  have hL : ∀ k, k < bK b → dgF m (gK g) (gRl (gby false g)) way k = dgF m (bK b) z0X way k := fun k hk => by
    rw [← e1]
    exact DG_un (dg_DG (m := m) (bK b) (gRl (gby false g)) way) (dg_DG (m := m) (bK b) z0X way) k hk
  have hz : gZ (gk1 WH m way g) = rnF (gDay g) (gUrg g) (gSzs g) (gWai g) (gFro g) (gBto g) (dgF m (gK g) (gRl (gby false g)) way) (gRn (gby false g)) (gRh (gby false g)) (gN g) (gK g) 0 (gLp g) WH (gZ g) := rfl
  rw [hz, ← e1, ← e2, ← e3, ← e4, ← e5, ← e6, ← e7, ← e8, ← e12]
  rw [← e1] at hL
  have hoe := out_eq (urg := bUrg b) (nob := 0) (lim := dgF m (bK b) (gRl (gby false g)) way) (lan := gRn (gby false g)) (han := gRh (gby false g)) (rl := dgF m (bK b) z0X way) (rn := bRn b) (rh := bRh b) h.1 (SR_hp h) (fun k hk => ⟨(hL k hk).symm, ?_, ?_⟩) hWH rz (gZ g)
  · exact ⟨hoe.1, hoe.2.2, fun k hk => by
      show dgF m (gK g) (gRl (gby false g)) way k = _
      rw [← e1]
      exact hL k hk⟩
  · show bRn b k = tf (goX false (gOn g) (gLn g)) (gRn g) 4 k
    rw [tf_t (by omega), e10]; rfl
  · show bRh b k = tf (goX false (gOh g) (gLh g)) (gRh g) 4 k
    rw [tf_t (by omega), e11]; rfl
theorem gsk_i {b : BS} {g : MM} (h : SR b) (he : SE b g) {WH : Nat} (hWH : WH = 100000) {m : Nat} (h1 : 1 ≤ m) (h4 : m ≤ 4) : ∀ i, SE b (itN (gk2 WH m) (gs0 m g) i) ∧ gFr (itN (gk2 WH m) (gs0 m g) i) = 1 ∧ gBu (itN (gk2 WH m) (gs0 m g) i) = nI m ∧ BOK b WH m i (gBs (itN (gk2 WH m) (gs0 m g) i)) (gBo (itN (gk2 WH m) (gs0 m g) i))
  | 0 => ⟨he, rfl, rfl, rfl, fun q => absurd rfl q⟩
  | i + 1 => by
    obtain ⟨a1, a2, a3, a4, a5⟩ := gsk_i h he hWH h1 h4 i
    simp only [itN]
    generalize itN (gk2 WH m) (gs0 m g) i = g1 at *
    obtain ⟨o1, o3, o2⟩ := gk1_o h a1 hWH m i
    have ov := OcW_v h hWH m i
    have bv := BQ_v h hWH m i
    have hsE : SE b (gk1 WH m i g1) := a1
    have cond : (cnt (fun b => mP (gZ (gk1 WH m i g1)) b = 10) (gN g1) = gN g1 ∧ (gBs g1 < 0 ∨ ¬ gBs g1 ≤ agsM (gk1 WH m i g1))) ↔ (¬ OcW b WH m i = -1 ∧ ((BQ b WH m i).1 = -1 ∨ OcW b WH m i < (BQ b WH m i).1)) := by
      have hags : agsM (gk1 WH m i g1) = sumI (agM (mD (gZ (gk1 WH m i g1))) (gDay g1)) (gN g1) := rfl
      unfold outZ at o1
      rw [hags, a4]
      by_cases hq : cnt (fun b => mP (gZ (gk1 WH m i g1)) b = 10) (gN g1) = gN g1
      · rw [if_pos hq] at o1
        rw [o1]
        -- all are done: the outcome is a sum
        have hne : ¬ OcW b WH m i = -1 := o3 hq
        refine ⟨fun y => ⟨hne, ?_⟩, fun y => ⟨hq, ?_⟩⟩
        · rcases y.2 with w | w
          · rcases bv with q | ⟨x, hx, q⟩
            · exact Or.inl q
            · rw [q] at w; exact absurd w (nI_pos (by omega))
          · exact Or.inr (i_nle.mp w)
        · rcases y.2 with w | w
          · left; rw [w]; decide
          · exact Or.inr (i_nle.mpr w)
      · rw [if_neg hq] at o1
        exact ⟨fun y => absurd y.1 hq, fun y => absurd o1.symm y.1⟩
    have hval : (cnt (fun b => mP (gZ (gk1 WH m i g1)) b = 10) (gN g1) = gN g1) → agsM (gk1 WH m i g1) = OcW b WH m i := fun hq => by
      unfold outZ at o1
      rw [if_pos hq] at o1
      exact o1
    unfold gk2
    by_cases hq : cnt (fun b => mP (gZ (gk1 WH m i g1)) b = 10) (gN g1) = gN g1 ∧ (gBs g1 < 0 ∨ ¬ gBs g1 ≤ agsM (gk1 WH m i g1))
    · rw [if_pos hq]
      have hB : BQ b WH m (i + 1) = (OcW b WH m i, i) := if_pos (cond.mp hq)
      refine ⟨hsE, a2, a3, ?_⟩
      unfold BOK
      rw [hB]
      refine ⟨hval hq.1, fun _ k hk => ?_⟩
      show tf (gRl (gk1 WH m i g1)) (gBo g1) (gK g1) k = _
      rw [← a1.1, tf_t hk]
      exact o2 k hk
    · rw [if_neg hq]
      have hB : BQ b WH m (i + 1) = BQ b WH m i := if_neg (fun y => hq (cond.mpr y))
      refine ⟨hsE, a2, a3, ?_⟩
      unfold BOK
      rw [hB]
      exact ⟨a4, a5⟩
theorem gsk_ok {b : BS} {g : MM} (h : SR b) (he : SE b g) {WH : Nat} (hWH : WH = 100000) (hb : SBm b g WH) {m : Nat} (h1 : 1 ≤ m) (h4 : m ≤ 4) : SE b (gsk WH m g) ∧ BOK b WH m (m ^ bK b) (gBs (gsk WH m g)) (gBo (gsk WH m g)) ∧ SBm b (gsk WH m g) WH := by
  unfold gsk
  by_cases hq : ¬ gFr g = 0 ∧ gBu g = nI m
  · rw [if_pos hq]
    refine ⟨he, ?_, hb⟩
    rcases hb with y | ⟨m', a1, a2, a3, a4⟩
    · exact absurd y hq.1
    · have : m' = m := nI_inj (by omega) (by omega) (a3.symm.trans hq.2)
      subst this
      exact a4
  · rw [if_neg hq]
    obtain ⟨a1, a2, a3, a4⟩ := gsk_i h he hWH h1 h4 (m ^ gK g)
    rw [← he.1] at a1 a2 a3 a4 ⊢
    exact ⟨a1, a4, Or.inr ⟨m, h1, h4, a3, a4⟩⟩
