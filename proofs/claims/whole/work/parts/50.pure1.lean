/-! the pure part: the class's day is the reference's: pulls -/
theorem i_irr (a : Int32) : ¬ a < a := by rw [Int32.lt_iff_toInt_lt]; omega
theorem i_nlt {a b : Int32} : ¬ a < b ↔ b ≤ a := Int32.not_lt
theorem i_nle {a b : Int32} : ¬ a ≤ b ↔ b < a := Int32.not_le
theorem i_asym {a b : Int32} (h : a < b) : ¬ b < a := by rw [Int32.lt_iff_toInt_lt] at h ⊢; omega
theorem i_ne {a b : Int32} (h : a < b) : ¬ a = b := fun q => i_irr b (q ▸ h)
theorem i_tr {a b c : Int32} (h : a < b) (h2 : b < c) : a < c := by rw [Int32.lt_iff_toInt_lt] at *; omega
theorem nI_inj {a b : Nat} (ha : a < 2 ^ 31) (hb : b < 2 ^ 31) (h : nI a = nI b) : a = b := (nI_eq ha hb).mp h
theorem nI_nm1 {a : Nat} (ha : a < 2 ^ 31) : ¬ nI a = -1 := fun q => nI_pos ha (by rw [q]; decide)
theorem nI_4 {k : Nat} (hk : k < 4) : ¬ nI k = 11 ∧ ¬ nI k = 10 ∧ ¬ nI k = -1 ∧ wiP (nI k) 0 3 := by
  rcases (show k = 0 ∨ k = 1 ∨ k = 2 ∨ k = 3 by omega) with rfl | rfl | rfl | rfl <;> decide
theorem cnt_cg {P P' : Nat → Prop} [DecidablePred P] [DecidablePred P'] : ∀ {n : Nat}, (∀ i, i < n → (P i ↔ P' i)) → cnt P n = cnt P' n
  | 0, _ => rfl
  | n + 1, h => by
    have ih := cnt_cg (n := n) (fun i hi => h i (by omega))
    unfold cnt
    rw [ih]
    by_cases hp : P n
    · rw [if_pos hp, if_pos ((h n (by omega)).mp hp)]
    · rw [if_neg hp, if_neg (fun q => hp ((h n (by omega)).mpr q))]
theorem pg_hole : ∀ (n p : Nat) (f : Nat → Nat), (∀ t, t < p → f t < n) → (∀ t t', t < t' → t' < p → ¬ f t = f t') → p ≤ n
  | 0, p, f, h, _ => by
    cases p with
    | zero => exact Nat.le_refl 0
    | succ p => exact absurd (h 0 (by omega)) (by omega)
  | n + 1, p, f, h, hd => by
    cases p with
    | zero => omega
    | succ p =>
      have h0 : p ≤ n := by
        refine pg_hole n p (fun t => if f t = n then f p else f t) ?_ ?_
        · intro t ht
          show (if f t = n then f p else f t) < n
          have h1 := h t (by omega)
          have h2 := h p (by omega)
          have h3 := hd t p ht (by omega)
          split <;> omega
        · intro t t' ht ht'
          show ¬ (if f t = n then f p else f t) = (if f t' = n then f p else f t')
          have h1 := hd t t' ht (by omega)
          have h2 := hd t p (by omega) (by omega)
          have h3 := hd t' p (by omega) (by omega)
          split <;> split <;> omega
      omega
theorem slN_b {P : Nat → Prop} [DecidablePred P] {Q : Nat → Nat → Prop} [∀ a b, Decidable (Q a b)] {n c : Nat} (hc : P c) (hb : ∀ b, b < n → P b → (b < c → Q c b) ∧ (c < b → ¬ Q b c)) : ∀ i, i ≤ n → c < i → slN P Q i = c + 1
  | 0, _, h => absurd h (Nat.not_lt_zero c)
  | i + 1, hi, h => by
    unfold slN
    by_cases he : c = i
    · subst he
      rw [if_pos]
      refine ⟨hc, ?_⟩
      have h1 := slN_le P Q c
      cases hy : slN P Q c with
      | zero => exact Or.inl rfl
      | succ y => exact Or.inr ((hb y (by omega) (slN_P P Q c y hy)).1 (by omega))
    · have ih := slN_b hc hb i (by omega) (by omega)
      rw [ih]
      by_cases hp : P i
      · rw [if_neg]
        intro q
        rcases q.2 with q | q
        · omega
        · exact (hb i (by omega) hp).2 (by omega) q
      · rw [if_neg (fun q => hp q.1)]
theorem slN_0 {P : Nat → Prop} [DecidablePred P] {Q : Nat → Nat → Prop} [∀ a b, Decidable (Q a b)] {n : Nat} (h : ∀ b, b < n → ¬ P b) : slN P Q n = 0 := by
  cases hy : slN P Q n with
  | zero => rfl
  | succ y => exact absurd (slN_P P Q n y hy) (h y (by have := slN_le P Q n; omega))
theorem nlF_spec (f : XF) (c : Nat) : ∀ i,
    (∀ t, t < (nlF f c i).2 → ∃ t0, t0 < i ∧ (nlF f c i).1 t = f t0 ∧ ¬ f t0 = nI c) ∧
    (∀ t0, t0 < i → ¬ f t0 = nI c → ∃ t, t < (nlF f c i).2 ∧ (nlF f c i).1 t = f t0) ∧
    (∀ t t', t < t' → t' < (nlF f c i).2 → ∃ t0 t1, t0 < t1 ∧ t1 < i ∧ (nlF f c i).1 t = f t0 ∧ (nlF f c i).1 t' = f t1) ∧
    (∀ t, i ≤ t → (nlF f c i).1 t = f t)
  | 0 => ⟨fun t h => absurd h (Nat.not_lt_zero t), fun t h => absurd h (Nat.not_lt_zero t), fun t t' _ h => absurd h (Nat.not_lt_zero t'), fun _ _ => rfl⟩
  | i + 1 => by
    obtain ⟨h1, h2, h3, h4⟩ := nlF_spec f c i
    have hle := nlF_le f c i
    have hi := h4 i (Nat.le_refl i)
    unfold nlF
    generalize nlF f c i = r at h1 h2 h3 h4 hle hi
    by_cases hq : r.1 i = nI c
    · rw [if_pos hq]
      refine ⟨?_, ?_, ?_, ?_⟩
      · intro t ht
        obtain ⟨t0, a, b⟩ := h1 t ht
        exact ⟨t0, by omega, b⟩
      · intro t0 ht hne
        by_cases he : t0 = i
        · subst he; exact absurd (hi ▸ hq) hne
        · exact h2 t0 (by omega) hne
      · intro t t' ht ht'
        obtain ⟨t0, t1, a, b, d⟩ := h3 t t' ht ht'
        exact ⟨t0, t1, a, by omega, d⟩
      · intro t ht; exact h4 t (by omega)
    · rw [if_neg hq]
      have hu : ∀ t, t < r.2 → upd r.1 r.2 (r.1 i) t = r.1 t := fun t ht => pk_un (by omega)
      have hs : upd r.1 r.2 (r.1 i) r.2 = f i := by rw [pk_us]; exact hi
      refine ⟨?_, ?_, ?_, ?_⟩
      · intro t ht
        show ∃ t0, t0 < i + 1 ∧ upd r.1 r.2 (r.1 i) t = f t0 ∧ ¬ f t0 = nI c
        have ht : t < r.2 + 1 := ht
        by_cases he : t = r.2
        · subst he; exact ⟨i, by omega, hs, fun q => hq (hi.trans q)⟩
        · obtain ⟨t0, a, b, d⟩ := h1 t (by omega)
          exact ⟨t0, by omega, (hu t (by omega)).trans b, d⟩
      · intro t0 ht hne
        show ∃ t, t < r.2 + 1 ∧ upd r.1 r.2 (r.1 i) t = f t0
        by_cases he : t0 = i
        · subst he; exact ⟨r.2, by omega, hs⟩
        · obtain ⟨t, a, b⟩ := h2 t0 (by omega) hne
          exact ⟨t, by omega, (hu t a).trans b⟩
      · intro t t' ht ht'
        show ∃ t0 t1, t0 < t1 ∧ t1 < i + 1 ∧ upd r.1 r.2 (r.1 i) t = f t0 ∧ upd r.1 r.2 (r.1 i) t' = f t1
        have ht' : t' < r.2 + 1 := ht'
        by_cases he : t' = r.2
        · subst he
          obtain ⟨t0, a, b, d⟩ := h1 t ht
          exact ⟨t0, i, a, by omega, (hu t ht).trans b, hs⟩
        · obtain ⟨t0, t1, a, b, d, e⟩ := h3 t t' ht (by omega)
          exact ⟨t0, t1, a, by omega, (hu t (by omega)).trans d, (hu t' (by omega)).trans e⟩
      · intro t ht
        show upd r.1 r.2 (r.1 i) t = f t
        rw [pk_un (by omega)]
        exact h4 t (by omega)
/-- what the class calls next, of the reference's cells -/
def nxv (z : RS) (c : Nat) : Int32 := if mP z c = 11 then 0 else if wiP (mP z c) 0 3 ∧ ¬ mT z c = 0 then mN z c else -1
/-- a card in both -/
def CR (s : CS) (z : RS) (c : Nat) : Prop := csP s c = mP z c ∧ csL s c = mL z c ∧ csD s c = mD z c ∧ csB s c = mB z c ∧ csW s c = mW z c ∧ csN s c = nxv z c
def VP (nc : Nat) (z : RS) (c : Nat) : Prop := mP z c = -1 ∨ mP z c = 11 ∨ mP z c = 10 ∨ ∃ k, k < nc ∧ mP z c = nI k
def VN (nc : Nat) (z : RS) (c : Nat) : Prop := ¬ mT z c = 0 → (∃ k, k < nc ∧ mP z c = nI k) → ∃ q, q < nc ∧ mN z c = nI q
def VD (cday : XF) (a : Nat) (z : RS) (c : Nat) : Prop := (mP z c = 10 ∧ ∃ d, d < a ∧ mD z c = nI d ∧ cday c ≤ nI d) ∨ (¬ mP z c = 10 ∧ mD z c = -1)
def VC (cday : XF) (b : Nat) (z : RS) (c : Nat) : Prop := mP z c = -1 ↔ ¬ cday c < nI b
def VJ (cday : XF) (nc a b : Nat) (z : RS) (c : Nat) : Prop := VP nc z c ∧ VN nc z c ∧ VD cday a z c ∧ VC cday b z c
/-- the row of the pulled cards, by the reference's pulledAs -/
def RWs (n : Nat) (s : CS) (z : RS) : Prop :=
  csC s ≤ 16 ∧ (∀ t, t < csC s → ∃ c, c < n ∧ csU s t = nI c ∧ ∃ p, p < mK z ∧ mX z c = nI p) ∧
  (∀ t t', t < t' → t' < csC s → mX z (ix (csU s) t) < mX z (ix (csU s) t')) ∧
  (∀ c, c < n → (∃ k, k < 4 ∧ mP z c = nI k) → ∃ t, t < csC s ∧ csU s t = nI c)
def DR (cday : XF) (n nc a e : Nat) (s : CS) (z : RS) : Prop := (∀ c, c < n → CR s z c) ∧ (∀ c, c < n → VJ cday nc a e z c) ∧ RWs n s z ∧ csA s = mV z
section PUR
variable {cday urg waits byd szs lim lan rl rn : XF} {n nc : Nat} {nob : Int32}
theorem RW_pu {k c : Nat} {s : CS} {z : RS} (hn : n ≤ 16) (hK : mK z < 2 ^ 30) (hc : c < n) (h : RWs n s z) : RWs n (puF szs k s c) (plO szs k z c) := by
  obtain ⟨h1, h2, h3, h4⟩ := h
  obtain ⟨a1, a2, a3, a4⟩ := nlF_spec (csU s) c (csC s)
  have hle := nlF_le (csU s) c (csC s)
  have hU : csU (puF szs k s c) = nl1 (csU s) c (csC s) := rfl
  have hC : csC (puF szs k s c) = nl2 (csU s) c (csC s) := rfl
  have eX : mX (plO szs k z c) = upd (mX z) c (nI (mK z)) := rfl
  have eK : mK (plO szs k z c) = mK z + 1 := rfl
  have eP : mP (plO szs k z c) = upd (mP z) c (nI k) := rfl
  unfold nl1 at hU
  unfold nl2 at hC
  generalize nlF (csU s) c (csC s) = r at a1 a2 a3 a4 hle hU hC
  have b1 : ∀ t, t < r.2 → ∃ c0, c0 < n ∧ ¬ c0 = c ∧ r.1 t = nI c0 ∧ ∃ p, p < mK z ∧ mX z c0 = nI p := by
    intro t ht
    obtain ⟨t0, g1, g2, g3⟩ := a1 t ht
    obtain ⟨c0, e1, e2, e3⟩ := h2 t0 (by omega)
    exact ⟨c0, e1, fun q => g3 (by rw [e2, q]), by rw [g2, e2], e3⟩
  have b3 : ∀ t t', t < t' → t' < r.2 → mX z (ix r.1 t) < mX z (ix r.1 t') := by
    intro t t' ht ht'
    obtain ⟨t0, t1, g1, g2, g3, g4⟩ := a3 t t' ht ht'
    show mX z (r.1 t).toNatClampNeg < mX z (r.1 t').toNatClampNeg
    rw [g3, g4]
    exact h3 t0 t1 g1 (by omega)
  have hr : r.2 + 1 ≤ n := by
    refine pg_hole n (r.2 + 1) (fun t => if t < r.2 then ix r.1 t else c) ?_ ?_
    · intro t ht
      show (if t < r.2 then ix r.1 t else c) < n
      split
      · rename_i hq
        obtain ⟨c0, e1, e2, e3, e4⟩ := b1 t hq
        show (r.1 t).toNatClampNeg < n
        rw [e3, nI_clamp (by omega)]; exact e1
      · exact hc
    · intro t t' ht ht'
      show ¬ (if t < r.2 then ix r.1 t else c) = (if t' < r.2 then ix r.1 t' else c)
      rw [if_pos (show t < r.2 by omega)]
      split
      · rename_i hq
        intro he
        have := b3 t t' ht hq
        rw [he] at this
        exact i_irr _ this
      · obtain ⟨c0, e1, e2, e3, e4⟩ := b1 t (by omega)
        show ¬ (r.1 t).toNatClampNeg = c
        rw [e3, nI_clamp (by omega)]; exact e2
  have hlt : r.2 < 16 := by omega
  rw [if_pos hlt] at hU hC
  unfold RWs
  rw [hU, hC, eX, eK, eP]
  have hu : ∀ t, t < r.2 → upd r.1 r.2 (nI c) t = r.1 t := fun t ht => pk_un (by omega)
  refine ⟨by omega, ?_, ?_, ?_⟩
  · intro t ht
    by_cases he : t = r.2
    · subst he
      exact ⟨c, hc, pk_us, mK z, by omega, pk_us⟩
    · obtain ⟨c0, e1, e2, e3, p, e4, e5⟩ := b1 t (by omega)
      exact ⟨c0, e1, (hu t (by omega)).trans e3, p, by omega, (pk_un e2).trans e5⟩
  · intro t t' ht ht'
    show upd (mX z) c (nI (mK z)) (upd r.1 r.2 (nI c) t).toNatClampNeg < upd (mX z) c (nI (mK z)) (upd r.1 r.2 (nI c) t').toNatClampNeg
    obtain ⟨c0, e1, e2, e3, p, e4, e5⟩ := b1 t (by omega)
    rw [hu t (by omega), e3, nI_clamp (by omega), pk_un e2]
    by_cases he : t' = r.2
    · subst he
      rw [pk_us, nI_clamp (by omega), pk_us, e5]
      exact nI_lt e4 (by omega)
    · have hb := b3 t t' ht (by omega)
      obtain ⟨c1, f1, f2, f3, q, f4, f5⟩ := b1 t' (by omega)
      rw [hu t' (by omega), f3, nI_clamp (by omega), pk_un f2]
      have hb : mX z (r.1 t).toNatClampNeg < mX z (r.1 t').toNatClampNeg := hb
      rw [e3, f3, nI_clamp (by omega), nI_clamp (by omega)] at hb
      exact hb
  · intro b hb hk
    by_cases he : b = c
    · subst he; exact ⟨r.2, by omega, pk_us⟩
    · rw [pk_un he] at hk
      obtain ⟨t0, g1, g2⟩ := h4 b hb hk
      obtain ⟨t, g3, g4⟩ := a2 t0 g1 (by rw [g2]; exact fun q => he (nI_inj (by omega) (by omega) q))
      exact ⟨t, by omega, by rw [hu t g3, g4, g2]⟩
theorem CR_pu {k c b : Nat} {s : CS} {z : RS} (hk : k < 4) (h : CR s z b) : CR (puF szs k s c) (plO szs k z c) b := by
  obtain ⟨h1, h2, h3, h4, h5, h6⟩ := h
  by_cases hb : b = c
  · subst hb
    refine ⟨?_, ?_, h3, h4, h5, ?_⟩
    · show upd (csP s) b (nI k) b = upd (mP z) b (nI k) b
      rw [pk_us, pk_us]
    · show upd (csL s) b (szs (b * 4 + k)) b = upd (mL z) b (szs (4 * b + k)) b
      rw [pk_us, pk_us, Nat.mul_comm]
    · show upd (csN s) b (-1) b = nxv (plO szs k z b) b
      unfold nxv
      rw [show mP (plO szs k z b) b = nI k from pk_us, show mT (plO szs k z b) b = 0 from pk_us, pk_us, if_neg (nI_4 hk).1, if_neg (fun q => q.2 rfl)]
  · refine ⟨?_, ?_, h3, h4, h5, ?_⟩
    · show upd (csP s) c (nI k) b = upd (mP z) c (nI k) b
      rw [pk_un hb, pk_un hb]; exact h1
    · show upd (csL s) c (szs (c * 4 + k)) b = upd (mL z) c (szs (4 * c + k)) b
      rw [pk_un hb, pk_un hb]; exact h2
    · show upd (csN s) c (-1) b = nxv (plO szs k z c) b
      rw [pk_un hb, h6]
      unfold nxv
      rw [show mP (plO szs k z c) b = mP z b from pk_un hb, show mT (plO szs k z c) b = mT z b from pk_un hb]
      rfl
theorem VJ_pu {a e k c b : Nat} {z : RS} (hk : k < nc) (h4 : nc ≤ 4) (hp : ¬ mP z c = -1 ∧ ¬ mP z c = 10) (h : VJ cday nc a e z b) : VJ cday nc a e (plO szs k z c) b := by
  obtain ⟨h1, h2, h3, h5⟩ := h
  by_cases hb : b = c
  · subst hb
    have eP : mP (plO szs k z b) b = nI k := pk_us
    have eT : mT (plO szs k z b) b = 0 := pk_us
    refine ⟨Or.inr (Or.inr (Or.inr ⟨k, hk, eP⟩)), fun q => absurd eT q, Or.inr ⟨?_, ?_⟩, ?_⟩
    · rw [eP]; exact (nI_4 (by omega)).2.1
    · rcases h3 with q | q
      · exact absurd q.1 hp.2
      · exact q.2
    · unfold VC at h5 ⊢
      rw [eP]
      exact ⟨fun q => absurd q (nI_4 (by omega)).2.2.1, fun q => absurd (h5.mpr q) hp.1⟩
  · have eP : mP (plO szs k z c) b = mP z b := pk_un hb
    have eT : mT (plO szs k z c) b = mT z b := pk_un hb
    have eN : mN (plO szs k z c) b = mN z b := rfl
    have eD : mD (plO szs k z c) b = mD z b := rfl
    unfold VJ VP VN VD VC at *
    rw [eP, eT, eN, eD]
    exact ⟨h1, h2, h3, h5⟩
theorem wt_iff {P D D' : XF} {j c : Nat} (hn : n ≤ 16) (hj : j < 2 ^ 30) (hw : waits c = -1 ∨ ∃ w, w < n ∧ waits c = nI w) (hd : ∀ w, w < n → (D' w = -1 ∧ (D w = -1 ∨ D w = nI j)) ∨ ∃ d, d < j ∧ D w = nI d ∧ D' w = nI d) : wtP P D waits n (nI j) c ↔ P c = 11 ∧ mwP D' waits c := by
  refine and_congr Iff.rfl ?_
  show ((¬ waits c < 0 ∧ ¬ nI n ≤ waits c) ∧ ¬ (¬ D (waits c).toNatClampNeg = -1 ∧ ¬ nI j ≤ D (waits c).toNatClampNeg)) ↔ (¬ waits c < 0 ∧ ¬ 0 ≤ D' (waits c).toNatClampNeg)
  rcases hw with hw | ⟨w, hwn, hw⟩
  · rw [hw]
    exact ⟨fun q => absurd (by decide) q.1.1, fun q => absurd (by decide) q.1⟩
  · rw [hw, nI_clamp (by omega)]
    have p1 : ¬ nI w < 0 := nI_pos (by omega)
    have p2 : ¬ nI n ≤ nI w := nI_ge hwn (by omega)
    rcases hd w hwn with ⟨q1, q2 | q2⟩ | ⟨d, q1, q2, q3⟩
    · rw [q1, q2]
      exact ⟨fun _ => ⟨p1, by decide⟩, fun _ => ⟨⟨p1, p2⟩, fun z => z.1 rfl⟩⟩
    · rw [q1, q2]
      exact ⟨fun _ => ⟨p1, by decide⟩, fun _ => ⟨⟨p1, p2⟩, fun z => z.2 (Int32.le_refl _)⟩⟩
    · rw [q2, q3]
      exact ⟨fun z => absurd ⟨nI_nm1 (by omega), nI_ge q1 (by omega)⟩ z.2, fun z => absurd (nI_pos' (by omega)) z.2⟩
theorem rd_iff {j e k c : Nat} {s : CS} {z : RS} (hn : n ≤ 16) (hj : j < 2 ^ 30) (hk : k < 4) (h4 : nc ≤ 4) (hcr : ∀ b, b < n → CR s z b) (hv : ∀ b, b < n → VJ cday nc j e z b) (hw : waits c = -1 ∨ ∃ w, w < n ∧ waits c = nI w) (hc : c < n) : (csN s c = nI k ∧ ¬ wtP (csP s) (csD s) waits n (nI j) c) ↔ rdP waits (mP z) (mT z) (mN z) (mD z) k c := by
  have hwt : wtP (csP s) (csD s) waits n (nI j) c ↔ csP s c = 11 ∧ mwP (mD z) waits c := by
    refine wt_iff hn hj hw (fun w hwn => ?_)
    rw [(hcr w hwn).2.2.1]
    rcases (hv w hwn).2.2.1 with ⟨_, d, q1, q2, _⟩ | q
    · exact Or.inr ⟨d, q1, q2, q2⟩
    · exact Or.inl ⟨q.2, Or.inl q.2⟩
  obtain ⟨e1, e2, e3, e4, e5, e6⟩ := hcr c hc
  rw [hwt, e6, e1]
  unfold nxv
  by_cases h11 : mP z c = 11
  · rw [if_pos h11]
    constructor
    · intro q; exact Or.inl ⟨h11, q.1.symm, fun y => q.2 ⟨h11, y⟩⟩
    · intro q
      rcases q with q | q
      · exact ⟨q.2.1.symm, fun y => q.2.2 y.2⟩
      · exact absurd h11 q.1
  · rw [if_neg h11]
    constructor
    · intro q
      by_cases hq : wiP (mP z c) 0 3 ∧ ¬ mT z c = 0
      · rw [if_pos hq] at q
        exact Or.inr ⟨h11, hq.1, hq.2, q.1⟩
      · rw [if_neg hq] at q
        exact absurd q.1.symm (nI_4 hk).2.2.1
    · intro q
      rcases q with q | q
      · exact absurd q.1 h11
      · rw [if_pos ⟨q.2.1, q.2.2.1⟩]
        exact ⟨q.2.2.2, fun y => h11 y.1⟩
theorem rd_pl {k c b : Nat} {z : RS} (hk : k < 4) (h : rdP waits (mP (plO szs k z c)) (mT (plO szs k z c)) (mN (plO szs k z c)) (mD (plO szs k z c)) k b) : ¬ b = c ∧ rdP waits (mP z) (mT z) (mN z) (mD z) k b := by
  by_cases hb : b = c
  · subst hb
    have eP : mP (plO szs k z b) b = nI k := pk_us
    have eT : mT (plO szs k z b) b = 0 := pk_us
    rcases h with q | q
    · rw [eP] at q; exact absurd q.1 (nI_4 hk).1
    · exact absurd eT q.2.2.1
  · have eP : mP (plO szs k z c) b = mP z b := pk_un hb
    have eT : mT (plO szs k z c) b = mT z b := pk_un hb
    refine ⟨hb, ?_⟩
    unfold rdP at h ⊢
    rw [eP, eT] at h
    exact h
theorem dec_u {P : Prop} [Decidable P] {u : Bool} (h : P ↔ u = true) : decide P = u := by
  cases u
  · exact decide_eq_false (fun q => absurd (h.mp q) (by decide))
  · exact decide_eq_true (h.mpr rfl)
theorem ca_u {k c : Nat} {u : Bool} (h : urgP urg nob c ↔ u = true) : caI urg rl rn nob k c = (if u = true then rn k else rl k) := by
  unfold caI
  cases u
  · rw [if_neg (fun q => absurd (h.mp q) (by decide)), if_neg (by decide)]
  · rw [if_pos (h.mpr rfl), if_pos rfl]
/-- the row of the cards by the days of coming, then by numbers -/
def BYD (cday byd : XF) (n : Nat) : Prop := (∀ t, t < n → vp_in (byd t) n) ∧ (∀ c, c < n → ∃ t, t < n ∧ ix byd t = c) ∧ (∀ t t', t < t' → t' < n → cday (ix byd t) < cday (ix byd t') ∨ (cday (ix byd t) = cday (ix byd t') ∧ ix byd t < ix byd t'))
abbrev mgz (urg waits rl rn : XF) (n : Nat) (nob : Int32) (k : Nat) (z : RS) (c : Nat) : Prop := mgP urg waits rl rn n nob (mP z) (mT z) (mN z) (mD z) k c
theorem puM_1 {k f c : Nat} {z : RS} (h : seL cday urg waits rl rn n nob k z = c + 1) : puM cday urg szs waits rl rn n nob k (f + 1) z = puM cday urg szs waits rl rn n nob k f (plO szs k z c) := by
  rw [puM, h]; rfl
theorem puM_0 {k f : Nat} {z : RS} (h : seL cday urg waits rl rn n nob k z = 0) : puM cday urg szs waits rl rn n nob k f z = z := by
  cases f with
  | zero => rfl
  | succ f => rw [puM, h]; rfl
theorem pi_stage {j e k : Nat} (u : Bool) {most : Int32} (hn : n ≤ 16) (hj : j < 2 ^ 30) (hk : k < nc) (h4 : nc ≤ 4) (hby : BYD cday byd n) (hw : ∀ c, c < n → waits c = -1 ∨ ∃ w, w < n ∧ waits c = nI w) (hm : most = if u = true then rn k else rl k) :
    ∀ (r i : Nat) (s : CS) (z : RS) (f : Nat), i + r = n → DR cday n nc j e s z → mK z + f < 2 ^ 30 → rdC waits n k z ≤ f →
      (∀ t, t < i → ¬ (rdP waits (mP z) (mT z) (mN z) (mD z) k (ix byd t) ∧ (urgP urg nob (ix byd t) ↔ u = true))) →
      (u = false → ∀ c, c < n → urgP urg nob c → ¬ mgz urg waits rl rn n nob k z c) →
      ∃ (z' : RS) (f' : Nat), DR cday n nc j e (piF urg waits byd szs n nob (nI j) k u most r i s) z' ∧ mK z' + f' ≤ mK z + f ∧ rdC waits n k z' ≤ f' ∧
        puM cday urg szs waits rl rn n nob k f z = puM cday urg szs waits rl rn n nob k f' z' ∧
        (∀ c, c < n → (urgP urg nob c ↔ u = true) → ¬ mgz urg waits rl rn n nob k z' c) ∧ (u = false → ∀ c, c < n → urgP urg nob c → ¬ mgz urg waits rl rn n nob k z' c)
  | 0, i, s, z, f, hi, hD, hK, hr, hb, hu => by
    refine ⟨z, f, hD, Nat.le_refl _, hr, rfl, ?_, hu⟩
    intro c hc hcu hm
    obtain ⟨t, ht, rfl⟩ := hby.2.1 c hc
    exact hb t (by omega) ⟨hm.1, hcu⟩
  | r + 1, i, s, z, f, hi, hD, hK, hr, hb, hu => by
    obtain ⟨hcr, hv, hrw, hA⟩ := hD
    have hc : ix byd i < n := vp_lt (hby.1 i (by omega))
    have hrd := rd_iff (cday := cday) (k := k) (e := e) hn hj (by omega) h4 hcr hv (hw (ix byd i) hc) hc
    have hcn : ∀ v : Bool, cnt (fun b => ciP urg nob v k (csP s) b) n = cnt (fun b => ciP urg nob v k (mP z) b) n := fun v => cnt_cg (fun b hb => by
      show (csP s b = nI k ∧ _) ↔ (mP z b = nI k ∧ _)
      rw [(hcr b hb).1])
    rw [piF_s]
    by_cases hq : csN s (ix byd i) = nI k ∧ (urgP urg nob (ix byd i) ↔ u = true) ∧ ¬ wtP (csP s) (csD s) waits n (nI j) (ix byd i)
    · rw [if_pos hq]
      have hrz := hrd.mp ⟨hq.1, hq.2.2⟩
      by_cases hroom : nI (cnt (fun b => ciP urg nob u k (csP s) b) n) < most
      · rw [if_pos hroom]
        generalize hcc : ix byd i = c at *
        have hmg : mgz urg waits rl rn n nob k z c := by
          refine ⟨hrz, ?_⟩
          rw [ca_u hq.2.1, dec_u hq.2.1, ← hm, ← hcn]
          exact i_nle.mpr hroom
        have hse : seL cday urg waits rl rn n nob k z = c + 1 := by
          refine slN_b (n := n) hmg (fun b hb' hP => ?_) n (Nat.le_refl n) hc
          by_cases hbc : b = c
          · subst hbc; exact ⟨fun q => absurd q (Nat.lt_irrefl _), fun q => absurd q (Nat.lt_irrefl _)⟩
          obtain ⟨t, ht, hbt⟩ := hby.2.1 b hb'
          by_cases hub : urgP urg nob b ↔ u = true
          · have hti : i < t := by
              rcases Nat.lt_trichotomy t i with q | q | q
              · exact (hb t q (by rw [hbt]; exact ⟨hP.1, hub⟩)).elim
              · subst q; exact absurd (hbt.symm.trans hcc) hbc
              · exact q
            have hs := hby.2.2 i t hti ht
            rw [hbt, hcc] at hs
            have hcb : urgP urg nob c ↔ urgP urg nob b := hq.2.1.trans hub.symm
            refine ⟨fun q => Or.inr ⟨hcb, ?_⟩, fun q y => ?_⟩
            · rcases hs with hs | hs
              · exact i_nle.mpr hs
              · omega
            · rcases y with y | y
              · exact y.1 hcb.symm
              · have y2 := i_nle.mp y.2
                rcases hs with hs | hs
                · exact i_asym hs y2
                · exact i_ne y2 hs.1.symm
          · cases u with
            | false =>
              have hub' : urgP urg nob b := Classical.byContradiction fun q => hub ⟨fun y => absurd y q, fun y => absurd y (by decide)⟩
              exact absurd hP (hu rfl b hb' hub')
            | true =>
              have hub' : ¬ urgP urg nob b := fun q => hub ⟨fun _ => rfl, fun _ => q⟩
              have hcu : urgP urg nob c := hq.2.1.mpr rfl
              refine ⟨fun _ => Or.inl ⟨fun y => hub' (y.mp hcu), hcu⟩, fun _ y => ?_⟩
              rcases y with y | y
              · exact hub' y.2
              · exact hub' (y.1.mpr hcu)
        have hdec := rdC_plO (waits := waits) (szs := szs) (n := n) (z := z) (by omega) hc hrz
        cases f with
        | zero => omega
        | succ f =>
          have hp : ¬ mP z c = -1 ∧ ¬ mP z c = 10 := by
            rcases hrz with q | q
            · rw [q.1]; decide
            · refine ⟨fun y => ?_, fun y => ?_⟩ <;> rw [y] at q <;> exact absurd q.2.1 (by decide)
          have hD' : DR cday n nc j e (puF szs k s c) (plO szs k z c) := ⟨fun b hb => CR_pu (by omega) (hcr b hb), fun b hb => VJ_pu hk h4 hp (hv b hb), RW_pu hn (by omega) hc hrw, rfl⟩
          have eK : mK (plO szs k z c) = mK z + 1 := rfl
          obtain ⟨z', f', g1, g2, g3, g4, g5, g6⟩ := pi_stage u hn hj hk h4 hby hw hm r (i + 1) (puF szs k s c) (plO szs k z c) f (by omega) hD' (by omega) (by omega) (by
            intro t ht q
            obtain ⟨q1, q2⟩ := rd_pl (by omega) q.1
            by_cases hti : t = i
            · subst hti; exact q1 hcc
            · exact hb t (by omega) ⟨q2, q.2⟩) (by
            intro hu0 b hb' hub hmb
            subst hu0
            obtain ⟨q1, q2⟩ := rd_pl (by omega) hmb.1
            refine hu rfl b hb' hub ⟨q2, ?_⟩
            have e1 : cnt (fun d => ciP urg nob (decide (urgP urg nob b)) k (mP (plO szs k z c)) d) n = cnt (fun d => ciP urg nob (decide (urgP urg nob b)) k (mP z) d) n := cnt_cg (fun d _ => by
              rw [decide_eq_true hub]
              by_cases hdc : d = c
              · subst hdc
                exact ⟨fun y => absurd (hq.2.1.mp (y.2.mpr rfl)) (by decide), fun y => absurd (hq.2.1.mp (y.2.mpr rfl)) (by decide)⟩
              · show (mP (plO szs k z c) d = nI k ∧ _) ↔ (mP z d = nI k ∧ _)
                rw [show mP (plO szs k z c) d = mP z d from pk_un hdc])
            have := hmb.2
            rw [e1] at this
            exact this)
          refine ⟨z', f', g1, by omega, g3, ?_, g5, g6⟩
          rw [puM_1 hse]
          exact g4
      · rw [if_neg hroom]
        refine ⟨z, f, ⟨hcr, hv, hrw, hA⟩, Nat.le_refl _, hr, rfl, ?_, hu⟩
        intro b hb' hub hmb
        have := hmb.2
        rw [ca_u hub, dec_u hub, ← hm, ← hcn] at this
        exact hroom (i_nle.mp this)
    · rw [if_neg hq]
      refine pi_stage u hn hj hk h4 hby hw hm r (i + 1) s z f (by omega) ⟨hcr, hv, hrw, hA⟩ hK hr ?_ hu
      intro t ht q
      by_cases hti : t = i
      · subst hti
        have := hrd.mpr q.1
        exact hq ⟨this.1, q.2, this.2⟩
      · exact hb t (by omega) q
theorem pl_col {j e k : Nat} {s : CS} {z : RS} (hn : n ≤ 16) (hj : j < 2 ^ 30) (hk : k < nc) (h4 : nc ≤ 4) (hby : BYD cday byd n) (hw : ∀ c, c < n → waits c = -1 ∨ ∃ w, w < n ∧ waits c = nI w) (hl : lim k = rl k) (hu : lan k = rn k) (hD : DR cday n nc j e s z) (hK : mK z + 17 < 2 ^ 30) :
    DR cday n nc j e (piF urg waits byd szs n nob (nI j) k false (lim k) n 0 (piF urg waits byd szs n nob (nI j) k true (lan k) n 0 s)) (puM cday urg szs waits rl rn n nob k 17 z) ∧ mK (puM cday urg szs waits rl rn n nob k 17 z) ≤ mK z + 17 := by
  obtain ⟨z1, f1, a1, a2, a3, a4, a5, a6⟩ := pi_stage (szs := szs) (urg := urg) (nob := nob) (rl := rl) (rn := rn) (e := e) true (most := lan k) hn hj hk h4 hby hw (by rw [hu]; rfl) n 0 s z 17 (by omega) hD hK (Nat.le_trans (rdC_le _ _ _ _) (by omega)) (fun t ht => absurd ht (Nat.not_lt_zero t)) (fun q => absurd q (by decide))
  obtain ⟨z2, f2, b1, b2, b3, b4, b5, b6⟩ := pi_stage (szs := szs) (urg := urg) (nob := nob) (rl := rl) (rn := rn) (e := e) false (most := lim k) hn hj hk h4 hby hw (by rw [hl]; rfl) n 0 _ z1 f1 (by omega) a1 (by omega) a3 (fun t ht => absurd ht (Nat.not_lt_zero t)) (fun _ c hc hcu => a5 c hc ⟨fun _ => rfl, fun _ => hcu⟩)
  have hz : puM cday urg szs waits rl rn n nob k 17 z = z2 := by
    rw [a4, b4]
    refine puM_0 (slN_0 fun c hc hm => ?_)
    by_cases hcu : urgP urg nob c
    · exact b6 rfl c hc hcu hm
    · exact b5 c hc ⟨fun q => absurd q hcu, fun q => absurd q (by decide)⟩ hm
  rw [hz]
  exact ⟨b1, by omega⟩
theorem pl_all {j e : Nat} (hn : n ≤ 16) (hj : j < 2 ^ 30) (h4 : nc ≤ 4) (hby : BYD cday byd n) (hw : ∀ c, c < n → waits c = -1 ∨ ∃ w, w < n ∧ waits c = nI w) (hl : ∀ k, k < nc → lim k = rl k) (hu : ∀ k, k < nc → lan k = rn k) : ∀ (i : Nat) (s : CS) (z : RS), i ≤ nc → DR cday n nc j e s z → mK z + 17 * i < 2 ^ 30 →
    DR cday n nc j e (plF urg waits byd szs lim lan n nob (nI j) i s) (daB cday urg szs waits rl rn n nob i z) ∧ mK (daB cday urg szs waits rl rn n nob i z) ≤ mK z + 17 * i
  | 0, s, z, _, hD, _ => ⟨hD, Nat.le_refl _⟩
  | i + 1, s, z, hi, hD, hK => by
    obtain ⟨a1, a2⟩ := pl_col (szs := szs) (urg := urg) (nob := nob) (lim := lim) (lan := lan) (rl := rl) (rn := rn) hn hj (show i < nc by omega) h4 hby hw (hl i (by omega)) (hu i (by omega)) hD (by omega)
    obtain ⟨b1, b2⟩ := pl_all hn hj h4 hby hw hl hu i _ _ (by omega) a1 (by omega)
    exact ⟨b1, Nat.le_trans b2 (by omega)⟩
end PUR
