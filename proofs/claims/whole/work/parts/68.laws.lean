/-! the law: its start -/
set_option maxHeartbeats 4000000 in
set_option maxRecDepth 100000 in
/-- THE LAW, from its entry -/
theorem whole_start {p : Program} {e : Env} {s : State} {m : MethodId} {below : List Frame} {meth : Method} {c : Code} (l : Launch) (hflags : l.flags = flags0) {b L : Nat} {xs : Nat → Int32} (hL : L ≤ 2560) (C0 : lw_At p s m meth c b L xs) : W p l e room_1 s m #[Value.ref b] below meth c s.heap [] 0 0 (lw_Z below #[Value.ref b] s) (entryFrame m ([Value.ref b] : List Value).toArray 4) := by
  obtain ⟨hx, hb, hr, hml, hown, hts, hX, hbl, hlocks, hgv⟩ := id C0
  have hA : ∀ q : Nat, s.heap.size ≤ q → (fun q : Nat => s.heap.size ≤ q) q := fun _ h => h
  have htl : ∀ w ∈ wsL_law, w.before #[Value.ref b] s = true := fun w h => hts w (wsL_law_in w h)
  obtain ⟨c0, iS0, hKn0⟩ := u_known (C := RX0) (T := TX0) (N := 9) (n := 9) hts wsX00_in (htl (.instantiable RX0 9) (List.mem_of_getElem? (i := 13) rfl))
  obtain ⟨c1, iS1, hKn1⟩ := u_known (C := RX1) (T := TX1) (N := 4) (n := 4) hts wsX10_in (htl (.instantiable RX1 4) (List.mem_of_getElem? (i := 17) rfl))
  obtain ⟨c2, iS2, hKn2⟩ := u_known (C := RX2) (T := TX2) (N := 17) (n := 17) hts wsX20_in (htl (.instantiable RX2 17) (List.mem_of_getElem? (i := 23) rfl))
  obtain ⟨c3, iS3, hKn3⟩ := u_known (C := RX3) (T := TX3) (N := 7) (n := 7) hts wsX30_in (htl (.instantiable RX3 7) (List.mem_of_getElem? (i := 29) rfl))
  obtain ⟨c4, iS4, hKn4⟩ := u_known (C := RX4) (T := TX4) (N := 8) (n := 8) hts wsX40_in (htl (.instantiable RX4 8) (List.mem_of_getElem? (i := 1) rfl))
  obtain ⟨c5, iS5, hKn5⟩ := u_known (C := RX5) (T := TX5) (N := 42) (n := 42) hts wsX50_in (htl (.instantiable RX5 42) (List.mem_of_getElem? (i := 4) rfl))
  obtain ⟨cI, kI, oI, f1, f2, f3⟩ := Cond.arrayClass_spec (hts (.arrayClass .int) (List.mem_of_getElem? (i := 110) (by decide +kernel)))
  obtain ⟨cZ, kZ, oZ, g1, g2, g3⟩ := Cond.arrayClass_spec (hts (.arrayClass .boolean) (List.mem_of_getElem? (i := 111) (by decide +kernel)))
  have hAI : ArrOfT s cI .int := fun n z => ⟨fun k h => (by cases h), kI, f2, oI, f3⟩
  have hAZ : ArrOfT s cZ .boolean := fun n z => ⟨fun k h => (by cases h), kZ, g2, oZ, g3⟩
  obtain ⟨dC, dI, hKc⟩ : ∃ (dC : Nat → ClassId) (dI : Nat → Nat → Nat), ∀ (k : Nat) (q : vw_C), vwCl[k]? = some q → u_Kn s q.1 q.2.1 q.2.2 (dC k) (dI k) := by
    refine ⟨fun k => if k = 0 then c0 else if k = 1 then c1 else if k = 2 then c2 else if k = 3 then c3 else if k = 4 then c4 else c5, fun k => if k = 0 then iS0 else if k = 1 then iS1 else if k = 2 then iS2 else if k = 3 then iS3 else if k = 4 then iS4 else iS5, ?_⟩
    intro k q hq
    match k, hq with
    | 0, hq => cases hq; exact hKn0
    | 1, hq => cases hq; exact hKn1
    | 2, hq => cases hq; exact hKn2
    | 3, hq => cases hq; exact hKn3
    | 4, hq => cases hq; exact hKn4
    | 5, hq => cases hq; exact hKn5
    | k + 6, hq => simp [vwCl] at hq
  obtain ⟨G, hK⟩ : ∃ G : xG, va_K (xD G) vwCl (x_tys G) s := by
    refine ⟨(dC, dI, cI, cZ), hKc, fun k q h => ?_⟩
    match k, h with
    | 0, h => cases h; exact ⟨hAI, f1⟩
    | 1, h => cases h; exact ⟨hAZ, g1⟩
    | k + 2, h => simp at h
  have hN : xNw [(RX4, 9, yX0_init, "WorkBoard"), (RX4, 18, yX1_init, "WorkBoard"), (RX3, 11, yX1_init, "WorkBoard")] s := by
    intro q hq
    rcases List.mem_cons.mp hq with rfl | hq
    · exact va_Nw.of rfl (hts (.methodLinkNest RX4 9 yX0_init "WorkBoard") (List.mem_of_getElem? (i := 64) (by decide +kernel)))
    rcases List.mem_cons.mp hq with rfl | hq
    · exact va_Nw.of rfl (hts (.methodLinkNest RX4 18 yX1_init "WorkBoard") (List.mem_of_getElem? (i := 114) (by decide +kernel)))
    rcases List.mem_cons.mp hq with rfl | hq
    · exact va_Nw.of rfl (hts (.methodLinkNest RX3 11 yX1_init "WorkBoard") (List.mem_of_getElem? (i := 210) (by decide +kernel)))
    exact absurd hq List.not_mem_nil
  have hS : va_S (fun q : Nat => s.heap.size ≤ q) s.heap s.heap [] := va_S.rf
  have hP : va_P (xD G) vwCl [] s.heap := fun k q h => by simp at h
  have hD : va_D (fun q : Nat => s.heap.size ≤ q) [] := ⟨fun i j p q h => by simp at h, fun k q h => by simp at h⟩
  have hl := lv_entry ([.ref b]) (n := 4) (Nat.le_of_ble_eq_true rfl)
  rw [lg_entry_eq]
  generalize (lg_sl ([.ref b]) ++ List.replicate (4 - (lg_sl ([.ref b])).length) Slot.unset).toArray = ls at hl ⊢
  have hl : lv_has ls 4 [(0, .ref b)] := hl
  refine va_new (ci := 4) (fs := [.null, .null, .null, .null, .null, .null, .null, .null]) (C := RX4) (T := TX4) (N := 8) hx hb hts wsX40_in tyX4 tyX4_ok hown (htl (.classLink RL 7 RX4) (List.mem_of_getElem? (i := 0) rfl)) (htl (.instantiable RX4 8) (List.mem_of_getElem? (i := 1) rfl)) (htl (.initialized RX4) (List.mem_of_getElem? (i := 2) rfl)) hK hP hD hS hA rfl (fun j hj => by rcases (show j = 0 ∨ j = 1 ∨ j = 2 ∨ j = 3 ∨ j = 4 ∨ j = 5 ∨ j = 6 ∨ j = 7 by omega) with rfl | rfl | rfl | rfl | rfl | rfl | rfl | rfl <;> rfl) (by decide) (by decide) dL_law_0 (fun q0 H hP hD hS => ?_)
  have hP : va_P (xD G) vwCl [(q0, .inr (4, [.null, .null, .null, .null, .null, .null, .null, .null]))] H := hP
  have hD : va_D (fun q : Nat => s.heap.size ≤ q) [(q0, .inr (4, [.null, .null, .null, .null, .null, .null, .null, .null]))] := hD
  refine lv_dup hx hb dL_law_3 rfl ?_
  refine x_callKW (As := []) (rest := [.ref q0]) (wr := []) ⟨hx, hb, hml, hown, htl⟩ hN (mX4_init l G q0) (cwI 0 htl gL_law_X4_init rfl rfl rfl (htl (.initialized RX4) (List.mem_of_getElem? (i := 2) rfl)) (htl (.methodLink RL 9 yX4_init) (List.mem_of_getElem? (i := 6) rfl)) (htl (.instanceMethod yX4_init) (List.mem_of_getElem? (i := 7) rfl)) rfl (by decide +kernel) ⟨Nat.le_of_ble_eq_true rfl, Nat.le_of_ble_eq_true rfl⟩) hK hP hD hS hA [0] [] rfl rfl rfl rfl rfl (by decide) rfl hl.1 rfl (Nat.le_of_ble_eq_true rfl) dL_law_4 ⟨by decide, by decide⟩ (fun u H locs hP hD hS => ?_)
  have hP : va_P (xD G) vwCl (bW G q0 u (saF 1 bz)) H := hP
  have hD : va_D (fun q : Nat => s.heap.size ≤ q) (bW G q0 u (saF 1 bz)) := hD
  refine lv_astore_n (lv' := [(1, .ref q0), (0, .ref b)]) hx hb dL_law_7 rfl hl (by decide) rfl (fun ls hl => ?_)
  refine va_new (ci := 5) (fs := [.int 0, .int 0, .null, .null, .null, .int 0, .null, .null, .null, .int 0, .null, .null, .null, .null, .null, .null, .null, .null, .null, .int 0, .int 0, .null, .null, .null, .null, .null, .null, .null, .null, .null, .null, .int 0, .int 0, .int 0, .int 0, .int 0, .null, .null, .int 0, .int 0, .int 0, .null]) (C := RX5) (T := TX5) (N := 42) hx hb hts wsX50_in tyX5 tyX5_ok hown (htl (.classLink RL 10 RX5) (List.mem_of_getElem? (i := 3) rfl)) (htl (.instantiable RX5 42) (List.mem_of_getElem? (i := 4) rfl)) (htl (.initialized RX5) (List.mem_of_getElem? (i := 5) rfl)) hK hP hD hS hA rfl (fun j hj => by rcases (show j = 0 ∨ j = 1 ∨ j = 2 ∨ j = 3 ∨ j = 4 ∨ j = 5 ∨ j = 6 ∨ j = 7 ∨ j = 8 ∨ j = 9 ∨ j = 10 ∨ j = 11 ∨ j = 12 ∨ j = 13 ∨ j = 14 ∨ j = 15 ∨ j = 16 ∨ j = 17 ∨ j = 18 ∨ j = 19 ∨ j = 20 ∨ j = 21 ∨ j = 22 ∨ j = 23 ∨ j = 24 ∨ j = 25 ∨ j = 26 ∨ j = 27 ∨ j = 28 ∨ j = 29 ∨ j = 30 ∨ j = 31 ∨ j = 32 ∨ j = 33 ∨ j = 34 ∨ j = 35 ∨ j = 36 ∨ j = 37 ∨ j = 38 ∨ j = 39 ∨ j = 40 ∨ j = 41 by omega) with rfl | rfl | rfl | rfl | rfl | rfl | rfl | rfl | rfl | rfl | rfl | rfl | rfl | rfl | rfl | rfl | rfl | rfl | rfl | rfl | rfl | rfl | rfl | rfl | rfl | rfl | rfl | rfl | rfl | rfl | rfl | rfl | rfl | rfl | rfl | rfl | rfl | rfl | rfl | rfl | rfl | rfl <;> rfl) (by decide) (by decide) dL_law_8 (fun q1 H hP hD hS => ?_)
  refine lv_dup hx hb dL_law_11 rfl ?_
  refine x_callK (As := []) (rest := [.ref q1]) (wr := bW G q0 u (saF 1 bz)) ⟨hx, hb, hml, hown, htl⟩ (mX5_init l G q1) (cwI 0 htl gL_law_X5_init rfl rfl rfl (htl (.initialized RX5) (List.mem_of_getElem? (i := 5) rfl)) (htl (.methodLink RL 12 yX5_init) (List.mem_of_getElem? (i := 127) rfl)) (htl (.instanceMethod yX5_init) (List.mem_of_getElem? (i := 128) rfl)) rfl (by decide +kernel) ⟨Nat.le_of_ble_eq_true rfl, Nat.le_of_ble_eq_true rfl⟩) hK hP hD hS hA [67] (List.range 67) rfl rfl rfl (rg_l _ _ (bW_len _ _ _ _)) (by decide) (by decide) rfl hl.1 rfl (Nat.le_of_ble_eq_true rfl) dL_law_12 ⟨by decide, by decide⟩ (fun ma H locs hP hD hS => ?_)
  have hP : va_P (xD G) vwCl (bW G q0 u (saF 1 bz) ++ gW G q1 ma mz) H := hP
  have hD : va_D (fun q : Nat => s.heap.size ≤ q) (bW G q0 u (saF 1 bz) ++ gW G q1 ma mz) := hD
  refine lv_astore_n (lv' := [(2, .ref q1), (1, .ref q0), (0, .ref b)]) hx hb dL_law_15 rfl hl (by decide) rfl (fun ls hl => ?_)
  refine lv_iconst (v := 0) hx hb dL_law_16 (by decide) ?_
  refine lv_istore_n (lv' := [(3, .int 0), (2, .ref q1), (1, .ref q0), (0, .ref b)]) hx hb dL_law_17 rfl hl (by decide) rfl (fun ls hl => ?_)
  obtain ⟨WH, hWH⟩ : ∃ WH : Nat, WH = 100000 := ⟨_, rfl⟩
  exact law_loop C0 hL hWH hK (L + 6) 0 (Nat.zero_le _) (by omega) (saF 1 bz) mz H locs ls IV_0 hP hD hS (lv_sub hl [3, 2, 1, 0] rfl)
