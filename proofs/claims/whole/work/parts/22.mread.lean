/-! the reference: what only reads -/
set_option maxHeartbeats 4000000 in
set_option maxRecDepth 100000 in
theorem mX5_in (l : Launch) (G : xG) (x : Int32) (y : Int32) (z : Int32)   : xR l yX5_in wsX5_in ({ frames := 0, cells := 0, slots := 0, locals := 0 } : Room) [.int x, .int y, .int z] G [] (fun r => r = b2 (wiP x y z)) := by
  refine xR_of (cc := cX5_in) (maxL := 3) (ty := .boolean) (by decide) rfl (Nat.le_of_ble_eq_true rfl) ?_
  intro p e s m below meth cO ls Q hx hb hml hown hts hP hK hD hl hq
  have hown : s.vm.findClass RX5 = some m.cls := hown
  have hl : lv_has ls 3 [(0, .int x), (1, .int y), (2, .int z)] := hl
  have hP : va_P (xD G) vwCl [] s.heap := hP
  refine lv_iload_n hx hb dX5_in_0 rfl (lv_at hl 0 rfl) ?_
  refine lv_iload_n hx hb dX5_in_1 rfl (lv_at hl 1 rfl) ?_
  refine lv_icmp_lt (x := x) (y := y) (tgt := 14) hx hb dX5_in_2 (by decide) (fun c2 => ?_) (fun c2 => ?_)
  · skip
    refine lv_iconst (v := 0) hx hb dX5_in_14 (by decide) ?_
    exact hq 0 15 ls dX5_in_15 rfl (b2_f (by simp only [inC, urgP, dAh, wtP, thP, noP, ciP, c2, not_true_eq_false, not_false_eq_true, and_self, and_true, true_and, and_false, false_and, wiP])).symm
  · skip
    refine lv_iload_n hx hb dX5_in_5 rfl (lv_at hl 0 rfl) ?_
    refine lv_iload_n hx hb dX5_in_6 rfl (lv_at hl 2 rfl) ?_
    refine lv_icmp_gt (x := x) (y := z) (tgt := 14) hx hb dX5_in_7 (by decide) (fun c7 => ?_) (fun c7 => ?_)
    · skip
      refine lv_iconst (v := 0) hx hb dX5_in_14 (by decide) ?_
      exact hq 0 15 ls dX5_in_15 rfl (b2_f (by simp only [inC, urgP, dAh, wtP, thP, noP, ciP, c2, c7, not_true_eq_false, not_false_eq_true, and_self, and_true, true_and, and_false, false_and, wiP])).symm
    · skip
      refine lv_iconst (v := 1) hx hb dX5_in_10 (by decide) ?_
      refine lv_goto (tgt := 15) hx hb dX5_in_11 (by decide) ?_
      exact hq 1 15 ls dX5_in_15 rfl (b2_t (by simp only [inC, urgP, dAh, wtP, thP, noP, ciP, c2, c7, not_true_eq_false, not_false_eq_true, and_self, and_true, true_and, and_false, false_and, wiP])).symm
set_option maxHeartbeats 4000000 in
set_option maxRecDepth 100000 in
theorem mX5_first (l : Launch) (G : xG) (x : Int32) (y : Int32)   : xR l yX5_first wsX5_first ({ frames := 0, cells := 0, slots := 0, locals := 0 } : Room) [.int x, .int y] G [] (fun r => r = toR x y) := by
  refine xR_of (cc := cX5_first) (maxL := 2) (ty := .int) (by decide) rfl (Nat.le_of_ble_eq_true rfl) ?_
  intro p e s m below meth cO ls Q hx hb hml hown hts hP hK hD hl hq
  have hown : s.vm.findClass RX5 = some m.cls := hown
  have hl : lv_has ls 2 [(0, .int x), (1, .int y)] := hl
  have hP : va_P (xD G) vwCl [] s.heap := hP
  refine lv_iload_n hx hb dX5_first_0 rfl (lv_at hl 0 rfl) ?_
  refine lv_iconst (v := (-1)) hx hb dX5_first_1 (by decide) ?_
  refine lv_icmp_ne (x := x) (y := (-1)) (tgt := 9) hx hb dX5_first_2 (by decide) (fun c2 => ?_) (fun c2 => ?_)
  · skip
    refine lv_iload_n hx hb dX5_first_9 rfl (lv_at hl 0 rfl) ?_
    exact hq x 10 ls dX5_first_10 rfl (by simp [toR, c2])
  · skip
    refine lv_iload_n hx hb dX5_first_5 rfl (lv_at hl 1 rfl) ?_
    refine lv_goto (tgt := 10) hx hb dX5_first_6 (by decide) ?_
    exact hq y 10 ls dX5_first_10 rfl (by simp [toR, c2])
set_option maxHeartbeats 4000000 in
set_option maxRecDepth 100000 in
theorem mX5_isCard (l : Launch) (G : xG) (mA : Nat) (ma : Nat → Nat) (cols : Int32) (n : Nat) (pac : Int32) (opac : Int32) (rpac : Int32) (alike : Int32) (pulls : Int32) (len : Int32) (lmv : Int32) (mov : Int32) (ther : Int32) (fresh : Int32) (bup : Int32) (bsum : Int32) (w : Int32)  (hn : n ≤ 16) : xR l yX5_isCard wsX5_isCard ({ frames := 1, cells := 0, slots := 0, locals := 22 } : Room) [.ref mA, .int w] G [oModel mA ma cols (nI n) pac opac rpac alike pulls len lmv mov ther fresh bup bsum] (fun r => r = b2 (inC w (nI n))) := by
  refine xR_of (cc := cX5_isCard) (maxL := 2) (ty := .boolean) (by decide) rfl (Nat.le_of_ble_eq_true rfl) ?_
  intro p e s m below meth cO ls Q hx hb hml hown hts hP hK hD hl hq
  have hown : s.vm.findClass RX5 = some m.cls := hown
  have kl105 := hts (.fieldLink RX5 105 "WorkBoardModel" "cards" "I") (List.mem_of_getElem? (i := 1) rfl)
  have inX5 : ∀ w ∈ u_ws RX5 TX5 42, w ∈ wsX5_isCard := (fun w h => List.mem_cons_of_mem _ (List.mem_append_right _ h))
  have hl : lv_has ls 2 [(0, .ref mA), (1, .int w)] := hl
  have hP : va_P (xD G) vwCl [oModel mA ma cols (nI n) pac opac rpac alike pulls len lmv mov ther fresh bup bsum] s.heap := hP
  refine lv_iload_n hx hb dX5_isCard_0 rfl (lv_at hl 1 rfl) ?_
  refine lv_iconst (v := 0) hx hb dX5_isCard_1 (by decide) ?_
  refine lv_aload_n hx hb dX5_isCard_2 rfl (lv_at hl 0 rfl) ?_
  refine va_get (D := xD G) (ci := 5) (v := .int (nI n)) (C := RX5) (T := TX5) (N := 42) hx hb hts inX5 hown hK hP 0 rfl rfl 1 (by decide) kl105 (fun _ h9 => h9) rfl dX5_isCard_3 ?_
  refine lv_iconst (v := 1) hx hb dX5_isCard_6 (by decide) ?_
  refine lv_isub hx hb dX5_isCard_7 ?_
  refine x_callS (As := [.int w, .int 0, .int ((nI n) - 1)]) (rest := []) ⟨hx, hb, hml, hown, hts⟩ (mX5_in l G w 0 ((nI n) - 1) ) (va_cwS 3 hts gX5_isCard_X5_in rfl rfl rfl (by decide +kernel) ⟨Nat.le_of_ble_eq_true rfl, Nat.le_of_ble_eq_true rfl⟩) hK rfl hl.1 rfl (Nat.le_of_ble_eq_true rfl) dX5_isCard_8 ⟨Nat.zero_le _, Nat.zero_le _⟩ (fun r hr => ?_)
  subst hr
  exact hq (b2 (wiP w 0 ((nI n) - 1))) 11 ls dX5_isCard_11 (b2_nr _) (b2_c (in_card (by omega)))
set_option maxHeartbeats 4000000 in
set_option maxRecDepth 100000 in
theorem mX5_isColumn (l : Launch) (G : xG) (mA : Nat) (ma : Nat → Nat) (nc : Nat) (n : Nat) (pac : Int32) (opac : Int32) (rpac : Int32) (alike : Int32) (pulls : Int32) (len : Int32) (lmv : Int32) (mov : Int32) (ther : Int32) (fresh : Int32) (bup : Int32) (bsum : Int32) (k : Int32)  (hnc : nc ≤ 4) : xR l yX5_isColumn wsX5_isColumn ({ frames := 1, cells := 0, slots := 0, locals := 22 } : Room) [.ref mA, .int k] G [oModel mA ma (nI nc) (nI n) pac opac rpac alike pulls len lmv mov ther fresh bup bsum] (fun r => r = b2 (inC k (nI nc))) := by
  refine xR_of (cc := cX5_isColumn) (maxL := 2) (ty := .boolean) (by decide) rfl (Nat.le_of_ble_eq_true rfl) ?_
  intro p e s m below meth cO ls Q hx hb hml hown hts hP hK hD hl hq
  have hown : s.vm.findClass RX5 = some m.cls := hown
  have kl7 := hts (.fieldLink RX5 7 "WorkBoardModel" "columns" "I") (List.mem_of_getElem? (i := 1) rfl)
  have inX5 : ∀ w ∈ u_ws RX5 TX5 42, w ∈ wsX5_isColumn := (fun w h => List.mem_cons_of_mem _ (List.mem_append_right _ h))
  have hl : lv_has ls 2 [(0, .ref mA), (1, .int k)] := hl
  have hP : va_P (xD G) vwCl [oModel mA ma (nI nc) (nI n) pac opac rpac alike pulls len lmv mov ther fresh bup bsum] s.heap := hP
  refine lv_iload_n hx hb dX5_isColumn_0 rfl (lv_at hl 1 rfl) ?_
  refine lv_iconst (v := 0) hx hb dX5_isColumn_1 (by decide) ?_
  refine lv_aload_n hx hb dX5_isColumn_2 rfl (lv_at hl 0 rfl) ?_
  refine va_get (D := xD G) (ci := 5) (v := .int (nI nc)) (C := RX5) (T := TX5) (N := 42) hx hb hts inX5 hown hK hP 0 rfl rfl 0 (by decide) kl7 (fun _ h9 => h9) rfl dX5_isColumn_3 ?_
  refine lv_iconst (v := 1) hx hb dX5_isColumn_6 (by decide) ?_
  refine lv_isub hx hb dX5_isColumn_7 ?_
  refine x_callS (As := [.int k, .int 0, .int ((nI nc) - 1)]) (rest := []) ⟨hx, hb, hml, hown, hts⟩ (mX5_in l G k 0 ((nI nc) - 1) ) (va_cwS 3 hts gX5_isColumn_X5_in rfl rfl rfl (by decide +kernel) ⟨Nat.le_of_ble_eq_true rfl, Nat.le_of_ble_eq_true rfl⟩) hK rfl hl.1 rfl (Nat.le_of_ble_eq_true rfl) dX5_isColumn_8 ⟨Nat.zero_le _, Nat.zero_le _⟩ (fun r hr => ?_)
  subst hr
  exact hq (b2 (wiP k 0 ((nI nc) - 1))) 11 ls dX5_isColumn_11 (b2_nr _) (b2_c (in_card (by omega)))
set_option maxHeartbeats 4000000 in
set_option maxRecDepth 100000 in
theorem mX5_isUrgentNow (l : Launch) (G : xG) (mA : Nat) (ma : Nat → Nat) (cols : Int32) (n : Nat) (pac : Int32) (opac : Int32) (rpac : Int32) (alike : Int32) (pulls : Int32) (len : Int32) (lmv : Int32) (mov : Int32) (ther : Int32) (fresh : Int32) (bup : Int32) (bsum : Int32) (urg : Nat → Int32) (c : Nat)  (hc : c < 16) : xR l yX5_isUrgentNow wsX5_isUrgentNow ({ frames := 0, cells := 0, slots := 0, locals := 0 } : Room) [.ref mA, .int (nI c)] G [oModel mA ma cols (nI n) pac opac rpac alike pulls len lmv mov ther fresh bup bsum, xZ G (ma 11) 16 urg] (fun r => r = b2 (urgP urg alike c)) := by
  refine xR_of (cc := cX5_isUrgentNow) (maxL := 2) (ty := .boolean) (by decide) rfl (Nat.le_of_ble_eq_true rfl) ?_
  intro p e s m below meth cO ls Q hx hb hml hown hts hP hK hD hl hq
  have hown : s.vm.findClass RX5 = some m.cls := hown
  have kl41 := hts (.fieldLink RX5 41 "WorkBoardModel" "isUrgent" "[Z") (List.mem_of_getElem? (i := 1) rfl)
  have kl134 := hts (.fieldLink RX5 134 "WorkBoardModel" "isAllAlike" "Z") (List.mem_of_getElem? (i := 2) rfl)
  have inX5 : ∀ w ∈ u_ws RX5 TX5 42, w ∈ wsX5_isUrgentNow := (fun w h => List.mem_cons_of_mem _ (List.mem_append_right _ h))
  have hl : lv_has ls 2 [(0, .ref mA), (1, .int (nI c))] := hl
  have hP : va_P (xD G) vwCl [oModel mA ma cols (nI n) pac opac rpac alike pulls len lmv mov ther fresh bup bsum, xZ G (ma 11) 16 urg] s.heap := hP
  refine lv_aload_n hx hb dX5_isUrgentNow_0 rfl (lv_at hl 0 rfl) ?_
  refine va_get (D := xD G) (ci := 5) (v := .ref (ma 11)) (C := RX5) (T := TX5) (N := 42) hx hb hts inX5 hown hK hP 0 rfl rfl 11 (by decide) kl41 (fun _ h9 => h9) rfl dX5_isUrgentNow_1 ?_
  refine lv_iload_n hx hb dX5_isUrgentNow_4 rfl (lv_at hl 1 rfl) ?_
  refine x_zald (i := c) hx hb hK hP 1 rfl (by first | omega | assumption) (by omega) dX5_isUrgentNow_5 ?_
  refine lv_if_eq (x := urg c) (tgt := 20) hx hb dX5_isUrgentNow_6 (by decide) (fun c6 => ?_) (fun c6 => ?_)
  · skip
    refine lv_iconst (v := 0) hx hb dX5_isUrgentNow_20 (by decide) ?_
    exact hq 0 21 ls dX5_isUrgentNow_21 rfl (b2_f (by simp only [inC, urgP, dAh, wtP, thP, noP, ciP, c6, not_true_eq_false, not_false_eq_true, and_self, and_true, true_and, and_false, false_and, wiP])).symm
  · skip
    refine lv_aload_n hx hb dX5_isUrgentNow_9 rfl (lv_at hl 0 rfl) ?_
    refine va_get (D := xD G) (ci := 5) (v := .int alike) (C := RX5) (T := TX5) (N := 42) hx hb hts inX5 hown hK hP 0 rfl rfl 20 (by decide) kl134 (fun _ h9 => h9) rfl dX5_isUrgentNow_10 ?_
    refine lv_if_ne (x := alike) (tgt := 20) hx hb dX5_isUrgentNow_13 (by decide) (fun c13 => ?_) (fun c13 => ?_)
    · skip
      refine lv_iconst (v := 0) hx hb dX5_isUrgentNow_20 (by decide) ?_
      exact hq 0 21 ls dX5_isUrgentNow_21 rfl (b2_f (by simp only [inC, urgP, dAh, wtP, thP, noP, ciP, c6, c13, not_true_eq_false, not_false_eq_true, and_self, and_true, true_and, and_false, false_and, wiP])).symm
    · skip
      refine lv_iconst (v := 1) hx hb dX5_isUrgentNow_16 (by decide) ?_
      refine lv_goto (tgt := 21) hx hb dX5_isUrgentNow_17 (by decide) ?_
      exact hq 1 21 ls dX5_isUrgentNow_21 rfl (b2_t (by simp only [inC, urgP, dAh, wtP, thP, noP, ciP, c6, c13, not_true_eq_false, not_false_eq_true, and_self, and_true, true_and, and_false, false_and, wiP])).symm
set_option maxHeartbeats 4000000 in
set_option maxRecDepth 100000 in
theorem mX5_isWaiting (l : Launch) (G : xG) (mA : Nat) (ma : Nat → Nat) (cols : Int32) (n : Nat) (pac : Int32) (opac : Int32) (rpac : Int32) (alike : Int32) (pulls : Int32) (len : Int32) (lmv : Int32) (mov : Int32) (ther : Int32) (fresh : Int32) (bup : Int32) (bsum : Int32) (waits : Nat → Int32) (don : Nat → Int32) (c : Nat)  (hc : c < 16) (hw : ¬ waits c < 0 → vp_in (waits c) 16) : xR l yX5_isWaiting wsX5_isWaiting ({ frames := 0, cells := 0, slots := 0, locals := 0 } : Room) [.ref mA, .int (nI c)] G [oModel mA ma cols (nI n) pac opac rpac alike pulls len lmv mov ther fresh bup bsum, xI G (ma 13) 16 waits, xI G (ma 27) 16 don] (fun r => r = b2 (mwP don waits c)) := by
  refine xR_of (cc := cX5_isWaiting) (maxL := 2) (ty := .boolean) (by decide) rfl (Nat.le_of_ble_eq_true rfl) ?_
  intro p e s m below meth cO ls Q hx hb hml hown hts hP hK hD hl hq
  have hown : s.vm.findClass RX5 = some m.cls := hown
  have kl48 := hts (.fieldLink RX5 48 "WorkBoardModel" "waitsFor" "[I") (List.mem_of_getElem? (i := 1) rfl)
  have kl84 := hts (.fieldLink RX5 84 "WorkBoardModel" "doneOn" "[I") (List.mem_of_getElem? (i := 2) rfl)
  have inX5 : ∀ w ∈ u_ws RX5 TX5 42, w ∈ wsX5_isWaiting := (fun w h => List.mem_cons_of_mem _ (List.mem_append_right _ h))
  have hl : lv_has ls 2 [(0, .ref mA), (1, .int (nI c))] := hl
  have hP : va_P (xD G) vwCl [oModel mA ma cols (nI n) pac opac rpac alike pulls len lmv mov ther fresh bup bsum, xI G (ma 13) 16 waits, xI G (ma 27) 16 don] s.heap := hP
  refine lv_aload_n hx hb dX5_isWaiting_0 rfl (lv_at hl 0 rfl) ?_
  refine va_get (D := xD G) (ci := 5) (v := .ref (ma 13)) (C := RX5) (T := TX5) (N := 42) hx hb hts inX5 hown hK hP 0 rfl rfl 13 (by decide) kl48 (fun _ h9 => h9) rfl dX5_isWaiting_1 ?_
  refine lv_iload_n hx hb dX5_isWaiting_4 rfl (lv_at hl 1 rfl) ?_
  refine x_iald (i := c) hx hb hK hP 1 rfl (by first | omega | assumption) (by omega) dX5_isWaiting_5 ?_
  refine lv_if_lt (x := waits c) (tgt := 27) hx hb dX5_isWaiting_6 (by decide) (fun c6 => ?_) (fun c6 => ?_)
  · skip
    refine lv_iconst (v := 0) hx hb dX5_isWaiting_27 (by decide) ?_
    exact hq 0 28 ls dX5_isWaiting_28 rfl ((b2_f (fun h => h.1 c6)).symm)
  · skip
    have hv := hw c6
    have hv2 : ix waits c < 16 := vp_lt hv
    refine lv_aload_n hx hb dX5_isWaiting_9 rfl (lv_at hl 0 rfl) ?_
    refine va_get (D := xD G) (ci := 5) (v := .ref (ma 27)) (C := RX5) (T := TX5) (N := 42) hx hb hts inX5 hown hK hP 0 rfl rfl 27 (by decide) kl84 (fun _ h9 => h9) rfl dX5_isWaiting_10 ?_
    refine lv_aload_n hx hb dX5_isWaiting_13 rfl (lv_at hl 0 rfl) ?_
    refine va_get (D := xD G) (ci := 5) (v := .ref (ma 13)) (C := RX5) (T := TX5) (N := 42) hx hb hts inX5 hown hK hP 0 rfl rfl 13 (by decide) kl48 (fun _ h9 => h9) rfl dX5_isWaiting_14 ?_
    refine lv_iload_n hx hb dX5_isWaiting_17 rfl (lv_at hl 1 rfl) ?_
    refine x_iald (i := c) hx hb hK hP 1 rfl (by first | omega | assumption) (by omega) dX5_isWaiting_18 ?_
    refine x_top (y := nI (ix waits c)) (nI_self hv) ?_
    refine x_iald (i := ix waits c) hx hb hK hP 2 rfl (by first | omega | assumption) (by omega) dX5_isWaiting_19 ?_
    refine lv_if_ge (x := don (ix waits c)) (tgt := 27) hx hb dX5_isWaiting_20 (by decide) (fun c20 => ?_) (fun c20 => ?_)
    · skip
      refine lv_iconst (v := 0) hx hb dX5_isWaiting_27 (by decide) ?_
      exact hq 0 28 ls dX5_isWaiting_28 rfl ((b2_f (fun h => h.2 c20)).symm)
    · skip
      refine lv_iconst (v := 1) hx hb dX5_isWaiting_23 (by decide) ?_
      refine lv_goto (tgt := 28) hx hb dX5_isWaiting_24 (by decide) ?_
      exact hq 1 28 ls dX5_isWaiting_28 rfl ((b2_t ⟨c6, c20⟩).symm)
set_option maxHeartbeats 4000000 in
set_option maxRecDepth 100000 in
theorem mX5_inColumn (l : Launch) (G : xG) (mA : Nat) (ma : Nat → Nat) (cols : Int32) (n : Nat) (pac : Int32) (opac : Int32) (rpac : Int32) (alike : Int32) (pulls : Int32) (len : Int32) (lmv : Int32) (mov : Int32) (ther : Int32) (fresh : Int32) (bup : Int32) (bsum : Int32) (place : Nat → Int32) (urg : Nat → Int32) (k0 : Nat) (u : Bool)  (hn : n ≤ 16) (hk : k0 < 4) : xR l yX5_inColumn wsX5_inColumn ({ frames := 1, cells := 0, slots := 0, locals := 21 } : Room) [.ref mA, .int (nI k0), .int (b2 (u = true))] G [oModel mA ma cols (nI n) pac opac rpac alike pulls len lmv mov ther fresh bup bsum, xI G (ma 21) 16 place, xZ G (ma 11) 16 urg] (fun r => r = nI (cnt (fun b => ciP urg alike u k0 place b) n)) := by
  refine xR_of (cc := cX5_inColumn) (maxL := 5) (ty := .int) (by decide) rfl (Nat.le_of_ble_eq_true rfl) ?_
  intro p e s m below meth cO ls Q hx hb hml hown hts hP hK hD hl hq
  have hown : s.vm.findClass RX5 = some m.cls := hown
  have kl105 := hts (.fieldLink RX5 105 "WorkBoardModel" "cards" "I") (List.mem_of_getElem? (i := 1) rfl)
  have kl66 := hts (.fieldLink RX5 66 "WorkBoardModel" "place" "[I") (List.mem_of_getElem? (i := 2) rfl)
  have inX5 : ∀ w ∈ u_ws RX5 TX5 42, w ∈ wsX5_inColumn := (fun w h => List.mem_cons_of_mem _ (List.mem_append_right _ h))
  have hl : lv_has ls 5 [(0, .ref mA), (1, .int (nI k0)), (2, .int (b2 (u = true)))] := hl
  have hP : va_P (xD G) vwCl [oModel mA ma cols (nI n) pac opac rpac alike pulls len lmv mov ther fresh bup bsum, xI G (ma 21) 16 place, xZ G (ma 11) 16 urg] s.heap := hP
  refine lv_iconst (v := 0) hx hb dX5_inColumn_0 (by decide) ?_
  refine lv_istore_n (lv' := [(3, .int 0), (0, .ref mA), (1, .int (nI k0)), (2, .int (b2 (u = true)))]) hx hb dX5_inColumn_1 rfl hl (by decide) rfl (fun ls hl => ?_)
  refine lv_iconst (v := 0) hx hb dX5_inColumn_2 (by decide) ?_
  refine lv_istore (lv' := [(4, .int 0), (3, .int 0), (0, .ref mA), (1, .int (nI k0)), (2, .int (b2 (u = true)))]) hx hb dX5_inColumn_3 hl (by decide) rfl (fun ls hl => ?_)
  have L5 : ∀ (kk5 i : Nat) (x : Nat), i ≤ n → n + 1 ≤ i + kk5 → (x = cnt (fun b => ciP urg alike u k0 place b) i) → ∀ (ls : Array Slot), lv_has ls 5 [(4, .int (nI i)), (3, .int (nI x)), (0, .ref mA), (1, .int (nI k0)), (2, .int (b2 (u = true)))] → W p l e ({ frames := 1, cells := 0, slots := 0, locals := 21 } : Room) s m #[Value.ref mA, Value.int (nI k0), Value.int (b2 (u = true))] below meth cO s.heap [] 0 0 Q (F0 m 5 ls []) := by
    intro kk5
    induction kk5 with
    | zero => intro i x h1 h2; exact absurd h2 (by omega)
    | succ kk5 ih5 =>
      intro i x hi5 hk5 ex ls hl
      have hcl := cnt_le (fun b => ciP urg alike u k0 place b) i
      refine lv_iload hx hb dX5_inColumn_5 (lv_at hl 0 rfl) ?_
      refine lv_aload_n hx hb dX5_inColumn_7 rfl (lv_at hl 2 rfl) ?_
      refine va_get (D := xD G) (ci := 5) (v := .int (nI n)) (C := RX5) (T := TX5) (N := 42) hx hb hts inX5 hown hK hP 0 rfl rfl 1 (by decide) kl105 (fun _ h9 => h9) rfl dX5_inColumn_8 ?_
      refine x_icmp_ge (x := i) (y := n) (tgt := 49) hx hb (by omega) (by omega) dX5_inColumn_11 (by decide) (fun c11 => ?_) (fun c11 => ?_)
      · skip
        have e_2 : i = n := by omega
        rw [e_2] at ex
        subst ex
        refine lv_iload_n hx hb dX5_inColumn_49 rfl (lv_at hl 1 rfl) ?_
        exact hq (nI (cnt (fun b => ciP urg alike u k0 place b) n)) 50 ls dX5_inColumn_50 rfl rfl
      · skip
        refine lv_iload_n hx hb dX5_inColumn_14 rfl (lv_at hl 1 rfl) ?_
        refine lv_aload_n hx hb dX5_inColumn_15 rfl (lv_at hl 2 rfl) ?_
        refine va_get (D := xD G) (ci := 5) (v := .ref (ma 21)) (C := RX5) (T := TX5) (N := 42) hx hb hts inX5 hown hK hP 0 rfl rfl 21 (by decide) kl66 (fun _ h9 => h9) rfl dX5_inColumn_16 ?_
        refine lv_iload hx hb dX5_inColumn_19 (lv_at hl 0 rfl) ?_
        refine x_iald (i := i) hx hb hK hP 1 rfl (by first | omega | assumption) (by omega) dX5_inColumn_21 ?_
        refine lv_iload_n hx hb dX5_inColumn_22 rfl (lv_at hl 3 rfl) ?_
        refine lv_icmp_ne (x := place i) (y := nI k0) (tgt := 40) hx hb dX5_inColumn_23 (by decide) (fun c23 => ?_) (fun c23 => ?_)
        · skip
          refine lv_iconst (v := 0) hx hb dX5_inColumn_40 (by decide) ?_
          refine lv_iadd hx hb dX5_inColumn_41 ?_
          refine x_top (y := nI (x + 0)) (nI_add x 0) ?_
          refine lv_istore_n (lv' := [(3, .int (nI (x + 0))), (4, .int (nI i)), (0, .ref mA), (1, .int (nI k0)), (2, .int (b2 (u = true)))]) hx hb dX5_inColumn_42 rfl hl (by decide) rfl (fun ls hl => ?_)
          refine lv_iinc (v := nI (i + 1)) (lv' := [(4, .int (nI (i + 1))), (3, .int (nI (x + 0))), (0, .ref mA), (1, .int (nI k0)), (2, .int (b2 (u = true)))]) hx hb dX5_inColumn_43 hl (k := 1) rfl (by exact nI_add i 1) (by decide) rfl (fun ls hl => ?_)
          refine lv_goto (tgt := 5) hx hb dX5_inColumn_46 (by decide) ?_
          exact ih5 (i + 1) (x + 0) (by omega) (by omega) (by rw [ex]; simp [cnt, c11, c23]) ls (lv_sub hl [0, 1, 2, 3, 4] rfl)
        · skip
          refine lv_aload_n hx hb dX5_inColumn_26 rfl (lv_at hl 2 rfl) ?_
          refine lv_iload hx hb dX5_inColumn_27 (lv_at hl 0 rfl) ?_
          refine x_callR (As := [.int (nI i)]) (rest := [.int (nI x)]) (ci := 5) (q0 := 0) ⟨hx, hb, hml, hown, hts⟩ (mX5_isUrgentNow l G mA ma cols n pac opac rpac alike pulls len lmv mov ther fresh bup bsum urg i (by first | assumption | omega)) (cwV 1 hts gX5_inColumn_X5_isUrgentNow rfl rfl rfl (by decide +kernel) ⟨Nat.le_of_ble_eq_true rfl, Nat.le_of_ble_eq_true rfl⟩) hK hP hD [0, 2] rfl rfl rfl rfl rfl rfl rfl hl.1 rfl (Nat.le_of_ble_eq_true rfl) dX5_inColumn_29 ⟨Nat.zero_le _, Nat.zero_le _⟩ (fun r hr => ?_)
          subst hr
          refine lv_iload_n hx hb dX5_inColumn_32 rfl (lv_at hl 4 rfl) ?_
          refine x_bcmp_ne (P := urgP urg alike i) (U := u = true) (tgt := 40) hx hb dX5_inColumn_33 (by decide) (fun c33 => ?_) (fun c33 => ?_)
          · skip
            refine lv_iconst (v := 0) hx hb dX5_inColumn_40 (by decide) ?_
            refine lv_iadd hx hb dX5_inColumn_41 ?_
            refine x_top (y := nI (x + 0)) (nI_add x 0) ?_
            refine lv_istore_n (lv' := [(3, .int (nI (x + 0))), (4, .int (nI i)), (0, .ref mA), (1, .int (nI k0)), (2, .int (b2 (u = true)))]) hx hb dX5_inColumn_42 rfl hl (by decide) rfl (fun ls hl => ?_)
            refine lv_iinc (v := nI (i + 1)) (lv' := [(4, .int (nI (i + 1))), (3, .int (nI (x + 0))), (0, .ref mA), (1, .int (nI k0)), (2, .int (b2 (u = true)))]) hx hb dX5_inColumn_43 hl (k := 1) rfl (by exact nI_add i 1) (by decide) rfl (fun ls hl => ?_)
            refine lv_goto (tgt := 5) hx hb dX5_inColumn_46 (by decide) ?_
            exact ih5 (i + 1) (x + 0) (by omega) (by omega) (by rw [ex]; simp [cnt, c11, c23, c33]) ls (lv_sub hl [0, 1, 2, 3, 4] rfl)
          · skip
            refine lv_iconst (v := 1) hx hb dX5_inColumn_36 (by decide) ?_
            refine lv_goto (tgt := 41) hx hb dX5_inColumn_37 (by decide) ?_
            refine lv_iadd hx hb dX5_inColumn_41 ?_
            refine x_top (y := nI (x + 1)) (nI_add x 1) ?_
            refine lv_istore_n (lv' := [(3, .int (nI (x + 1))), (4, .int (nI i)), (0, .ref mA), (1, .int (nI k0)), (2, .int (b2 (u = true)))]) hx hb dX5_inColumn_42 rfl hl (by decide) rfl (fun ls hl => ?_)
            refine lv_iinc (v := nI (i + 1)) (lv' := [(4, .int (nI (i + 1))), (3, .int (nI (x + 1))), (0, .ref mA), (1, .int (nI k0)), (2, .int (b2 (u = true)))]) hx hb dX5_inColumn_43 hl (k := 1) rfl (by exact nI_add i 1) (by decide) rfl (fun ls hl => ?_)
            refine lv_goto (tgt := 5) hx hb dX5_inColumn_46 (by decide) ?_
            exact ih5 (i + 1) (x + 1) (by omega) (by omega) (by rw [ex]; simp [cnt, c11, c23, c33]) ls (lv_sub hl [0, 1, 2, 3, 4] rfl)
  exact L5 (n + 1) 0 0 (by omega) (by omega) (rfl) ls (lv_sub hl [0, 1, 2, 3, 4] rfl)
set_option maxHeartbeats 4000000 in
set_option maxRecDepth 100000 in
theorem mX5_mayGo (l : Launch) (G : xG) (mA : Nat) (ma : Nat → Nat) (cols : Int32) (n : Nat) (pac : Int32) (opac : Int32) (rpac : Int32) (alike : Int32) (pulls : Int32) (len : Int32) (lmv : Int32) (mov : Int32) (ther : Int32) (fresh : Int32) (bup : Int32) (bsum : Int32) (place : Nat → Int32) (thr : XF) (nxt : XF) (don : Nat → Int32) (urg : Nat → Int32) (waits : Nat → Int32) (rl : XF) (rn : XF) (c : Nat) (k0 : Nat)  (hn : n ≤ 16) (hc : c < 16) (hk : k0 < 4) (hw : ¬ waits c < 0 → vp_in (waits c) 16) : xR l yX5_mayGo wsX5_mayGo ({ frames := 2, cells := 0, slots := 0, locals := 45 } : Room) [.ref mA, .int (nI c), .int (nI k0)] G [oModel mA ma cols (nI n) pac opac rpac alike pulls len lmv mov ther fresh bup bsum, xI G (ma 21) 16 place, xZ G (ma 23) 16 thr, xI G (ma 24) 16 nxt, xI G (ma 27) 16 don, xZ G (ma 11) 16 urg, xI G (ma 13) 16 waits, xI G (ma 16) 4 rl, xI G (ma 17) 4 rn] (fun r => r = b2 (mgP urg waits rl rn n alike place thr nxt don k0 c)) := by
  refine xR_of (cc := cX5_mayGo) (maxL := 4) (ty := .boolean) (by decide) rfl (Nat.le_of_ble_eq_true rfl) ?_
  intro p e s m below meth cO ls Q hx hb hml hown hts hP hK hD hl hq
  have hown : s.vm.findClass RX5 = some m.cls := hown
  have kl66 := hts (.fieldLink RX5 66 "WorkBoardModel" "place" "[I") (List.mem_of_getElem? (i := 1) rfl)
  have kl72 := hts (.fieldLink RX5 72 "WorkBoardModel" "isThrough" "[Z") (List.mem_of_getElem? (i := 2) rfl)
  have kl75 := hts (.fieldLink RX5 75 "WorkBoardModel" "nextColumn" "[I") (List.mem_of_getElem? (i := 3) rfl)
  have kl60 := hts (.fieldLink RX5 60 "WorkBoardModel" "runLane" "[I") (List.mem_of_getElem? (i := 4) rfl)
  have kl57 := hts (.fieldLink RX5 57 "WorkBoardModel" "runLimit" "[I") (List.mem_of_getElem? (i := 5) rfl)
  have inX5 : ∀ w ∈ u_ws RX5 TX5 42, w ∈ wsX5_mayGo := (fun w h => List.mem_cons_of_mem _ (List.mem_append_right _ h))
  have hcl := cnt_le (fun b => ciP urg alike (decide (urgP urg alike c)) k0 place b) n
  have hl : lv_has ls 4 [(0, .ref mA), (1, .int (nI c)), (2, .int (nI k0))] := hl
  have hP : va_P (xD G) vwCl [oModel mA ma cols (nI n) pac opac rpac alike pulls len lmv mov ther fresh bup bsum, xI G (ma 21) 16 place, xZ G (ma 23) 16 thr, xI G (ma 24) 16 nxt, xI G (ma 27) 16 don, xZ G (ma 11) 16 urg, xI G (ma 13) 16 waits, xI G (ma 16) 4 rl, xI G (ma 17) 4 rn] s.heap := hP
  refine lv_aload_n hx hb dX5_mayGo_0 rfl (lv_at hl 0 rfl) ?_
  refine va_get (D := xD G) (ci := 5) (v := .ref (ma 21)) (C := RX5) (T := TX5) (N := 42) hx hb hts inX5 hown hK hP 0 rfl rfl 21 (by decide) kl66 (fun _ h9 => h9) rfl dX5_mayGo_1 ?_
  refine lv_iload_n hx hb dX5_mayGo_4 rfl (lv_at hl 1 rfl) ?_
  refine x_iald (i := c) hx hb hK hP 1 rfl (by first | omega | assumption) (by omega) dX5_mayGo_5 ?_
  refine lv_bipush (v := 11) hx hb dX5_mayGo_6 (by decide) ?_
  refine lv_icmp_ne (x := place c) (y := 11) (tgt := 31) hx hb dX5_mayGo_8 (by decide) (fun c8 => ?_) (fun c8 => ?_)
  · skip
    refine lv_aload_n hx hb dX5_mayGo_31 rfl (lv_at hl 0 rfl) ?_
    refine va_get (D := xD G) (ci := 5) (v := .ref (ma 21)) (C := RX5) (T := TX5) (N := 42) hx hb hts inX5 hown hK hP 0 rfl rfl 21 (by decide) kl66 (fun _ h9 => h9) rfl dX5_mayGo_32 ?_
    refine lv_iload_n hx hb dX5_mayGo_35 rfl (lv_at hl 1 rfl) ?_
    refine x_iald (i := c) hx hb hK hP 1 rfl (by first | omega | assumption) (by omega) dX5_mayGo_36 ?_
    refine lv_iconst (v := 0) hx hb dX5_mayGo_37 (by decide) ?_
    refine lv_iconst (v := 3) hx hb dX5_mayGo_38 (by decide) ?_
    refine x_callS (As := [.int (place c), .int 0, .int 3]) (rest := []) ⟨hx, hb, hml, hown, hts⟩ (mX5_in l G (place c) 0 3 ) (va_cwS 3 hts gX5_mayGo_X5_in rfl rfl rfl (by decide +kernel) ⟨Nat.le_of_ble_eq_true rfl, Nat.le_of_ble_eq_true rfl⟩) hK rfl hl.1 rfl (Nat.le_of_ble_eq_true rfl) dX5_mayGo_39 ⟨Nat.zero_le _, Nat.zero_le _⟩ (fun r hr => ?_)
    subst hr
    refine x_if_eq (P := wiP (place c) 0 3) (tgt := 68) hx hb dX5_mayGo_42 (by decide) (fun c42 => ?_) (fun c42 => ?_)
    · skip
      refine lv_iconst (v := 0) hx hb dX5_mayGo_68 (by decide) ?_
      refine lv_istore_n (lv' := [(3, .int 0), (0, .ref mA), (1, .int (nI c)), (2, .int (nI k0))]) hx hb dX5_mayGo_69 rfl hl (by decide) rfl (fun ls hl => ?_)
      refine lv_iload_n hx hb dX5_mayGo_70 rfl (lv_at hl 0 rfl) ?_
      refine lv_if_eq (x := 0) (tgt := 114) hx hb dX5_mayGo_71 (by decide) (fun c71 => ?_) (fun c71 => ?_)
      · skip
        refine lv_iconst (v := 0) hx hb dX5_mayGo_114 (by decide) ?_
        exact hq 0 115 ls dX5_mayGo_115 rfl ((b2_f (fun h => by exact h.1.elim (fun q => c8 q.1) (fun q => c42 q.2.1))).symm)
      · skip
        exact absurd c71 (by decide)
    · skip
      refine lv_aload_n hx hb dX5_mayGo_45 rfl (lv_at hl 0 rfl) ?_
      refine va_get (D := xD G) (ci := 5) (v := .ref (ma 23)) (C := RX5) (T := TX5) (N := 42) hx hb hts inX5 hown hK hP 0 rfl rfl 23 (by decide) kl72 (fun _ h9 => h9) rfl dX5_mayGo_46 ?_
      refine lv_iload_n hx hb dX5_mayGo_49 rfl (lv_at hl 1 rfl) ?_
      refine x_zald (i := c) hx hb hK hP 2 rfl (by first | omega | assumption) (by omega) dX5_mayGo_50 ?_
      refine lv_if_eq (x := thr c) (tgt := 68) hx hb dX5_mayGo_51 (by decide) (fun c51 => ?_) (fun c51 => ?_)
      · skip
        refine lv_iconst (v := 0) hx hb dX5_mayGo_68 (by decide) ?_
        refine lv_istore_n (lv' := [(3, .int 0), (0, .ref mA), (1, .int (nI c)), (2, .int (nI k0))]) hx hb dX5_mayGo_69 rfl hl (by decide) rfl (fun ls hl => ?_)
        refine lv_iload_n hx hb dX5_mayGo_70 rfl (lv_at hl 0 rfl) ?_
        refine lv_if_eq (x := 0) (tgt := 114) hx hb dX5_mayGo_71 (by decide) (fun c71 => ?_) (fun c71 => ?_)
        · skip
          refine lv_iconst (v := 0) hx hb dX5_mayGo_114 (by decide) ?_
          exact hq 0 115 ls dX5_mayGo_115 rfl ((b2_f (fun h => by exact h.1.elim (fun q => c8 q.1) (fun q => q.2.2.1 c51))).symm)
        · skip
          exact absurd c71 (by decide)
      · skip
        refine lv_aload_n hx hb dX5_mayGo_54 rfl (lv_at hl 0 rfl) ?_
        refine va_get (D := xD G) (ci := 5) (v := .ref (ma 24)) (C := RX5) (T := TX5) (N := 42) hx hb hts inX5 hown hK hP 0 rfl rfl 24 (by decide) kl75 (fun _ h9 => h9) rfl dX5_mayGo_55 ?_
        refine lv_iload_n hx hb dX5_mayGo_58 rfl (lv_at hl 1 rfl) ?_
        refine x_iald (i := c) hx hb hK hP 3 rfl (by first | omega | assumption) (by omega) dX5_mayGo_59 ?_
        refine lv_iload_n hx hb dX5_mayGo_60 rfl (lv_at hl 2 rfl) ?_
        refine lv_icmp_ne (x := nxt c) (y := nI k0) (tgt := 68) hx hb dX5_mayGo_61 (by decide) (fun c61 => ?_) (fun c61 => ?_)
        · skip
          refine lv_iconst (v := 0) hx hb dX5_mayGo_68 (by decide) ?_
          refine lv_istore_n (lv' := [(3, .int 0), (0, .ref mA), (1, .int (nI c)), (2, .int (nI k0))]) hx hb dX5_mayGo_69 rfl hl (by decide) rfl (fun ls hl => ?_)
          refine lv_iload_n hx hb dX5_mayGo_70 rfl (lv_at hl 0 rfl) ?_
          refine lv_if_eq (x := 0) (tgt := 114) hx hb dX5_mayGo_71 (by decide) (fun c71 => ?_) (fun c71 => ?_)
          · skip
            refine lv_iconst (v := 0) hx hb dX5_mayGo_114 (by decide) ?_
            exact hq 0 115 ls dX5_mayGo_115 rfl ((b2_f (fun h => by exact h.1.elim (fun q => c8 q.1) (fun q => c61 q.2.2.2))).symm)
          · skip
            exact absurd c71 (by decide)
        · skip
          refine lv_iconst (v := 1) hx hb dX5_mayGo_64 (by decide) ?_
          refine lv_goto (tgt := 69) hx hb dX5_mayGo_65 (by decide) ?_
          refine lv_istore_n (lv' := [(3, .int 1), (0, .ref mA), (1, .int (nI c)), (2, .int (nI k0))]) hx hb dX5_mayGo_69 rfl hl (by decide) rfl (fun ls hl => ?_)
          refine lv_iload_n hx hb dX5_mayGo_70 rfl (lv_at hl 0 rfl) ?_
          refine lv_if_eq (x := 1) (tgt := 114) hx hb dX5_mayGo_71 (by decide) (fun c71 => ?_) (fun c71 => ?_)
          · skip
            exact absurd c71 (by decide)
          · skip
            refine lv_aload_n hx hb dX5_mayGo_74 rfl (lv_at hl 1 rfl) ?_
            refine lv_iload_n hx hb dX5_mayGo_75 rfl (lv_at hl 3 rfl) ?_
            refine lv_aload_n hx hb dX5_mayGo_76 rfl (lv_at hl 1 rfl) ?_
            refine lv_iload_n hx hb dX5_mayGo_77 rfl (lv_at hl 2 rfl) ?_
            refine x_callR (As := [.int (nI c)]) (rest := [.int (nI k0), .ref mA]) (ci := 5) (q0 := 0) ⟨hx, hb, hml, hown, hts⟩ (mX5_isUrgentNow l G mA ma cols n pac opac rpac alike pulls len lmv mov ther fresh bup bsum urg c (by first | assumption | omega)) (cwV 1 hts gX5_mayGo_X5_isUrgentNow rfl rfl rfl (by decide +kernel) ⟨Nat.le_of_ble_eq_true rfl, Nat.le_of_ble_eq_true rfl⟩) hK hP hD [0, 5] rfl rfl rfl rfl rfl rfl rfl hl.1 rfl (Nat.le_of_ble_eq_true rfl) dX5_mayGo_78 ⟨Nat.zero_le _, Nat.zero_le _⟩ (fun r hr => ?_)
            subst hr
            refine x_top (y := b2 (decide (urgP urg alike c) = true)) (b2_dec) ?_
            refine x_callR (As := [.int (nI k0), .int (b2 (decide (urgP urg alike c) = true))]) (rest := []) (ci := 5) (q0 := 0) ⟨hx, hb, hml, hown, hts⟩ (mX5_inColumn l G mA ma cols n pac opac rpac alike pulls len lmv mov ther fresh bup bsum place urg k0 (decide (urgP urg alike c)) (by first | assumption | omega) (by first | assumption | omega)) (cwV 2 hts gX5_mayGo_X5_inColumn rfl rfl rfl (by decide +kernel) ⟨Nat.le_of_ble_eq_true rfl, Nat.le_of_ble_eq_true rfl⟩) hK hP hD [0, 1, 5] rfl rfl rfl rfl rfl rfl rfl hl.1 rfl (Nat.le_of_ble_eq_true rfl) dX5_mayGo_81 ⟨Nat.zero_le _, Nat.zero_le _⟩ (fun r hr => ?_)
            subst hr
            refine lv_aload_n hx hb dX5_mayGo_84 rfl (lv_at hl 1 rfl) ?_
            refine lv_iload_n hx hb dX5_mayGo_85 rfl (lv_at hl 2 rfl) ?_
            refine x_callR (As := [.int (nI c)]) (rest := [.int (nI (cnt (fun b => ciP urg alike (decide (urgP urg alike c)) k0 place b) n))]) (ci := 5) (q0 := 0) ⟨hx, hb, hml, hown, hts⟩ (mX5_isUrgentNow l G mA ma cols n pac opac rpac alike pulls len lmv mov ther fresh bup bsum urg c (by first | assumption | omega)) (cwV 1 hts gX5_mayGo_X5_isUrgentNow rfl rfl rfl (by decide +kernel) ⟨Nat.le_of_ble_eq_true rfl, Nat.le_of_ble_eq_true rfl⟩) hK hP hD [0, 5] rfl rfl rfl rfl rfl rfl rfl hl.1 rfl (Nat.le_of_ble_eq_true rfl) dX5_mayGo_86 ⟨Nat.zero_le _, Nat.zero_le _⟩ (fun r hr => ?_)
            subst hr
            refine x_if_eq (P := urgP urg alike c) (tgt := 101) hx hb dX5_mayGo_89 (by decide) (fun c89 => ?_) (fun c89 => ?_)
            · skip
              have hcap : caI urg rl rn alike k0 c = rl k0 := if_neg c89
              refine lv_aload_n hx hb dX5_mayGo_101 rfl (lv_at hl 1 rfl) ?_
              refine va_get (D := xD G) (ci := 5) (v := .ref (ma 16)) (C := RX5) (T := TX5) (N := 42) hx hb hts inX5 hown hK hP 0 rfl rfl 16 (by decide) kl57 (fun _ h9 => h9) rfl dX5_mayGo_102 ?_
              refine lv_iload_n hx hb dX5_mayGo_105 rfl (lv_at hl 3 rfl) ?_
              refine x_iald (i := k0) hx hb hK hP 7 rfl (by first | omega | assumption) (by omega) dX5_mayGo_106 ?_
              refine lv_icmp_ge (x := nI (cnt (fun b => ciP urg alike (decide (urgP urg alike c)) k0 place b) n)) (y := rl k0) (tgt := 114) hx hb dX5_mayGo_107 (by decide) (fun c107 => ?_) (fun c107 => ?_)
              · skip
                refine lv_iconst (v := 0) hx hb dX5_mayGo_114 (by decide) ?_
                exact hq 0 115 ls dX5_mayGo_115 rfl ((b2_f (fun h => h.2 (by rw [hcap]; exact c107))).symm)
              · skip
                refine lv_iconst (v := 1) hx hb dX5_mayGo_110 (by decide) ?_
                refine lv_goto (tgt := 115) hx hb dX5_mayGo_111 (by decide) ?_
                exact hq 1 115 ls dX5_mayGo_115 rfl ((b2_t ⟨Or.inr ⟨c8, c42, c51, c61⟩, by rw [hcap]; exact c107⟩).symm)
            · skip
              have hcap : caI urg rl rn alike k0 c = rn k0 := if_pos c89
              refine lv_aload_n hx hb dX5_mayGo_92 rfl (lv_at hl 1 rfl) ?_
              refine va_get (D := xD G) (ci := 5) (v := .ref (ma 17)) (C := RX5) (T := TX5) (N := 42) hx hb hts inX5 hown hK hP 0 rfl rfl 17 (by decide) kl60 (fun _ h9 => h9) rfl dX5_mayGo_93 ?_
              refine lv_iload_n hx hb dX5_mayGo_96 rfl (lv_at hl 3 rfl) ?_
              refine x_iald (i := k0) hx hb hK hP 8 rfl (by first | omega | assumption) (by omega) dX5_mayGo_97 ?_
              refine lv_goto (tgt := 107) hx hb dX5_mayGo_98 (by decide) ?_
              refine lv_icmp_ge (x := nI (cnt (fun b => ciP urg alike (decide (urgP urg alike c)) k0 place b) n)) (y := rn k0) (tgt := 114) hx hb dX5_mayGo_107 (by decide) (fun c107 => ?_) (fun c107 => ?_)
              · skip
                refine lv_iconst (v := 0) hx hb dX5_mayGo_114 (by decide) ?_
                exact hq 0 115 ls dX5_mayGo_115 rfl ((b2_f (fun h => h.2 (by rw [hcap]; exact c107))).symm)
              · skip
                refine lv_iconst (v := 1) hx hb dX5_mayGo_110 (by decide) ?_
                refine lv_goto (tgt := 115) hx hb dX5_mayGo_111 (by decide) ?_
                exact hq 1 115 ls dX5_mayGo_115 rfl ((b2_t ⟨Or.inr ⟨c8, c42, c51, c61⟩, by rw [hcap]; exact c107⟩).symm)
  · skip
    refine lv_iload_n hx hb dX5_mayGo_11 rfl (lv_at hl 2 rfl) ?_
    refine lv_if_ne (x := nI k0) (tgt := 27) hx hb dX5_mayGo_12 (by decide) (fun c12 => ?_) (fun c12 => ?_)
    · skip
      refine lv_iconst (v := 0) hx hb dX5_mayGo_27 (by decide) ?_
      refine lv_goto (tgt := 69) hx hb dX5_mayGo_28 (by decide) ?_
      refine lv_istore_n (lv' := [(3, .int 0), (0, .ref mA), (1, .int (nI c)), (2, .int (nI k0))]) hx hb dX5_mayGo_69 rfl hl (by decide) rfl (fun ls hl => ?_)
      refine lv_iload_n hx hb dX5_mayGo_70 rfl (lv_at hl 0 rfl) ?_
      refine lv_if_eq (x := 0) (tgt := 114) hx hb dX5_mayGo_71 (by decide) (fun c71 => ?_) (fun c71 => ?_)
      · skip
        refine lv_iconst (v := 0) hx hb dX5_mayGo_114 (by decide) ?_
        exact hq 0 115 ls dX5_mayGo_115 rfl ((b2_f (fun h => by exact h.1.elim (fun q => c12 q.2.1) (fun q => q.1 c8))).symm)
      · skip
        exact absurd c71 (by decide)
    · skip
      refine lv_aload_n hx hb dX5_mayGo_15 rfl (lv_at hl 0 rfl) ?_
      refine lv_iload_n hx hb dX5_mayGo_16 rfl (lv_at hl 1 rfl) ?_
      refine x_callR (As := [.int (nI c)]) (rest := []) (ci := 5) (q0 := 0) ⟨hx, hb, hml, hown, hts⟩ (mX5_isWaiting l G mA ma cols n pac opac rpac alike pulls len lmv mov ther fresh bup bsum waits don c (by first | assumption | omega) (by first | assumption | omega)) (cwV 1 hts gX5_mayGo_X5_isWaiting rfl rfl rfl (by decide +kernel) ⟨Nat.le_of_ble_eq_true rfl, Nat.le_of_ble_eq_true rfl⟩) hK hP hD [0, 6, 4] rfl rfl rfl rfl rfl rfl rfl hl.1 rfl (Nat.le_of_ble_eq_true rfl) dX5_mayGo_17 ⟨Nat.zero_le _, Nat.zero_le _⟩ (fun r hr => ?_)
      subst hr
      refine x_if_ne (P := mwP don waits c) (tgt := 27) hx hb dX5_mayGo_20 (by decide) (fun c20 => ?_) (fun c20 => ?_)
      · skip
        refine lv_iconst (v := 0) hx hb dX5_mayGo_27 (by decide) ?_
        refine lv_goto (tgt := 69) hx hb dX5_mayGo_28 (by decide) ?_
        refine lv_istore_n (lv' := [(3, .int 0), (0, .ref mA), (1, .int (nI c)), (2, .int (nI k0))]) hx hb dX5_mayGo_69 rfl hl (by decide) rfl (fun ls hl => ?_)
        refine lv_iload_n hx hb dX5_mayGo_70 rfl (lv_at hl 0 rfl) ?_
        refine lv_if_eq (x := 0) (tgt := 114) hx hb dX5_mayGo_71 (by decide) (fun c71 => ?_) (fun c71 => ?_)
        · skip
          refine lv_iconst (v := 0) hx hb dX5_mayGo_114 (by decide) ?_
          exact hq 0 115 ls dX5_mayGo_115 rfl ((b2_f (fun h => by exact h.1.elim (fun q => q.2.2 c20) (fun q => q.1 c8))).symm)
        · skip
          exact absurd c71 (by decide)
      · skip
        refine lv_iconst (v := 1) hx hb dX5_mayGo_23 (by decide) ?_
        refine lv_goto (tgt := 69) hx hb dX5_mayGo_24 (by decide) ?_
        refine lv_istore_n (lv' := [(3, .int 1), (0, .ref mA), (1, .int (nI c)), (2, .int (nI k0))]) hx hb dX5_mayGo_69 rfl hl (by decide) rfl (fun ls hl => ?_)
        refine lv_iload_n hx hb dX5_mayGo_70 rfl (lv_at hl 0 rfl) ?_
        refine lv_if_eq (x := 1) (tgt := 114) hx hb dX5_mayGo_71 (by decide) (fun c71 => ?_) (fun c71 => ?_)
        · skip
          exact absurd c71 (by decide)
        · skip
          refine lv_aload_n hx hb dX5_mayGo_74 rfl (lv_at hl 1 rfl) ?_
          refine lv_iload_n hx hb dX5_mayGo_75 rfl (lv_at hl 3 rfl) ?_
          refine lv_aload_n hx hb dX5_mayGo_76 rfl (lv_at hl 1 rfl) ?_
          refine lv_iload_n hx hb dX5_mayGo_77 rfl (lv_at hl 2 rfl) ?_
          refine x_callR (As := [.int (nI c)]) (rest := [.int (nI k0), .ref mA]) (ci := 5) (q0 := 0) ⟨hx, hb, hml, hown, hts⟩ (mX5_isUrgentNow l G mA ma cols n pac opac rpac alike pulls len lmv mov ther fresh bup bsum urg c (by first | assumption | omega)) (cwV 1 hts gX5_mayGo_X5_isUrgentNow rfl rfl rfl (by decide +kernel) ⟨Nat.le_of_ble_eq_true rfl, Nat.le_of_ble_eq_true rfl⟩) hK hP hD [0, 5] rfl rfl rfl rfl rfl rfl rfl hl.1 rfl (Nat.le_of_ble_eq_true rfl) dX5_mayGo_78 ⟨Nat.zero_le _, Nat.zero_le _⟩ (fun r hr => ?_)
          subst hr
          refine x_top (y := b2 (decide (urgP urg alike c) = true)) (b2_dec) ?_
          refine x_callR (As := [.int (nI k0), .int (b2 (decide (urgP urg alike c) = true))]) (rest := []) (ci := 5) (q0 := 0) ⟨hx, hb, hml, hown, hts⟩ (mX5_inColumn l G mA ma cols n pac opac rpac alike pulls len lmv mov ther fresh bup bsum place urg k0 (decide (urgP urg alike c)) (by first | assumption | omega) (by first | assumption | omega)) (cwV 2 hts gX5_mayGo_X5_inColumn rfl rfl rfl (by decide +kernel) ⟨Nat.le_of_ble_eq_true rfl, Nat.le_of_ble_eq_true rfl⟩) hK hP hD [0, 1, 5] rfl rfl rfl rfl rfl rfl rfl hl.1 rfl (Nat.le_of_ble_eq_true rfl) dX5_mayGo_81 ⟨Nat.zero_le _, Nat.zero_le _⟩ (fun r hr => ?_)
          subst hr
          refine lv_aload_n hx hb dX5_mayGo_84 rfl (lv_at hl 1 rfl) ?_
          refine lv_iload_n hx hb dX5_mayGo_85 rfl (lv_at hl 2 rfl) ?_
          refine x_callR (As := [.int (nI c)]) (rest := [.int (nI (cnt (fun b => ciP urg alike (decide (urgP urg alike c)) k0 place b) n))]) (ci := 5) (q0 := 0) ⟨hx, hb, hml, hown, hts⟩ (mX5_isUrgentNow l G mA ma cols n pac opac rpac alike pulls len lmv mov ther fresh bup bsum urg c (by first | assumption | omega)) (cwV 1 hts gX5_mayGo_X5_isUrgentNow rfl rfl rfl (by decide +kernel) ⟨Nat.le_of_ble_eq_true rfl, Nat.le_of_ble_eq_true rfl⟩) hK hP hD [0, 5] rfl rfl rfl rfl rfl rfl rfl hl.1 rfl (Nat.le_of_ble_eq_true rfl) dX5_mayGo_86 ⟨Nat.zero_le _, Nat.zero_le _⟩ (fun r hr => ?_)
          subst hr
          refine x_if_eq (P := urgP urg alike c) (tgt := 101) hx hb dX5_mayGo_89 (by decide) (fun c89 => ?_) (fun c89 => ?_)
          · skip
            have hcap : caI urg rl rn alike k0 c = rl k0 := if_neg c89
            refine lv_aload_n hx hb dX5_mayGo_101 rfl (lv_at hl 1 rfl) ?_
            refine va_get (D := xD G) (ci := 5) (v := .ref (ma 16)) (C := RX5) (T := TX5) (N := 42) hx hb hts inX5 hown hK hP 0 rfl rfl 16 (by decide) kl57 (fun _ h9 => h9) rfl dX5_mayGo_102 ?_
            refine lv_iload_n hx hb dX5_mayGo_105 rfl (lv_at hl 3 rfl) ?_
            refine x_iald (i := k0) hx hb hK hP 7 rfl (by first | omega | assumption) (by omega) dX5_mayGo_106 ?_
            refine lv_icmp_ge (x := nI (cnt (fun b => ciP urg alike (decide (urgP urg alike c)) k0 place b) n)) (y := rl k0) (tgt := 114) hx hb dX5_mayGo_107 (by decide) (fun c107 => ?_) (fun c107 => ?_)
            · skip
              refine lv_iconst (v := 0) hx hb dX5_mayGo_114 (by decide) ?_
              exact hq 0 115 ls dX5_mayGo_115 rfl ((b2_f (fun h => h.2 (by rw [hcap]; exact c107))).symm)
            · skip
              refine lv_iconst (v := 1) hx hb dX5_mayGo_110 (by decide) ?_
              refine lv_goto (tgt := 115) hx hb dX5_mayGo_111 (by decide) ?_
              exact hq 1 115 ls dX5_mayGo_115 rfl ((b2_t ⟨Or.inl ⟨c8, c12, c20⟩, by rw [hcap]; exact c107⟩).symm)
          · skip
            have hcap : caI urg rl rn alike k0 c = rn k0 := if_pos c89
            refine lv_aload_n hx hb dX5_mayGo_92 rfl (lv_at hl 1 rfl) ?_
            refine va_get (D := xD G) (ci := 5) (v := .ref (ma 17)) (C := RX5) (T := TX5) (N := 42) hx hb hts inX5 hown hK hP 0 rfl rfl 17 (by decide) kl60 (fun _ h9 => h9) rfl dX5_mayGo_93 ?_
            refine lv_iload_n hx hb dX5_mayGo_96 rfl (lv_at hl 3 rfl) ?_
            refine x_iald (i := k0) hx hb hK hP 8 rfl (by first | omega | assumption) (by omega) dX5_mayGo_97 ?_
            refine lv_goto (tgt := 107) hx hb dX5_mayGo_98 (by decide) ?_
            refine lv_icmp_ge (x := nI (cnt (fun b => ciP urg alike (decide (urgP urg alike c)) k0 place b) n)) (y := rn k0) (tgt := 114) hx hb dX5_mayGo_107 (by decide) (fun c107 => ?_) (fun c107 => ?_)
            · skip
              refine lv_iconst (v := 0) hx hb dX5_mayGo_114 (by decide) ?_
              exact hq 0 115 ls dX5_mayGo_115 rfl ((b2_f (fun h => h.2 (by rw [hcap]; exact c107))).symm)
            · skip
              refine lv_iconst (v := 1) hx hb dX5_mayGo_110 (by decide) ?_
              refine lv_goto (tgt := 115) hx hb dX5_mayGo_111 (by decide) ?_
              exact hq 1 115 ls dX5_mayGo_115 rfl ((b2_t ⟨Or.inl ⟨c8, c12, c20⟩, by rw [hcap]; exact c107⟩).symm)
set_option maxHeartbeats 4000000 in
set_option maxRecDepth 100000 in
theorem mX5_isAhead (l : Launch) (G : xG) (mA : Nat) (ma : Nat → Nat) (cols : Int32) (n : Nat) (pac : Int32) (opac : Int32) (rpac : Int32) (alike : Int32) (pulls : Int32) (len : Int32) (lmv : Int32) (mov : Int32) (ther : Int32) (fresh : Int32) (bup : Int32) (bsum : Int32) (urg : Nat → Int32) (cday : Nat → Int32) (c : Nat) (x0 : Nat)  (hc : c < 16) (hx : x0 < 16) : xR l yX5_isAhead wsX5_isAhead ({ frames := 1, cells := 0, slots := 0, locals := 21 } : Room) [.ref mA, .int (nI c), .int (nI x0)] G [oModel mA ma cols (nI n) pac opac rpac alike pulls len lmv mov ther fresh bup bsum, xZ G (ma 11) 16 urg, xI G (ma 10) 16 cday] (fun r => r = b2 (ahP urg cday alike c x0)) := by
  refine xR_of (cc := cX5_isAhead) (maxL := 3) (ty := .boolean) (by decide) rfl (Nat.le_of_ble_eq_true rfl) ?_
  intro p e s m below meth cO ls Q hx hb hml hown hts hP hK hD hl hq
  have hown : s.vm.findClass RX5 = some m.cls := hown
  have kl38 := hts (.fieldLink RX5 38 "WorkBoardModel" "come" "[I") (List.mem_of_getElem? (i := 1) rfl)
  have inX5 : ∀ w ∈ u_ws RX5 TX5 42, w ∈ wsX5_isAhead := (fun w h => List.mem_cons_of_mem _ (List.mem_append_right _ h))
  have hl : lv_has ls 3 [(0, .ref mA), (1, .int (nI c)), (2, .int (nI x0))] := hl
  have hP : va_P (xD G) vwCl [oModel mA ma cols (nI n) pac opac rpac alike pulls len lmv mov ther fresh bup bsum, xZ G (ma 11) 16 urg, xI G (ma 10) 16 cday] s.heap := hP
  refine lv_aload_n hx hb dX5_isAhead_0 rfl (lv_at hl 0 rfl) ?_
  refine lv_iload_n hx hb dX5_isAhead_1 rfl (lv_at hl 1 rfl) ?_
  refine x_callR (As := [.int (nI c)]) (rest := []) (ci := 5) (q0 := 0) ⟨hx, hb, hml, hown, hts⟩ (mX5_isUrgentNow l G mA ma cols n pac opac rpac alike pulls len lmv mov ther fresh bup bsum urg c (by first | assumption | omega)) (cwV 1 hts gX5_isAhead_X5_isUrgentNow rfl rfl rfl (by decide +kernel) ⟨Nat.le_of_ble_eq_true rfl, Nat.le_of_ble_eq_true rfl⟩) hK hP hD [0, 1] rfl rfl rfl rfl rfl rfl rfl hl.1 rfl (Nat.le_of_ble_eq_true rfl) dX5_isAhead_2 ⟨Nat.zero_le _, Nat.zero_le _⟩ (fun r hr => ?_)
  subst hr
  refine lv_aload_n hx hb dX5_isAhead_5 rfl (lv_at hl 0 rfl) ?_
  refine lv_iload_n hx hb dX5_isAhead_6 rfl (lv_at hl 2 rfl) ?_
  refine x_callR (As := [.int (nI x0)]) (rest := [.int (b2 (urgP urg alike c))]) (ci := 5) (q0 := 0) ⟨hx, hb, hml, hown, hts⟩ (mX5_isUrgentNow l G mA ma cols n pac opac rpac alike pulls len lmv mov ther fresh bup bsum urg x0 (by first | assumption | omega)) (cwV 1 hts gX5_isAhead_X5_isUrgentNow rfl rfl rfl (by decide +kernel) ⟨Nat.le_of_ble_eq_true rfl, Nat.le_of_ble_eq_true rfl⟩) hK hP hD [0, 1] rfl rfl rfl rfl rfl rfl rfl hl.1 rfl (Nat.le_of_ble_eq_true rfl) dX5_isAhead_7 ⟨Nat.zero_le _, Nat.zero_le _⟩ (fun r hr => ?_)
  subst hr
  refine x_bcmp_eq (P := urgP urg alike c) (U := urgP urg alike x0) (tgt := 19) hx hb dX5_isAhead_10 (by decide) (fun c10 => ?_) (fun c10 => ?_)
  · skip
    refine lv_aload_n hx hb dX5_isAhead_19 rfl (lv_at hl 0 rfl) ?_
    refine va_get (D := xD G) (ci := 5) (v := .ref (ma 10)) (C := RX5) (T := TX5) (N := 42) hx hb hts inX5 hown hK hP 0 rfl rfl 10 (by decide) kl38 (fun _ h9 => h9) rfl dX5_isAhead_20 ?_
    refine lv_iload_n hx hb dX5_isAhead_23 rfl (lv_at hl 1 rfl) ?_
    refine x_iald (i := c) hx hb hK hP 2 rfl (by first | omega | assumption) (by omega) dX5_isAhead_24 ?_
    refine lv_aload_n hx hb dX5_isAhead_25 rfl (lv_at hl 0 rfl) ?_
    refine va_get (D := xD G) (ci := 5) (v := .ref (ma 10)) (C := RX5) (T := TX5) (N := 42) hx hb hts inX5 hown hK hP 0 rfl rfl 10 (by decide) kl38 (fun _ h9 => h9) rfl dX5_isAhead_26 ?_
    refine lv_iload_n hx hb dX5_isAhead_29 rfl (lv_at hl 2 rfl) ?_
    refine x_iald (i := x0) hx hb hK hP 2 rfl (by first | omega | assumption) (by omega) dX5_isAhead_30 ?_
    refine lv_icmp_ge (x := cday c) (y := cday x0) (tgt := 38) hx hb dX5_isAhead_31 (by decide) (fun c31 => ?_) (fun c31 => ?_)
    · skip
      refine lv_iconst (v := 0) hx hb dX5_isAhead_38 (by decide) ?_
      exact hq 0 39 ls dX5_isAhead_39 rfl ((b2_f (fun q => q.elim (fun z => z.1 c10) (fun z => z.2 c31))).symm)
    · skip
      refine lv_iconst (v := 1) hx hb dX5_isAhead_34 (by decide) ?_
      refine lv_goto (tgt := 39) hx hb dX5_isAhead_35 (by decide) ?_
      exact hq 1 39 ls dX5_isAhead_39 rfl ((b2_t (Or.inr ⟨c10, c31⟩)).symm)
  · skip
    refine lv_aload_n hx hb dX5_isAhead_13 rfl (lv_at hl 0 rfl) ?_
    refine lv_iload_n hx hb dX5_isAhead_14 rfl (lv_at hl 1 rfl) ?_
    refine x_callR (As := [.int (nI c)]) (rest := []) (ci := 5) (q0 := 0) ⟨hx, hb, hml, hown, hts⟩ (mX5_isUrgentNow l G mA ma cols n pac opac rpac alike pulls len lmv mov ther fresh bup bsum urg c (by first | assumption | omega)) (cwV 1 hts gX5_isAhead_X5_isUrgentNow rfl rfl rfl (by decide +kernel) ⟨Nat.le_of_ble_eq_true rfl, Nat.le_of_ble_eq_true rfl⟩) hK hP hD [0, 1] rfl rfl rfl rfl rfl rfl rfl hl.1 rfl (Nat.le_of_ble_eq_true rfl) dX5_isAhead_15 ⟨Nat.zero_le _, Nat.zero_le _⟩ (fun r hr => ?_)
    subst hr
    exact hq (b2 (urgP urg alike c)) 18 ls dX5_isAhead_18 (b2_nr _) (b2_c ⟨fun q => Or.inl ⟨c10, q⟩, fun q => q.elim (fun z => z.2) (fun z => absurd z.1 c10)⟩)
set_option maxHeartbeats 4000000 in
set_option maxRecDepth 100000 in
theorem mX5_age (l : Launch) (G : xG) (mA : Nat) (ma : Nat → Nat) (cols : Int32) (n : Nat) (pac : Int32) (opac : Int32) (rpac : Int32) (alike : Int32) (pulls : Int32) (len : Int32) (lmv : Int32) (mov : Int32) (ther : Int32) (fresh : Int32) (bup : Int32) (bsum : Int32) (don : Nat → Int32) (cday : Nat → Int32) (c : Nat)  (hc : c < 16) : xR l yX5_age wsX5_age ({ frames := 0, cells := 0, slots := 0, locals := 0 } : Room) [.ref mA, .int (nI c)] G [oModel mA ma cols (nI n) pac opac rpac alike pulls len lmv mov ther fresh bup bsum, xI G (ma 27) 16 don, xI G (ma 10) 16 cday] (fun r => r = agM don cday c) := by
  refine xR_of (cc := cX5_age) (maxL := 2) (ty := .int) (by decide) rfl (Nat.le_of_ble_eq_true rfl) ?_
  intro p e s m below meth cO ls Q hx hb hml hown hts hP hK hD hl hq
  have hown : s.vm.findClass RX5 = some m.cls := hown
  have kl84 := hts (.fieldLink RX5 84 "WorkBoardModel" "doneOn" "[I") (List.mem_of_getElem? (i := 1) rfl)
  have kl38 := hts (.fieldLink RX5 38 "WorkBoardModel" "come" "[I") (List.mem_of_getElem? (i := 2) rfl)
  have inX5 : ∀ w ∈ u_ws RX5 TX5 42, w ∈ wsX5_age := (fun w h => List.mem_cons_of_mem _ (List.mem_append_right _ h))
  have hl : lv_has ls 2 [(0, .ref mA), (1, .int (nI c))] := hl
  have hP : va_P (xD G) vwCl [oModel mA ma cols (nI n) pac opac rpac alike pulls len lmv mov ther fresh bup bsum, xI G (ma 27) 16 don, xI G (ma 10) 16 cday] s.heap := hP
  refine lv_aload_n hx hb dX5_age_0 rfl (lv_at hl 0 rfl) ?_
  refine va_get (D := xD G) (ci := 5) (v := .ref (ma 27)) (C := RX5) (T := TX5) (N := 42) hx hb hts inX5 hown hK hP 0 rfl rfl 27 (by decide) kl84 (fun _ h9 => h9) rfl dX5_age_1 ?_
  refine lv_iload_n hx hb dX5_age_4 rfl (lv_at hl 1 rfl) ?_
  refine x_iald (i := c) hx hb hK hP 1 rfl (by first | omega | assumption) (by omega) dX5_age_5 ?_
  refine lv_if_ge (x := don c) (tgt := 13) hx hb dX5_age_6 (by decide) (fun c6 => ?_) (fun c6 => ?_)
  · skip
    refine lv_aload_n hx hb dX5_age_13 rfl (lv_at hl 0 rfl) ?_
    refine va_get (D := xD G) (ci := 5) (v := .ref (ma 27)) (C := RX5) (T := TX5) (N := 42) hx hb hts inX5 hown hK hP 0 rfl rfl 27 (by decide) kl84 (fun _ h9 => h9) rfl dX5_age_14 ?_
    refine lv_iload_n hx hb dX5_age_17 rfl (lv_at hl 1 rfl) ?_
    refine x_iald (i := c) hx hb hK hP 1 rfl (by first | omega | assumption) (by omega) dX5_age_18 ?_
    refine lv_aload_n hx hb dX5_age_19 rfl (lv_at hl 0 rfl) ?_
    refine va_get (D := xD G) (ci := 5) (v := .ref (ma 10)) (C := RX5) (T := TX5) (N := 42) hx hb hts inX5 hown hK hP 0 rfl rfl 10 (by decide) kl38 (fun _ h9 => h9) rfl dX5_age_20 ?_
    refine lv_iload_n hx hb dX5_age_23 rfl (lv_at hl 1 rfl) ?_
    refine x_iald (i := c) hx hb hK hP 2 rfl (by first | omega | assumption) (by omega) dX5_age_24 ?_
    refine lv_isub hx hb dX5_age_25 ?_
    refine lv_iconst (v := 1) hx hb dX5_age_26 (by decide) ?_
    refine lv_iadd hx hb dX5_age_27 ?_
    exact hq (((don c) - (cday c)) + 1) 28 ls dX5_age_28 rfl ((if_pos c6).symm)
  · skip
    refine lv_iconst (v := (-1)) hx hb dX5_age_9 (by decide) ?_
    refine lv_goto (tgt := 28) hx hb dX5_age_10 (by decide) ?_
    exact hq (-1) 28 ls dX5_age_28 rfl ((if_neg c6).symm)
set_option maxHeartbeats 4000000 in
set_option maxRecDepth 100000 in
theorem mX5_ages (l : Launch) (G : xG) (mA : Nat) (ma : Nat → Nat) (cols : Int32) (n : Nat) (pac : Int32) (opac : Int32) (rpac : Int32) (alike : Int32) (pulls : Int32) (len : Int32) (lmv : Int32) (mov : Int32) (ther : Int32) (fresh : Int32) (bup : Int32) (bsum : Int32) (don : Nat → Int32) (cday : Nat → Int32)  (hn : n ≤ 16) : xR l yX5_ages wsX5_ages ({ frames := 1, cells := 0, slots := 0, locals := 21 } : Room) [.ref mA] G [oModel mA ma cols (nI n) pac opac rpac alike pulls len lmv mov ther fresh bup bsum, xI G (ma 27) 16 don, xI G (ma 10) 16 cday] (fun r => r = sumI (agM don cday) n) := by
  refine xR_of (cc := cX5_ages) (maxL := 3) (ty := .int) (by decide) rfl (Nat.le_of_ble_eq_true rfl) ?_
  intro p e s m below meth cO ls Q hx hb hml hown hts hP hK hD hl hq
  have hown : s.vm.findClass RX5 = some m.cls := hown
  have kl105 := hts (.fieldLink RX5 105 "WorkBoardModel" "cards" "I") (List.mem_of_getElem? (i := 1) rfl)
  have inX5 : ∀ w ∈ u_ws RX5 TX5 42, w ∈ wsX5_ages := (fun w h => List.mem_cons_of_mem _ (List.mem_append_right _ h))
  have hl : lv_has ls 3 [(0, .ref mA)] := hl
  have hP : va_P (xD G) vwCl [oModel mA ma cols (nI n) pac opac rpac alike pulls len lmv mov ther fresh bup bsum, xI G (ma 27) 16 don, xI G (ma 10) 16 cday] s.heap := hP
  refine lv_iconst (v := 0) hx hb dX5_ages_0 (by decide) ?_
  refine lv_istore_n (lv' := [(1, .int 0), (0, .ref mA)]) hx hb dX5_ages_1 rfl hl (by decide) rfl (fun ls hl => ?_)
  refine lv_iconst (v := 0) hx hb dX5_ages_2 (by decide) ?_
  refine lv_istore_n (lv' := [(2, .int 0), (1, .int 0), (0, .ref mA)]) hx hb dX5_ages_3 rfl hl (by decide) rfl (fun ls hl => ?_)
  have L4 : ∀ (kk4 i : Nat) (x : Int32), i ≤ n → n + 1 ≤ i + kk4 → (x = sumI (agM don cday) i) → ∀ (ls : Array Slot), lv_has ls 3 [(2, .int (nI i)), (1, .int x), (0, .ref mA)] → W p l e ({ frames := 1, cells := 0, slots := 0, locals := 21 } : Room) s m #[Value.ref mA] below meth cO s.heap [] 0 0 Q (F0 m 4 ls []) := by
    intro kk4
    induction kk4 with
    | zero => intro i x h1 h2; exact absurd h2 (by omega)
    | succ kk4 ih4 =>
      intro i x hi4 hk4 ex ls hl
      refine lv_iload_n hx hb dX5_ages_4 rfl (lv_at hl 0 rfl) ?_
      refine lv_aload_n hx hb dX5_ages_5 rfl (lv_at hl 2 rfl) ?_
      refine va_get (D := xD G) (ci := 5) (v := .int (nI n)) (C := RX5) (T := TX5) (N := 42) hx hb hts inX5 hown hK hP 0 rfl rfl 1 (by decide) kl105 (fun _ h9 => h9) rfl dX5_ages_6 ?_
      refine x_icmp_ge (x := i) (y := n) (tgt := 26) hx hb (by omega) (by omega) dX5_ages_9 (by decide) (fun c9 => ?_) (fun c9 => ?_)
      · skip
        have e_2 : i = n := by omega
        rw [e_2] at ex
        subst ex
        refine lv_iload_n hx hb dX5_ages_26 rfl (lv_at hl 1 rfl) ?_
        exact hq (sumI (agM don cday) n) 27 ls dX5_ages_27 rfl rfl
      · skip
        refine lv_iload_n hx hb dX5_ages_12 rfl (lv_at hl 1 rfl) ?_
        refine lv_aload_n hx hb dX5_ages_13 rfl (lv_at hl 2 rfl) ?_
        refine lv_iload_n hx hb dX5_ages_14 rfl (lv_at hl 0 rfl) ?_
        refine x_callR (As := [.int (nI i)]) (rest := [.int x]) (ci := 5) (q0 := 0) ⟨hx, hb, hml, hown, hts⟩ (mX5_age l G mA ma cols n pac opac rpac alike pulls len lmv mov ther fresh bup bsum don cday i (by first | assumption | omega)) (cwV 1 hts gX5_ages_X5_age rfl rfl rfl (by decide +kernel) ⟨Nat.le_of_ble_eq_true rfl, Nat.le_of_ble_eq_true rfl⟩) hK hP hD [0, 1, 2] rfl rfl rfl rfl rfl rfl rfl hl.1 rfl (Nat.le_of_ble_eq_true rfl) dX5_ages_15 ⟨Nat.zero_le _, Nat.zero_le _⟩ (fun r hr => ?_)
        subst hr
        refine lv_iadd hx hb dX5_ages_18 ?_
        refine lv_istore_n (lv' := [(1, .int (x + (agM don cday i))), (2, .int (nI i)), (0, .ref mA)]) hx hb dX5_ages_19 rfl hl (by decide) rfl (fun ls hl => ?_)
        refine lv_iinc (v := nI (i + 1)) (lv' := [(2, .int (nI (i + 1))), (1, .int (x + (agM don cday i))), (0, .ref mA)]) hx hb dX5_ages_20 hl (k := 1) rfl (by exact nI_add i 1) (by decide) rfl (fun ls hl => ?_)
        refine lv_goto (tgt := 4) hx hb dX5_ages_23 (by decide) ?_
        exact ih4 (i + 1) (x + (agM don cday i)) (by omega) (by omega) (by rw [ex]; rfl) ls (lv_sub hl [0, 1, 2] rfl)
  exact L4 (n + 1) 0 0 (by omega) (by omega) (rfl) ls (lv_sub hl [0, 1, 2] rfl)
set_option maxHeartbeats 4000000 in
set_option maxRecDepth 100000 in
theorem mX5_plainAges (l : Launch) (G : xG) (mA : Nat) (ma : Nat → Nat) (cols : Int32) (n : Nat) (pac : Int32) (opac : Int32) (rpac : Int32) (alike : Int32) (pulls : Int32) (len : Int32) (lmv : Int32) (mov : Int32) (ther : Int32) (fresh : Int32) (bup : Int32) (bsum : Int32) (don : Nat → Int32) (cday : Nat → Int32) (urg : Nat → Int32)  (hn : n ≤ 16) : xR l yX5_plainAges wsX5_plainAges ({ frames := 1, cells := 0, slots := 0, locals := 21 } : Room) [.ref mA] G [oModel mA ma cols (nI n) pac opac rpac alike pulls len lmv mov ther fresh bup bsum, xI G (ma 27) 16 don, xI G (ma 10) 16 cday, xZ G (ma 11) 16 urg] (fun r => r = sumI (fun b => if urg b = 0 then agM don cday b else 0) n) := by
  refine xR_of (cc := cX5_plainAges) (maxL := 3) (ty := .int) (by decide) rfl (Nat.le_of_ble_eq_true rfl) ?_
  intro p e s m below meth cO ls Q hx hb hml hown hts hP hK hD hl hq
  have hown : s.vm.findClass RX5 = some m.cls := hown
  have kl105 := hts (.fieldLink RX5 105 "WorkBoardModel" "cards" "I") (List.mem_of_getElem? (i := 1) rfl)
  have kl41 := hts (.fieldLink RX5 41 "WorkBoardModel" "isUrgent" "[Z") (List.mem_of_getElem? (i := 2) rfl)
  have inX5 : ∀ w ∈ u_ws RX5 TX5 42, w ∈ wsX5_plainAges := (fun w h => List.mem_cons_of_mem _ (List.mem_append_right _ h))
  have hl : lv_has ls 3 [(0, .ref mA)] := hl
  have hP : va_P (xD G) vwCl [oModel mA ma cols (nI n) pac opac rpac alike pulls len lmv mov ther fresh bup bsum, xI G (ma 27) 16 don, xI G (ma 10) 16 cday, xZ G (ma 11) 16 urg] s.heap := hP
  refine lv_iconst (v := 0) hx hb dX5_plainAges_0 (by decide) ?_
  refine lv_istore_n (lv' := [(1, .int 0), (0, .ref mA)]) hx hb dX5_plainAges_1 rfl hl (by decide) rfl (fun ls hl => ?_)
  refine lv_iconst (v := 0) hx hb dX5_plainAges_2 (by decide) ?_
  refine lv_istore_n (lv' := [(2, .int 0), (1, .int 0), (0, .ref mA)]) hx hb dX5_plainAges_3 rfl hl (by decide) rfl (fun ls hl => ?_)
  have L4 : ∀ (kk4 i : Nat) (x : Int32), i ≤ n → n + 1 ≤ i + kk4 → (x = sumI (fun b => if urg b = 0 then agM don cday b else 0) i) → ∀ (ls : Array Slot), lv_has ls 3 [(2, .int (nI i)), (1, .int x), (0, .ref mA)] → W p l e ({ frames := 1, cells := 0, slots := 0, locals := 21 } : Room) s m #[Value.ref mA] below meth cO s.heap [] 0 0 Q (F0 m 4 ls []) := by
    intro kk4
    induction kk4 with
    | zero => intro i x h1 h2; exact absurd h2 (by omega)
    | succ kk4 ih4 =>
      intro i x hi4 hk4 ex ls hl
      refine lv_iload_n hx hb dX5_plainAges_4 rfl (lv_at hl 0 rfl) ?_
      refine lv_aload_n hx hb dX5_plainAges_5 rfl (lv_at hl 2 rfl) ?_
      refine va_get (D := xD G) (ci := 5) (v := .int (nI n)) (C := RX5) (T := TX5) (N := 42) hx hb hts inX5 hown hK hP 0 rfl rfl 1 (by decide) kl105 (fun _ h9 => h9) rfl dX5_plainAges_6 ?_
      refine x_icmp_ge (x := i) (y := n) (tgt := 39) hx hb (by omega) (by omega) dX5_plainAges_9 (by decide) (fun c9 => ?_) (fun c9 => ?_)
      · skip
        have e_2 : i = n := by omega
        rw [e_2] at ex
        subst ex
        refine lv_iload_n hx hb dX5_plainAges_39 rfl (lv_at hl 1 rfl) ?_
        exact hq (sumI (fun b => if urg b = 0 then agM don cday b else 0) n) 40 ls dX5_plainAges_40 rfl rfl
      · skip
        refine lv_iload_n hx hb dX5_plainAges_12 rfl (lv_at hl 1 rfl) ?_
        refine lv_aload_n hx hb dX5_plainAges_13 rfl (lv_at hl 2 rfl) ?_
        refine va_get (D := xD G) (ci := 5) (v := .ref (ma 11)) (C := RX5) (T := TX5) (N := 42) hx hb hts inX5 hown hK hP 0 rfl rfl 11 (by decide) kl41 (fun _ h9 => h9) rfl dX5_plainAges_14 ?_
        refine lv_iload_n hx hb dX5_plainAges_17 rfl (lv_at hl 0 rfl) ?_
        refine x_zald (i := i) hx hb hK hP 3 rfl (by first | omega | assumption) (by omega) dX5_plainAges_18 ?_
        refine lv_if_eq (x := urg i) (tgt := 26) hx hb dX5_plainAges_19 (by decide) (fun c19 => ?_) (fun c19 => ?_)
        · skip
          refine lv_aload_n hx hb dX5_plainAges_26 rfl (lv_at hl 2 rfl) ?_
          refine lv_iload_n hx hb dX5_plainAges_27 rfl (lv_at hl 0 rfl) ?_
          refine x_callR (As := [.int (nI i)]) (rest := [.int x]) (ci := 5) (q0 := 0) ⟨hx, hb, hml, hown, hts⟩ (mX5_age l G mA ma cols n pac opac rpac alike pulls len lmv mov ther fresh bup bsum don cday i (by first | assumption | omega)) (cwV 1 hts gX5_plainAges_X5_age rfl rfl rfl (by decide +kernel) ⟨Nat.le_of_ble_eq_true rfl, Nat.le_of_ble_eq_true rfl⟩) hK hP hD [0, 1, 2] rfl rfl rfl rfl rfl rfl rfl hl.1 rfl (Nat.le_of_ble_eq_true rfl) dX5_plainAges_28 ⟨Nat.zero_le _, Nat.zero_le _⟩ (fun r hr => ?_)
          subst hr
          refine lv_iadd hx hb dX5_plainAges_31 ?_
          refine lv_istore_n (lv' := [(1, .int (x + (agM don cday i))), (2, .int (nI i)), (0, .ref mA)]) hx hb dX5_plainAges_32 rfl hl (by decide) rfl (fun ls hl => ?_)
          refine lv_iinc (v := nI (i + 1)) (lv' := [(2, .int (nI (i + 1))), (1, .int (x + (agM don cday i))), (0, .ref mA)]) hx hb dX5_plainAges_33 hl (k := 1) rfl (by exact nI_add i 1) (by decide) rfl (fun ls hl => ?_)
          refine lv_goto (tgt := 4) hx hb dX5_plainAges_36 (by decide) ?_
          exact ih4 (i + 1) (x + (agM don cday i)) (by omega) (by omega) (by rw [ex]; simp only [sumI]; rw [if_pos c19]) ls (lv_sub hl [0, 1, 2] rfl)
        · skip
          refine lv_iconst (v := 0) hx hb dX5_plainAges_22 (by decide) ?_
          refine lv_goto (tgt := 31) hx hb dX5_plainAges_23 (by decide) ?_
          refine lv_iadd hx hb dX5_plainAges_31 ?_
          refine lv_istore_n (lv' := [(1, .int (x + 0)), (2, .int (nI i)), (0, .ref mA)]) hx hb dX5_plainAges_32 rfl hl (by decide) rfl (fun ls hl => ?_)
          refine lv_iinc (v := nI (i + 1)) (lv' := [(2, .int (nI (i + 1))), (1, .int (x + 0)), (0, .ref mA)]) hx hb dX5_plainAges_33 hl (k := 1) rfl (by exact nI_add i 1) (by decide) rfl (fun ls hl => ?_)
          refine lv_goto (tgt := 4) hx hb dX5_plainAges_36 (by decide) ?_
          exact ih4 (i + 1) (x + 0) (by omega) (by omega) (by rw [ex]; simp only [sumI]; rw [if_neg c19]) ls (lv_sub hl [0, 1, 2] rfl)
  exact L4 (n + 1) 0 0 (by omega) (by omega) (rfl) ls (lv_sub hl [0, 1, 2] rfl)
set_option maxHeartbeats 4000000 in
set_option maxRecDepth 100000 in
theorem mX5_lastComes (l : Launch) (G : xG) (mA : Nat) (ma : Nat → Nat) (cols : Int32) (n : Nat) (pac : Int32) (opac : Int32) (rpac : Int32) (alike : Int32) (pulls : Int32) (len : Int32) (lmv : Int32) (mov : Int32) (ther : Int32) (fresh : Int32) (bup : Int32) (bsum : Int32) (cday : Nat → Int32)  (hn : n ≤ 16) : xR l yX5_lastComes wsX5_lastComes ({ frames := 0, cells := 0, slots := 0, locals := 0 } : Room) [.ref mA] G [oModel mA ma cols (nI n) pac opac rpac alike pulls len lmv mov ther fresh bup bsum, xI G (ma 10) 16 cday] (fun r => r = lmF cday n) := by
  refine xR_of (cc := cX5_lastComes) (maxL := 3) (ty := .int) (by decide) rfl (Nat.le_of_ble_eq_true rfl) ?_
  intro p e s m below meth cO ls Q hx hb hml hown hts hP hK hD hl hq
  have hown : s.vm.findClass RX5 = some m.cls := hown
  have kl105 := hts (.fieldLink RX5 105 "WorkBoardModel" "cards" "I") (List.mem_of_getElem? (i := 1) rfl)
  have kl38 := hts (.fieldLink RX5 38 "WorkBoardModel" "come" "[I") (List.mem_of_getElem? (i := 2) rfl)
  have inX5 : ∀ w ∈ u_ws RX5 TX5 42, w ∈ wsX5_lastComes := (fun w h => List.mem_cons_of_mem _ (List.mem_append_right _ h))
  have hl : lv_has ls 3 [(0, .ref mA)] := hl
  have hP : va_P (xD G) vwCl [oModel mA ma cols (nI n) pac opac rpac alike pulls len lmv mov ther fresh bup bsum, xI G (ma 10) 16 cday] s.heap := hP
  refine lv_iconst (v := 0) hx hb dX5_lastComes_0 (by decide) ?_
  refine lv_istore_n (lv' := [(1, .int 0), (0, .ref mA)]) hx hb dX5_lastComes_1 rfl hl (by decide) rfl (fun ls hl => ?_)
  refine lv_iconst (v := 0) hx hb dX5_lastComes_2 (by decide) ?_
  refine lv_istore_n (lv' := [(2, .int 0), (1, .int 0), (0, .ref mA)]) hx hb dX5_lastComes_3 rfl hl (by decide) rfl (fun ls hl => ?_)
  have L4 : ∀ (kk4 i : Nat) (x : Int32), i ≤ n → n + 1 ≤ i + kk4 → (x = lmF cday i) → ∀ (ls : Array Slot), lv_has ls 3 [(2, .int (nI i)), (1, .int x), (0, .ref mA)] → W p l e ({ frames := 0, cells := 0, slots := 0, locals := 0 } : Room) s m #[Value.ref mA] below meth cO s.heap [] 0 0 Q (F0 m 4 ls []) := by
    intro kk4
    induction kk4 with
    | zero => intro i x h1 h2; exact absurd h2 (by omega)
    | succ kk4 ih4 =>
      intro i x hi4 hk4 ex ls hl
      refine lv_iload_n hx hb dX5_lastComes_4 rfl (lv_at hl 0 rfl) ?_
      refine lv_aload_n hx hb dX5_lastComes_5 rfl (lv_at hl 2 rfl) ?_
      refine va_get (D := xD G) (ci := 5) (v := .int (nI n)) (C := RX5) (T := TX5) (N := 42) hx hb hts inX5 hown hK hP 0 rfl rfl 1 (by decide) kl105 (fun _ h9 => h9) rfl dX5_lastComes_6 ?_
      refine x_icmp_ge (x := i) (y := n) (tgt := 39) hx hb (by omega) (by omega) dX5_lastComes_9 (by decide) (fun c9 => ?_) (fun c9 => ?_)
      · skip
        have e_2 : i = n := by omega
        rw [e_2] at ex
        subst ex
        refine lv_iload_n hx hb dX5_lastComes_39 rfl (lv_at hl 1 rfl) ?_
        exact hq (lmF cday n) 40 ls dX5_lastComes_40 rfl rfl
      · skip
        refine lv_aload_n hx hb dX5_lastComes_12 rfl (lv_at hl 2 rfl) ?_
        refine va_get (D := xD G) (ci := 5) (v := .ref (ma 10)) (C := RX5) (T := TX5) (N := 42) hx hb hts inX5 hown hK hP 0 rfl rfl 10 (by decide) kl38 (fun _ h9 => h9) rfl dX5_lastComes_13 ?_
        refine lv_iload_n hx hb dX5_lastComes_16 rfl (lv_at hl 0 rfl) ?_
        refine x_iald (i := i) hx hb hK hP 1 rfl (by first | omega | assumption) (by omega) dX5_lastComes_17 ?_
        refine lv_iload_n hx hb dX5_lastComes_18 rfl (lv_at hl 1 rfl) ?_
        refine lv_icmp_le (x := cday i) (y := x) (tgt := 31) hx hb dX5_lastComes_19 (by decide) (fun c19 => ?_) (fun c19 => ?_)
        · skip
          refine lv_iload_n hx hb dX5_lastComes_31 rfl (lv_at hl 1 rfl) ?_
          refine lv_istore_n (lv' := [(1, .int x), (2, .int (nI i)), (0, .ref mA)]) hx hb dX5_lastComes_32 rfl hl (by decide) rfl (fun ls hl => ?_)
          refine lv_iinc (v := nI (i + 1)) (lv' := [(2, .int (nI (i + 1))), (1, .int x), (0, .ref mA)]) hx hb dX5_lastComes_33 hl (k := 1) rfl (by exact nI_add i 1) (by decide) rfl (fun ls hl => ?_)
          refine lv_goto (tgt := 4) hx hb dX5_lastComes_36 (by decide) ?_
          exact ih4 (i + 1) x (by omega) (by omega) (by simp only [lmF, ← ex]; exact (if_pos c19).symm) ls (lv_sub hl [0, 1, 2] rfl)
        · skip
          refine lv_aload_n hx hb dX5_lastComes_22 rfl (lv_at hl 2 rfl) ?_
          refine va_get (D := xD G) (ci := 5) (v := .ref (ma 10)) (C := RX5) (T := TX5) (N := 42) hx hb hts inX5 hown hK hP 0 rfl rfl 10 (by decide) kl38 (fun _ h9 => h9) rfl dX5_lastComes_23 ?_
          refine lv_iload_n hx hb dX5_lastComes_26 rfl (lv_at hl 0 rfl) ?_
          refine x_iald (i := i) hx hb hK hP 1 rfl (by first | omega | assumption) (by omega) dX5_lastComes_27 ?_
          refine lv_goto (tgt := 32) hx hb dX5_lastComes_28 (by decide) ?_
          refine lv_istore_n (lv' := [(1, .int (cday i)), (2, .int (nI i)), (0, .ref mA)]) hx hb dX5_lastComes_32 rfl hl (by decide) rfl (fun ls hl => ?_)
          refine lv_iinc (v := nI (i + 1)) (lv' := [(2, .int (nI (i + 1))), (1, .int (cday i)), (0, .ref mA)]) hx hb dX5_lastComes_33 hl (k := 1) rfl (by exact nI_add i 1) (by decide) rfl (fun ls hl => ?_)
          refine lv_goto (tgt := 4) hx hb dX5_lastComes_36 (by decide) ?_
          exact ih4 (i + 1) (cday i) (by omega) (by omega) (by simp only [lmF, ← ex]; exact (if_neg c19).symm) ls (lv_sub hl [0, 1, 2] rfl)
  exact L4 (n + 1) 0 0 (by omega) (by omega) (rfl) ls (lv_sub hl [0, 1, 2] rfl)
set_option maxHeartbeats 4000000 in
set_option maxRecDepth 100000 in
theorem mX5_areDone (l : Launch) (G : xG) (mA : Nat) (ma : Nat → Nat) (cols : Int32) (n : Nat) (pac : Int32) (opac : Int32) (rpac : Int32) (alike : Int32) (pulls : Int32) (len : Int32) (lmv : Int32) (mov : Int32) (ther : Int32) (fresh : Int32) (bup : Int32) (bsum : Int32) (place : Nat → Int32)  (hn : n ≤ 16) : xR l yX5_areDone wsX5_areDone ({ frames := 0, cells := 0, slots := 0, locals := 0 } : Room) [.ref mA] G [oModel mA ma cols (nI n) pac opac rpac alike pulls len lmv mov ther fresh bup bsum, xI G (ma 21) 16 place] (fun r => r = b2 (cnt (fun b => place b = 10) n = n)) := by
  refine xR_of (cc := cX5_areDone) (maxL := 3) (ty := .boolean) (by decide) rfl (Nat.le_of_ble_eq_true rfl) ?_
  intro p e s m below meth cO ls Q hx hb hml hown hts hP hK hD hl hq
  have hown : s.vm.findClass RX5 = some m.cls := hown
  have kl105 := hts (.fieldLink RX5 105 "WorkBoardModel" "cards" "I") (List.mem_of_getElem? (i := 1) rfl)
  have kl66 := hts (.fieldLink RX5 66 "WorkBoardModel" "place" "[I") (List.mem_of_getElem? (i := 2) rfl)
  have inX5 : ∀ w ∈ u_ws RX5 TX5 42, w ∈ wsX5_areDone := (fun w h => List.mem_cons_of_mem _ (List.mem_append_right _ h))
  have hl : lv_has ls 3 [(0, .ref mA)] := hl
  have hP : va_P (xD G) vwCl [oModel mA ma cols (nI n) pac opac rpac alike pulls len lmv mov ther fresh bup bsum, xI G (ma 21) 16 place] s.heap := hP
  refine lv_iconst (v := 1) hx hb dX5_areDone_0 (by decide) ?_
  refine lv_istore_n (lv' := [(1, .int 1), (0, .ref mA)]) hx hb dX5_areDone_1 rfl hl (by decide) rfl (fun ls hl => ?_)
  refine lv_iconst (v := 0) hx hb dX5_areDone_2 (by decide) ?_
  refine lv_istore_n (lv' := [(2, .int 0), (1, .int 1), (0, .ref mA)]) hx hb dX5_areDone_3 rfl hl (by decide) rfl (fun ls hl => ?_)
  have L4 : ∀ (kk4 i : Nat) (x : Int32), i ≤ n → n + 1 ≤ i + kk4 → (x = b2 (cnt (fun b => place b = 10) i = i)) → ∀ (ls : Array Slot), lv_has ls 3 [(2, .int (nI i)), (1, .int x), (0, .ref mA)] → W p l e ({ frames := 0, cells := 0, slots := 0, locals := 0 } : Room) s m #[Value.ref mA] below meth cO s.heap [] 0 0 Q (F0 m 4 ls []) := by
    intro kk4
    induction kk4 with
    | zero => intro i x h1 h2; exact absurd h2 (by omega)
    | succ kk4 ih4 =>
      intro i x hi4 hk4 ex ls hl
      have hcl := cnt_le (fun b => place b = 10) i
      refine lv_iload_n hx hb dX5_areDone_4 rfl (lv_at hl 0 rfl) ?_
      refine lv_aload_n hx hb dX5_areDone_5 rfl (lv_at hl 2 rfl) ?_
      refine va_get (D := xD G) (ci := 5) (v := .int (nI n)) (C := RX5) (T := TX5) (N := 42) hx hb hts inX5 hown hK hP 0 rfl rfl 1 (by decide) kl105 (fun _ h9 => h9) rfl dX5_areDone_6 ?_
      refine x_icmp_ge (x := i) (y := n) (tgt := 39) hx hb (by omega) (by omega) dX5_areDone_9 (by decide) (fun c9 => ?_) (fun c9 => ?_)
      · skip
        have e_2 : i = n := by omega
        rw [e_2] at ex
        subst ex
        refine lv_iload_n hx hb dX5_areDone_39 rfl (lv_at hl 1 rfl) ?_
        exact hq (b2 (cnt (fun b => place b = 10) n = n)) 40 ls dX5_areDone_40 (b2_nr _) rfl
      · skip
        refine lv_iload_n hx hb dX5_areDone_12 rfl (lv_at hl 1 rfl) ?_
        refine lv_if_eq (x := x) (tgt := 31) hx hb dX5_areDone_13 (by decide) (fun c13 => ?_) (fun c13 => ?_)
        · skip
          refine lv_iconst (v := 0) hx hb dX5_areDone_31 (by decide) ?_
          refine lv_istore_n (lv' := [(1, .int 0), (2, .int (nI i)), (0, .ref mA)]) hx hb dX5_areDone_32 rfl hl (by decide) rfl (fun ls hl => ?_)
          refine lv_iinc (v := nI (i + 1)) (lv' := [(2, .int (nI (i + 1))), (1, .int 0), (0, .ref mA)]) hx hb dX5_areDone_33 hl (k := 1) rfl (by exact nI_add i 1) (by decide) rfl (fun ls hl => ?_)
          refine lv_goto (tgt := 4) hx hb dX5_areDone_36 (by decide) ?_
          exact ih4 (i + 1) 0 (by omega) (by omega) ((b2_f (by have hz := b2_z.mp (ex ▸ c13); unfold cnt; split <;> omega)).symm) ls (lv_sub hl [0, 1, 2] rfl)
        · skip
          refine lv_aload_n hx hb dX5_areDone_16 rfl (lv_at hl 2 rfl) ?_
          refine va_get (D := xD G) (ci := 5) (v := .ref (ma 21)) (C := RX5) (T := TX5) (N := 42) hx hb hts inX5 hown hK hP 0 rfl rfl 21 (by decide) kl66 (fun _ h9 => h9) rfl dX5_areDone_17 ?_
          refine lv_iload_n hx hb dX5_areDone_20 rfl (lv_at hl 0 rfl) ?_
          refine x_iald (i := i) hx hb hK hP 1 rfl (by first | omega | assumption) (by omega) dX5_areDone_21 ?_
          refine lv_bipush (v := 10) hx hb dX5_areDone_22 (by decide) ?_
          refine lv_icmp_ne (x := place i) (y := 10) (tgt := 31) hx hb dX5_areDone_24 (by decide) (fun c24 => ?_) (fun c24 => ?_)
          · skip
            refine lv_iconst (v := 0) hx hb dX5_areDone_31 (by decide) ?_
            refine lv_istore_n (lv' := [(1, .int 0), (2, .int (nI i)), (0, .ref mA)]) hx hb dX5_areDone_32 rfl hl (by decide) rfl (fun ls hl => ?_)
            refine lv_iinc (v := nI (i + 1)) (lv' := [(2, .int (nI (i + 1))), (1, .int 0), (0, .ref mA)]) hx hb dX5_areDone_33 hl (k := 1) rfl (by exact nI_add i 1) (by decide) rfl (fun ls hl => ?_)
            refine lv_goto (tgt := 4) hx hb dX5_areDone_36 (by decide) ?_
            exact ih4 (i + 1) 0 (by omega) (by omega) ((b2_f (by rw [cnt_f c24]; omega)).symm) ls (lv_sub hl [0, 1, 2] rfl)
          · skip
            refine lv_iconst (v := 1) hx hb dX5_areDone_27 (by decide) ?_
            refine lv_goto (tgt := 32) hx hb dX5_areDone_28 (by decide) ?_
            refine lv_istore_n (lv' := [(1, .int 1), (2, .int (nI i)), (0, .ref mA)]) hx hb dX5_areDone_32 rfl hl (by decide) rfl (fun ls hl => ?_)
            refine lv_iinc (v := nI (i + 1)) (lv' := [(2, .int (nI (i + 1))), (1, .int 1), (0, .ref mA)]) hx hb dX5_areDone_33 hl (k := 1) rfl (by exact nI_add i 1) (by decide) rfl (fun ls hl => ?_)
            refine lv_goto (tgt := 4) hx hb dX5_areDone_36 (by decide) ?_
            exact ih4 (i + 1) 1 (by omega) (by omega) ((b2_t (by rw [cnt_t c24]; have := b2_n.mp (ex ▸ c13); omega)).symm) ls (lv_sub hl [0, 1, 2] rfl)
  exact L4 (n + 1) 0 1 (by omega) (by omega) (rfl) ls (lv_sub hl [0, 1, 2] rfl)
