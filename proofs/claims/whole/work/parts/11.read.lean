/-! Run: what only reads -/
set_option maxHeartbeats 4000000 in
set_option maxRecDepth 100000 in
theorem mX2_isUrgent (l : Launch) (G : xG) (rA : Nat) (cA : Nat) (uA : Nat) (ra : Nat → Nat) (nob : Int32) (pcn : Int32) (day : Int32) (last : Int32) (act : Int32) (rst : Int32) (ca : Nat → Nat) (cols : Int32) (cn : Int32) (urg : Nat → Int32) (c : Nat)  (hc : c < 16) : xR l yX2_isUrgent wsX2_isUrgent ({ frames := 0, cells := 0, slots := 0, locals := 0 } : Room) [.ref rA, .int (nI c)] G [oRun rA cA uA ra nob pcn day last act rst, oCards cA ca cols cn, xZ G (ca 3) 16 urg] (fun r => r = b2 (urgP urg nob c)) := by
  refine xR_of (cc := cX2_isUrgent) (maxL := 2) (ty := .boolean) (by decide) rfl (Nat.le_of_ble_eq_true rfl) ?_
  intro p e s m below meth cO ls Q hx hb hml hown hts hP hK hD hl hq
  have hown : s.vm.findClass RX2 = some m.cls := hown
  have kl40 := hts (.fieldLink RX2 40 "WorkBoard$Run" "cards" "LWorkBoard$Cards;") (List.mem_of_getElem? (i := 1) rfl)
  have kl105 := hts (.fieldLink RX2 105 "WorkBoard$Cards" "urgent" "[Z") (List.mem_of_getElem? (i := 2) rfl)
  have kl48 := hts (.fieldLink RX2 48 "WorkBoard$Run" "nobodyUrgent" "Z") (List.mem_of_getElem? (i := 3) rfl)
  have inX0 : ∀ w ∈ u_ws RX0 TX0 9, w ∈ wsX2_isUrgent := (fun w h => List.mem_cons_of_mem _ (List.mem_append_right _ h))
  have inX2 : ∀ w ∈ u_ws RX2 TX2 17, w ∈ wsX2_isUrgent := (fun w h => List.mem_cons_of_mem _ (List.mem_append_left _ (List.mem_append_right _ h)))
  have hl : lv_has ls 2 [(0, .ref rA), (1, .int (nI c))] := hl
  have hP : va_P (xD G) vwCl [oRun rA cA uA ra nob pcn day last act rst, oCards cA ca cols cn, xZ G (ca 3) 16 urg] s.heap := hP
  refine lv_aload_n hx hb dX2_isUrgent_0 rfl (lv_at hl 0 rfl) ?_
  refine va_get (D := xD G) (ci := 2) (v := .ref cA) (C := RX2) (T := TX2) (N := 17) hx hb hts inX2 hown hK hP 0 rfl rfl 0 (by decide) kl40 (fun _ h9 => h9) rfl dX2_isUrgent_1 ?_
  refine va_get (D := xD G) (ci := 0) (v := .ref (ca 3)) (C := RX0) (T := TX0) (N := 9) hx hb hts inX0 hown hK hP 1 rfl rfl 3 (by decide) kl105 (fun _ h9 => h9) rfl dX2_isUrgent_4 ?_
  refine lv_iload_n hx hb dX2_isUrgent_7 rfl (lv_at hl 1 rfl) ?_
  refine x_zald (i := c) hx hb hK hP 2 rfl (by first | omega | assumption) (by omega) dX2_isUrgent_8 ?_
  refine lv_if_eq (x := urg c) (tgt := 23) hx hb dX2_isUrgent_9 (by decide) (fun c9 => ?_) (fun c9 => ?_)
  · skip
    refine lv_iconst (v := 0) hx hb dX2_isUrgent_23 (by decide) ?_
    exact hq 0 24 ls dX2_isUrgent_24 rfl (b2_f (by simp only [inC, urgP, dAh, wtP, thP, noP, ciP, c9, not_true_eq_false, not_false_eq_true, and_self, and_true, true_and, and_false, false_and])).symm
  · skip
    refine lv_aload_n hx hb dX2_isUrgent_12 rfl (lv_at hl 0 rfl) ?_
    refine va_get (D := xD G) (ci := 2) (v := .int nob) (C := RX2) (T := TX2) (N := 17) hx hb hts inX2 hown hK hP 0 rfl rfl 2 (by decide) kl48 (fun _ h9 => h9) rfl dX2_isUrgent_13 ?_
    refine lv_if_ne (x := nob) (tgt := 23) hx hb dX2_isUrgent_16 (by decide) (fun c16 => ?_) (fun c16 => ?_)
    · skip
      refine lv_iconst (v := 0) hx hb dX2_isUrgent_23 (by decide) ?_
      exact hq 0 24 ls dX2_isUrgent_24 rfl (b2_f (by simp only [inC, urgP, dAh, wtP, thP, noP, ciP, c9, c16, not_true_eq_false, not_false_eq_true, and_self, and_true, true_and, and_false, false_and])).symm
    · skip
      refine lv_iconst (v := 1) hx hb dX2_isUrgent_19 (by decide) ?_
      refine lv_goto (tgt := 24) hx hb dX2_isUrgent_20 (by decide) ?_
      exact hq 1 24 ls dX2_isUrgent_24 rfl (b2_t (by simp only [inC, urgP, dAh, wtP, thP, noP, ciP, c9, c16, not_true_eq_false, not_false_eq_true, and_self, and_true, true_and, and_false, false_and])).symm
set_option maxHeartbeats 4000000 in
set_option maxRecDepth 100000 in
theorem mX2_isDoneAheadOfDay (l : Launch) (G : xG) (rA : Nat) (cA : Nat) (uA : Nat) (ra : Nat → Nat) (nob : Int32) (pcn : Int32) (day : Int32) (last : Int32) (act : Int32) (rst : Int32) (don : Nat → Int32) (c : Nat)  (hc : c < 16) : xR l yX2_isDoneAheadOfDay wsX2_isDoneAheadOfDay ({ frames := 0, cells := 0, slots := 0, locals := 0 } : Room) [.ref rA, .int (nI c)] G [oRun rA cA uA ra nob pcn day last act rst, xI G (ra 6) 16 don] (fun r => r = b2 (dAh don day c)) := by
  refine xR_of (cc := cX2_isDoneAheadOfDay) (maxL := 2) (ty := .boolean) (by decide) rfl (Nat.le_of_ble_eq_true rfl) ?_
  intro p e s m below meth cO ls Q hx hb hml hown hts hP hK hD hl hq
  have hown : s.vm.findClass RX2 = some m.cls := hown
  have kl21 := hts (.fieldLink RX2 21 "WorkBoard$Run" "doneOn" "[I") (List.mem_of_getElem? (i := 1) rfl)
  have kl62 := hts (.fieldLink RX2 62 "WorkBoard$Run" "day" "I") (List.mem_of_getElem? (i := 2) rfl)
  have inX2 : ∀ w ∈ u_ws RX2 TX2 17, w ∈ wsX2_isDoneAheadOfDay := (fun w h => List.mem_cons_of_mem _ (List.mem_append_right _ h))
  have hl : lv_has ls 2 [(0, .ref rA), (1, .int (nI c))] := hl
  have hP : va_P (xD G) vwCl [oRun rA cA uA ra nob pcn day last act rst, xI G (ra 6) 16 don] s.heap := hP
  refine lv_aload_n hx hb dX2_isDoneAheadOfDay_0 rfl (lv_at hl 0 rfl) ?_
  refine va_get (D := xD G) (ci := 2) (v := .ref (ra 6)) (C := RX2) (T := TX2) (N := 17) hx hb hts inX2 hown hK hP 0 rfl rfl 6 (by decide) kl21 (fun _ h9 => h9) rfl dX2_isDoneAheadOfDay_1 ?_
  refine lv_iload_n hx hb dX2_isDoneAheadOfDay_4 rfl (lv_at hl 1 rfl) ?_
  refine x_iald (i := c) hx hb hK hP 1 rfl (by first | omega | assumption) (by omega) dX2_isDoneAheadOfDay_5 ?_
  refine lv_iconst (v := (-1)) hx hb dX2_isDoneAheadOfDay_6 (by decide) ?_
  refine lv_icmp_eq (x := don c) (y := (-1)) (tgt := 27) hx hb dX2_isDoneAheadOfDay_7 (by decide) (fun c7 => ?_) (fun c7 => ?_)
  · skip
    refine lv_iconst (v := 0) hx hb dX2_isDoneAheadOfDay_27 (by decide) ?_
    exact hq 0 28 ls dX2_isDoneAheadOfDay_28 rfl (b2_f (by simp only [inC, urgP, dAh, wtP, thP, noP, ciP, c7, not_true_eq_false, not_false_eq_true, and_self, and_true, true_and, and_false, false_and])).symm
  · skip
    refine lv_aload_n hx hb dX2_isDoneAheadOfDay_10 rfl (lv_at hl 0 rfl) ?_
    refine va_get (D := xD G) (ci := 2) (v := .ref (ra 6)) (C := RX2) (T := TX2) (N := 17) hx hb hts inX2 hown hK hP 0 rfl rfl 6 (by decide) kl21 (fun _ h9 => h9) rfl dX2_isDoneAheadOfDay_11 ?_
    refine lv_iload_n hx hb dX2_isDoneAheadOfDay_14 rfl (lv_at hl 1 rfl) ?_
    refine x_iald (i := c) hx hb hK hP 1 rfl (by first | omega | assumption) (by omega) dX2_isDoneAheadOfDay_15 ?_
    refine lv_aload_n hx hb dX2_isDoneAheadOfDay_16 rfl (lv_at hl 0 rfl) ?_
    refine va_get (D := xD G) (ci := 2) (v := .int day) (C := RX2) (T := TX2) (N := 17) hx hb hts inX2 hown hK hP 0 rfl rfl 13 (by decide) kl62 (fun _ h9 => h9) rfl dX2_isDoneAheadOfDay_17 ?_
    refine lv_icmp_ge (x := don c) (y := day) (tgt := 27) hx hb dX2_isDoneAheadOfDay_20 (by decide) (fun c20 => ?_) (fun c20 => ?_)
    · skip
      refine lv_iconst (v := 0) hx hb dX2_isDoneAheadOfDay_27 (by decide) ?_
      exact hq 0 28 ls dX2_isDoneAheadOfDay_28 rfl (b2_f (by simp only [inC, urgP, dAh, wtP, thP, noP, ciP, c7, c20, not_true_eq_false, not_false_eq_true, and_self, and_true, true_and, and_false, false_and])).symm
    · skip
      refine lv_iconst (v := 1) hx hb dX2_isDoneAheadOfDay_23 (by decide) ?_
      refine lv_goto (tgt := 28) hx hb dX2_isDoneAheadOfDay_24 (by decide) ?_
      exact hq 1 28 ls dX2_isDoneAheadOfDay_28 rfl (b2_t (by simp only [inC, urgP, dAh, wtP, thP, noP, ciP, c7, c20, not_true_eq_false, not_false_eq_true, and_self, and_true, true_and, and_false, false_and])).symm
set_option maxHeartbeats 4000000 in
set_option maxRecDepth 100000 in
theorem mX2_isWaiting (l : Launch) (G : xG) (rA : Nat) (cA : Nat) (uA : Nat) (ra : Nat → Nat) (nob : Int32) (pcn : Int32) (day : Int32) (last : Int32) (act : Int32) (rst : Int32) (place : Nat → Int32) (don : Nat → Int32) (ca : Nat → Nat) (cols : Int32) (n : Nat) (waits : Nat → Int32) (c : Nat)  (hn : n ≤ 16) (hc : c < 16) : xR l yX2_isWaiting wsX2_isWaiting ({ frames := 1, cells := 0, slots := 0, locals := 21 } : Room) [.ref rA, .int (nI c)] G [oRun rA cA uA ra nob pcn day last act rst, xI G (ra 3) 16 place, xI G (ra 6) 16 don, oCards cA ca cols (nI n), xI G (ca 4) 16 waits] (fun r => r = b2 (wtP place don waits n day c)) := by
  refine xR_of (cc := cX2_isWaiting) (maxL := 3) (ty := .boolean) (by decide) rfl (Nat.le_of_ble_eq_true rfl) ?_
  intro p e s m below meth cO ls Q hx hb hml hown hts hP hK hD hl hq
  have hown : s.vm.findClass RX2 = some m.cls := hown
  have kl40 := hts (.fieldLink RX2 40 "WorkBoard$Run" "cards" "LWorkBoard$Cards;") (List.mem_of_getElem? (i := 1) rfl)
  have kl121 := hts (.fieldLink RX2 121 "WorkBoard$Cards" "waitsFor" "[I") (List.mem_of_getElem? (i := 2) rfl)
  have kl9 := hts (.fieldLink RX2 9 "WorkBoard$Run" "place" "[I") (List.mem_of_getElem? (i := 3) rfl)
  have inX0 : ∀ w ∈ u_ws RX0 TX0 9, w ∈ wsX2_isWaiting := (fun w h => List.mem_cons_of_mem _ (List.mem_append_right _ h))
  have inX2 : ∀ w ∈ u_ws RX2 TX2 17, w ∈ wsX2_isWaiting := (fun w h => List.mem_cons_of_mem _ (List.mem_append_left _ (List.mem_append_right _ h)))
  have hl : lv_has ls 3 [(0, .ref rA), (1, .int (nI c))] := hl
  have hP : va_P (xD G) vwCl [oRun rA cA uA ra nob pcn day last act rst, xI G (ra 3) 16 place, xI G (ra 6) 16 don, oCards cA ca cols (nI n), xI G (ca 4) 16 waits] s.heap := hP
  refine lv_aload_n hx hb dX2_isWaiting_0 rfl (lv_at hl 0 rfl) ?_
  refine va_get (D := xD G) (ci := 2) (v := .ref cA) (C := RX2) (T := TX2) (N := 17) hx hb hts inX2 hown hK hP 0 rfl rfl 0 (by decide) kl40 (fun _ h9 => h9) rfl dX2_isWaiting_1 ?_
  refine va_get (D := xD G) (ci := 0) (v := .ref (ca 4)) (C := RX0) (T := TX0) (N := 9) hx hb hts inX0 hown hK hP 3 rfl rfl 4 (by decide) kl121 (fun _ h9 => h9) rfl dX2_isWaiting_4 ?_
  refine lv_iload_n hx hb dX2_isWaiting_7 rfl (lv_at hl 1 rfl) ?_
  refine x_iald (i := c) hx hb hK hP 4 rfl (by first | omega | assumption) (by omega) dX2_isWaiting_8 ?_
  refine lv_istore_n (lv' := [(2, .int (waits c)), (0, .ref rA), (1, .int (nI c))]) hx hb dX2_isWaiting_9 rfl hl (by decide) rfl (fun ls hl => ?_)
  refine lv_aload_n hx hb dX2_isWaiting_10 rfl (lv_at hl 1 rfl) ?_
  refine va_get (D := xD G) (ci := 2) (v := .ref (ra 3)) (C := RX2) (T := TX2) (N := 17) hx hb hts inX2 hown hK hP 0 rfl rfl 3 (by decide) kl9 (fun _ h9 => h9) rfl dX2_isWaiting_11 ?_
  refine lv_iload_n hx hb dX2_isWaiting_14 rfl (lv_at hl 2 rfl) ?_
  refine x_iald (i := c) hx hb hK hP 1 rfl (by first | omega | assumption) (by omega) dX2_isWaiting_15 ?_
  refine lv_bipush (v := 11) hx hb dX2_isWaiting_16 (by decide) ?_
  refine lv_icmp_ne (x := place c) (y := 11) (tgt := 44) hx hb dX2_isWaiting_18 (by decide) (fun c18 => ?_) (fun c18 => ?_)
  · skip
    refine lv_iconst (v := 0) hx hb dX2_isWaiting_44 (by decide) ?_
    exact hq 0 45 ls dX2_isWaiting_45 rfl ((b2_f (fun h => c18 h.1)).symm)
  · skip
    refine lv_aload_n hx hb dX2_isWaiting_21 rfl (lv_at hl 1 rfl) ?_
    refine va_get (D := xD G) (ci := 2) (v := .ref cA) (C := RX2) (T := TX2) (N := 17) hx hb hts inX2 hown hK hP 0 rfl rfl 0 (by decide) kl40 (fun _ h9 => h9) rfl dX2_isWaiting_22 ?_
    refine lv_iload_n hx hb dX2_isWaiting_25 rfl (lv_at hl 0 rfl) ?_
    refine x_callR (As := [.int (waits c)]) (rest := []) (ci := 0) (q0 := 3) ⟨hx, hb, hml, hown, hts⟩ (mX0_hasCard l G cA ca cols (nI n) (waits c) ) (cwV 1 hts gX2_isWaiting_X0_hasCard rfl rfl rfl (by decide +kernel) ⟨Nat.le_of_ble_eq_true rfl, Nat.le_of_ble_eq_true rfl⟩) hK hP hD [3] rfl rfl rfl rfl rfl rfl rfl hl.1 rfl (Nat.le_of_ble_eq_true rfl) dX2_isWaiting_26 ⟨Nat.zero_le _, Nat.zero_le _⟩ (fun r hr => ?_)
    subst hr
    refine x_if_eq (P := inC (waits c) (nI n)) (tgt := 44) hx hb dX2_isWaiting_29 (by decide) (fun c29 => ?_) (fun c29 => ?_)
    · skip
      refine lv_iconst (v := 0) hx hb dX2_isWaiting_44 (by decide) ?_
      exact hq 0 45 ls dX2_isWaiting_45 rfl ((b2_f (fun h => c29 h.2.1)).symm)
    · skip
      have hv := vp_of c29.1 c29.2 (by omega)
      have hv2 : ix waits c < n := vp_lt hv
      refine lv_aload_n hx hb dX2_isWaiting_32 rfl (lv_at hl 1 rfl) ?_
      refine lv_iload_n hx hb dX2_isWaiting_33 rfl (lv_at hl 0 rfl) ?_
      refine x_top (y := nI (ix waits c)) (nI_self hv) ?_
      refine x_callR (As := [.int (nI (ix waits c))]) (rest := []) (ci := 2) (q0 := 0) ⟨hx, hb, hml, hown, hts⟩ (mX2_isDoneAheadOfDay l G rA cA uA ra nob pcn day last act rst don (ix waits c) (by first | assumption | omega)) (cwV 1 hts gX2_isWaiting_X2_isDoneAheadOfDay rfl rfl rfl (by decide +kernel) ⟨Nat.le_of_ble_eq_true rfl, Nat.le_of_ble_eq_true rfl⟩) hK hP hD [0, 2] rfl rfl rfl rfl rfl rfl rfl hl.1 rfl (Nat.le_of_ble_eq_true rfl) dX2_isWaiting_34 ⟨Nat.zero_le _, Nat.zero_le _⟩ (fun r hr => ?_)
      subst hr
      refine x_if_ne (P := dAh don day (ix waits c)) (tgt := 44) hx hb dX2_isWaiting_37 (by decide) (fun c37 => ?_) (fun c37 => ?_)
      · skip
        refine lv_iconst (v := 0) hx hb dX2_isWaiting_44 (by decide) ?_
        exact hq 0 45 ls dX2_isWaiting_45 rfl (by first | exact (b2_f (fun h => h.2.2 c37)).symm | exact (b2_t ⟨c18, c29, c37⟩).symm)
      · skip
        refine lv_iconst (v := 1) hx hb dX2_isWaiting_40 (by decide) ?_
        refine lv_goto (tgt := 45) hx hb dX2_isWaiting_41 (by decide) ?_
        exact hq 1 45 ls dX2_isWaiting_45 rfl (by first | exact (b2_f (fun h => h.2.2 c37)).symm | exact (b2_t ⟨c18, c29, c37⟩).symm)
set_option maxHeartbeats 4000000 in
set_option maxRecDepth 100000 in
theorem mX2_isThereOnDay (l : Launch) (G : xG) (rA : Nat) (cA : Nat) (uA : Nat) (ra : Nat → Nat) (nob : Int32) (pcn : Int32) (day : Int32) (last : Int32) (act : Int32) (rst : Int32) (place : Nat → Int32) (don : Nat → Int32) (c : Nat)  (hc : c < 16) : xR l yX2_isThereOnDay wsX2_isThereOnDay ({ frames := 1, cells := 0, slots := 0, locals := 21 } : Room) [.ref rA, .int (nI c)] G [oRun rA cA uA ra nob pcn day last act rst, xI G (ra 3) 16 place, xI G (ra 6) 16 don] (fun r => r = b2 (thP place don day c)) := by
  refine xR_of (cc := cX2_isThereOnDay) (maxL := 2) (ty := .boolean) (by decide) rfl (Nat.le_of_ble_eq_true rfl) ?_
  intro p e s m below meth cO ls Q hx hb hml hown hts hP hK hD hl hq
  have hown : s.vm.findClass RX2 = some m.cls := hown
  have kl9 := hts (.fieldLink RX2 9 "WorkBoard$Run" "place" "[I") (List.mem_of_getElem? (i := 1) rfl)
  have inX2 : ∀ w ∈ u_ws RX2 TX2 17, w ∈ wsX2_isThereOnDay := (fun w h => List.mem_cons_of_mem _ (List.mem_append_right _ h))
  have hl : lv_has ls 2 [(0, .ref rA), (1, .int (nI c))] := hl
  have hP : va_P (xD G) vwCl [oRun rA cA uA ra nob pcn day last act rst, xI G (ra 3) 16 place, xI G (ra 6) 16 don] s.heap := hP
  refine lv_aload_n hx hb dX2_isThereOnDay_0 rfl (lv_at hl 0 rfl) ?_
  refine va_get (D := xD G) (ci := 2) (v := .ref (ra 3)) (C := RX2) (T := TX2) (N := 17) hx hb hts inX2 hown hK hP 0 rfl rfl 3 (by decide) kl9 (fun _ h9 => h9) rfl dX2_isThereOnDay_1 ?_
  refine lv_iload_n hx hb dX2_isThereOnDay_4 rfl (lv_at hl 1 rfl) ?_
  refine x_iald (i := c) hx hb hK hP 1 rfl (by first | omega | assumption) (by omega) dX2_isThereOnDay_5 ?_
  refine lv_iconst (v := (-1)) hx hb dX2_isThereOnDay_6 (by decide) ?_
  refine lv_icmp_eq (x := place c) (y := (-1)) (tgt := 22) hx hb dX2_isThereOnDay_7 (by decide) (fun c7 => ?_) (fun c7 => ?_)
  · skip
    refine lv_iconst (v := 0) hx hb dX2_isThereOnDay_22 (by decide) ?_
    exact hq 0 23 ls dX2_isThereOnDay_23 rfl (b2_f (by simp only [inC, urgP, dAh, wtP, thP, noP, ciP, c7, not_true_eq_false, not_false_eq_true, and_self, and_true, true_and, and_false, false_and])).symm
  · skip
    refine lv_aload_n hx hb dX2_isThereOnDay_10 rfl (lv_at hl 0 rfl) ?_
    refine lv_iload_n hx hb dX2_isThereOnDay_11 rfl (lv_at hl 1 rfl) ?_
    refine x_callR (As := [.int (nI c)]) (rest := []) (ci := 2) (q0 := 0) ⟨hx, hb, hml, hown, hts⟩ (mX2_isDoneAheadOfDay l G rA cA uA ra nob pcn day last act rst don c (by first | assumption | omega)) (cwV 1 hts gX2_isThereOnDay_X2_isDoneAheadOfDay rfl rfl rfl (by decide +kernel) ⟨Nat.le_of_ble_eq_true rfl, Nat.le_of_ble_eq_true rfl⟩) hK hP hD [0, 2] rfl rfl rfl rfl rfl rfl rfl hl.1 rfl (Nat.le_of_ble_eq_true rfl) dX2_isThereOnDay_12 ⟨Nat.zero_le _, Nat.zero_le _⟩ (fun r hr => ?_)
    subst hr
    refine x_if_ne (P := dAh don day c) (tgt := 22) hx hb dX2_isThereOnDay_15 (by decide) (fun c15 => ?_) (fun c15 => ?_)
    · skip
      refine lv_iconst (v := 0) hx hb dX2_isThereOnDay_22 (by decide) ?_
      exact hq 0 23 ls dX2_isThereOnDay_23 rfl (b2_f (by simp only [inC, urgP, dAh, wtP, thP, noP, ciP, c7, c15, not_true_eq_false, not_false_eq_true, and_self, and_true, true_and, and_false, false_and])).symm
    · skip
      refine lv_iconst (v := 1) hx hb dX2_isThereOnDay_18 (by decide) ?_
      refine lv_goto (tgt := 23) hx hb dX2_isThereOnDay_19 (by decide) ?_
      exact hq 1 23 ls dX2_isThereOnDay_23 rfl (b2_t (by simp only [inC, urgP, dAh, wtP, thP, noP, ciP, c7, c15, not_true_eq_false, not_false_eq_true, and_self, and_true, true_and, and_false, false_and])).symm
set_option maxHeartbeats 4000000 in
set_option maxRecDepth 100000 in
theorem mX2_reasonOf (l : Launch) (G : xG) (rA : Nat) (cA : Nat) (uA : Nat) (ra : Nat → Nat) (nob : Int32) (pcn : Int32) (day : Int32) (last : Int32) (act : Int32) (rst : Int32) (place : Nat → Int32) (next : Nat → Int32) (don : Nat → Int32) (wkd : Nat → Int32) (ca : Nat → Nat) (cols : Int32) (n : Nat) (waits : Nat → Int32) (c : Nat)  (hn : n ≤ 16) (hc : c < 16) : xR l yX2_reasonOf wsX2_reasonOf ({ frames := 2, cells := 0, slots := 0, locals := 43 } : Room) [.ref rA, .int (nI c)] G [oRun rA cA uA ra nob pcn day last act rst, xI G (ra 3) 16 place, xI G (ra 4) 16 next, xI G (ra 6) 16 don, xZ G (ra 7) 16 wkd, oCards cA ca cols (nI n), xI G (ca 4) 16 waits] (fun r => r = reF place next don wkd waits n day c) := by
  refine xR_of (cc := cX2_reasonOf) (maxL := 2) (ty := .int) (by decide) rfl (Nat.le_of_ble_eq_true rfl) ?_
  intro p e s m below meth cO ls Q hx hb hml hown hts hP hK hD hl hq
  have hown : s.vm.findClass RX2 = some m.cls := hown
  have kl24 := hts (.fieldLink RX2 24 "WorkBoard$Run" "worked" "[Z") (List.mem_of_getElem? (i := 1) rfl)
  have kl15 := hts (.fieldLink RX2 15 "WorkBoard$Run" "next" "[I") (List.mem_of_getElem? (i := 2) rfl)
  have inX2 : ∀ w ∈ u_ws RX2 TX2 17, w ∈ wsX2_reasonOf := (fun w h => List.mem_cons_of_mem _ (List.mem_append_left _ (List.mem_append_right _ h)))
  have hl : lv_has ls 2 [(0, .ref rA), (1, .int (nI c))] := hl
  have hP : va_P (xD G) vwCl [oRun rA cA uA ra nob pcn day last act rst, xI G (ra 3) 16 place, xI G (ra 4) 16 next, xI G (ra 6) 16 don, xZ G (ra 7) 16 wkd, oCards cA ca cols (nI n), xI G (ca 4) 16 waits] s.heap := hP
  refine lv_aload_n hx hb dX2_reasonOf_0 rfl (lv_at hl 0 rfl) ?_
  refine lv_iload_n hx hb dX2_reasonOf_1 rfl (lv_at hl 1 rfl) ?_
  refine x_callR (As := [.int (nI c)]) (rest := []) (ci := 2) (q0 := 0) ⟨hx, hb, hml, hown, hts⟩ (mX2_isThereOnDay l G rA cA uA ra nob pcn day last act rst place don c (by first | assumption | omega)) (cwV 1 hts gX2_reasonOf_X2_isThereOnDay rfl rfl rfl (by decide +kernel) ⟨Nat.le_of_ble_eq_true rfl, Nat.le_of_ble_eq_true rfl⟩) hK hP hD [0, 1, 3] rfl rfl rfl rfl rfl rfl rfl hl.1 rfl (Nat.le_of_ble_eq_true rfl) dX2_reasonOf_2 ⟨Nat.zero_le _, Nat.zero_le _⟩ (fun r hr => ?_)
  subst hr
  refine x_if_ne (P := thP place don day c) (tgt := 10) hx hb dX2_reasonOf_5 (by decide) (fun c5 => ?_) (fun c5 => ?_)
  · skip
    refine lv_aload_n hx hb dX2_reasonOf_10 rfl (lv_at hl 0 rfl) ?_
    refine va_get (D := xD G) (ci := 2) (v := .ref (ra 7)) (C := RX2) (T := TX2) (N := 17) hx hb hts inX2 hown hK hP 0 rfl rfl 7 (by decide) kl24 (fun _ h9 => h9) rfl dX2_reasonOf_11 ?_
    refine lv_iload_n hx hb dX2_reasonOf_14 rfl (lv_at hl 1 rfl) ?_
    refine x_zald (i := c) hx hb hK hP 4 rfl (by first | omega | assumption) (by omega) dX2_reasonOf_15 ?_
    refine lv_if_eq (x := wkd c) (tgt := 21) hx hb dX2_reasonOf_16 (by decide) (fun c16 => ?_) (fun c16 => ?_)
    · skip
      refine lv_aload_n hx hb dX2_reasonOf_21 rfl (lv_at hl 0 rfl) ?_
      refine lv_iload_n hx hb dX2_reasonOf_22 rfl (lv_at hl 1 rfl) ?_
      refine x_callR (As := [.int (nI c)]) (rest := []) (ci := 2) (q0 := 0) ⟨hx, hb, hml, hown, hts⟩ (mX2_isWaiting l G rA cA uA ra nob pcn day last act rst place don ca cols n waits c (by first | assumption | omega) (by first | assumption | omega)) (cwV 1 hts gX2_reasonOf_X2_isWaiting rfl rfl rfl (by decide +kernel) ⟨Nat.le_of_ble_eq_true rfl, Nat.le_of_ble_eq_true rfl⟩) hK hP hD [0, 1, 3, 5, 6] rfl rfl rfl rfl rfl rfl rfl hl.1 rfl (Nat.le_of_ble_eq_true rfl) dX2_reasonOf_23 ⟨Nat.zero_le _, Nat.zero_le _⟩ (fun r hr => ?_)
      subst hr
      refine x_if_eq (P := wtP place don waits n day c) (tgt := 31) hx hb dX2_reasonOf_26 (by decide) (fun c26 => ?_) (fun c26 => ?_)
      · skip
        refine lv_aload_n hx hb dX2_reasonOf_31 rfl (lv_at hl 0 rfl) ?_
        refine va_get (D := xD G) (ci := 2) (v := .ref (ra 4)) (C := RX2) (T := TX2) (N := 17) hx hb hts inX2 hown hK hP 0 rfl rfl 4 (by decide) kl15 (fun _ h9 => h9) rfl dX2_reasonOf_32 ?_
        refine lv_iload_n hx hb dX2_reasonOf_35 rfl (lv_at hl 1 rfl) ?_
        refine x_iald (i := c) hx hb hK hP 2 rfl (by first | omega | assumption) (by omega) dX2_reasonOf_36 ?_
        refine lv_iconst (v := (-1)) hx hb dX2_reasonOf_37 (by decide) ?_
        refine lv_icmp_ne (x := next c) (y := (-1)) (tgt := 45) hx hb dX2_reasonOf_38 (by decide) (fun c38 => ?_) (fun c38 => ?_)
        · skip
          refine lv_iconst (v := 3) hx hb dX2_reasonOf_45 (by decide) ?_
          exact hq 3 46 ls dX2_reasonOf_46 rfl (by unfold reF; rw [if_neg (fun h => h c5), if_neg (fun h => h c16), if_neg c26]; first | rw [if_pos c38] | rw [if_neg c38])
        · skip
          refine lv_iconst (v := 4) hx hb dX2_reasonOf_41 (by decide) ?_
          refine lv_goto (tgt := 46) hx hb dX2_reasonOf_42 (by decide) ?_
          exact hq 4 46 ls dX2_reasonOf_46 rfl (by unfold reF; rw [if_neg (fun h => h c5), if_neg (fun h => h c16), if_neg c26]; first | rw [if_pos c38] | rw [if_neg c38])
      · skip
        refine lv_iconst (v := 2) hx hb dX2_reasonOf_29 (by decide) ?_
        exact hq 2 30 ls dX2_reasonOf_30 rfl (by unfold reF; rw [if_neg (fun h => h c5), if_neg (fun h => h c16), if_pos c26])
    · skip
      refine lv_iconst (v := 1) hx hb dX2_reasonOf_19 (by decide) ?_
      exact hq 1 20 ls dX2_reasonOf_20 rfl (by unfold reF; rw [if_neg (fun h => h c5), if_pos c16])
  · skip
    refine lv_iconst (v := (-1)) hx hb dX2_reasonOf_8 (by decide) ?_
    exact hq (-1) 9 ls dX2_reasonOf_9 rfl (by unfold reF; rw [if_pos c5])
set_option maxHeartbeats 4000000 in
set_option maxRecDepth 100000 in
theorem mX2_ageOf (l : Launch) (G : xG) (rA : Nat) (cA : Nat) (uA : Nat) (ra : Nat → Nat) (nob : Int32) (pcn : Int32) (day : Int32) (last : Int32) (act : Int32) (rst : Int32) (don : Nat → Int32) (ca : Nat → Nat) (cols : Int32) (cn : Int32) (cday : Nat → Int32) (c : Nat)  (hc : c < 16) : xR l yX2_ageOf wsX2_ageOf ({ frames := 0, cells := 0, slots := 0, locals := 0 } : Room) [.ref rA, .int (nI c)] G [oRun rA cA uA ra nob pcn day last act rst, xI G (ra 6) 16 don, oCards cA ca cols cn, xI G (ca 2) 16 cday] (fun r => r = agF don cday c) := by
  refine xR_of (cc := cX2_ageOf) (maxL := 2) (ty := .int) (by decide) rfl (Nat.le_of_ble_eq_true rfl) ?_
  intro p e s m below meth cO ls Q hx hb hml hown hts hP hK hD hl hq
  have hown : s.vm.findClass RX2 = some m.cls := hown
  have kl21 := hts (.fieldLink RX2 21 "WorkBoard$Run" "doneOn" "[I") (List.mem_of_getElem? (i := 1) rfl)
  have kl40 := hts (.fieldLink RX2 40 "WorkBoard$Run" "cards" "LWorkBoard$Cards;") (List.mem_of_getElem? (i := 2) rfl)
  have kl91 := hts (.fieldLink RX2 91 "WorkBoard$Cards" "day" "[I") (List.mem_of_getElem? (i := 3) rfl)
  have inX0 : ∀ w ∈ u_ws RX0 TX0 9, w ∈ wsX2_ageOf := (fun w h => List.mem_cons_of_mem _ (List.mem_append_right _ h))
  have inX2 : ∀ w ∈ u_ws RX2 TX2 17, w ∈ wsX2_ageOf := (fun w h => List.mem_cons_of_mem _ (List.mem_append_left _ (List.mem_append_right _ h)))
  have hl : lv_has ls 2 [(0, .ref rA), (1, .int (nI c))] := hl
  have hP : va_P (xD G) vwCl [oRun rA cA uA ra nob pcn day last act rst, xI G (ra 6) 16 don, oCards cA ca cols cn, xI G (ca 2) 16 cday] s.heap := hP
  refine lv_aload_n hx hb dX2_ageOf_0 rfl (lv_at hl 0 rfl) ?_
  refine va_get (D := xD G) (ci := 2) (v := .ref (ra 6)) (C := RX2) (T := TX2) (N := 17) hx hb hts inX2 hown hK hP 0 rfl rfl 6 (by decide) kl21 (fun _ h9 => h9) rfl dX2_ageOf_1 ?_
  refine lv_iload_n hx hb dX2_ageOf_4 rfl (lv_at hl 1 rfl) ?_
  refine x_iald (i := c) hx hb hK hP 1 rfl (by first | omega | assumption) (by omega) dX2_ageOf_5 ?_
  refine lv_iconst (v := (-1)) hx hb dX2_ageOf_6 (by decide) ?_
  refine lv_icmp_ne (x := don c) (y := (-1)) (tgt := 14) hx hb dX2_ageOf_7 (by decide) (fun c7 => ?_) (fun c7 => ?_)
  · skip
    refine lv_aload_n hx hb dX2_ageOf_14 rfl (lv_at hl 0 rfl) ?_
    refine va_get (D := xD G) (ci := 2) (v := .ref (ra 6)) (C := RX2) (T := TX2) (N := 17) hx hb hts inX2 hown hK hP 0 rfl rfl 6 (by decide) kl21 (fun _ h9 => h9) rfl dX2_ageOf_15 ?_
    refine lv_iload_n hx hb dX2_ageOf_18 rfl (lv_at hl 1 rfl) ?_
    refine x_iald (i := c) hx hb hK hP 1 rfl (by first | omega | assumption) (by omega) dX2_ageOf_19 ?_
    refine lv_aload_n hx hb dX2_ageOf_20 rfl (lv_at hl 0 rfl) ?_
    refine va_get (D := xD G) (ci := 2) (v := .ref cA) (C := RX2) (T := TX2) (N := 17) hx hb hts inX2 hown hK hP 0 rfl rfl 0 (by decide) kl40 (fun _ h9 => h9) rfl dX2_ageOf_21 ?_
    refine va_get (D := xD G) (ci := 0) (v := .ref (ca 2)) (C := RX0) (T := TX0) (N := 9) hx hb hts inX0 hown hK hP 2 rfl rfl 2 (by decide) kl91 (fun _ h9 => h9) rfl dX2_ageOf_24 ?_
    refine lv_iload_n hx hb dX2_ageOf_27 rfl (lv_at hl 1 rfl) ?_
    refine x_iald (i := c) hx hb hK hP 3 rfl (by first | omega | assumption) (by omega) dX2_ageOf_28 ?_
    refine lv_isub hx hb dX2_ageOf_29 ?_
    refine lv_iconst (v := 1) hx hb dX2_ageOf_30 (by decide) ?_
    refine lv_iadd hx hb dX2_ageOf_31 ?_
    exact hq (((don c) - (cday c)) + 1) 32 ls dX2_ageOf_32 rfl (by unfold agF; simp only [c7, if_true, if_false, reduceIte])
  · skip
    refine lv_iconst (v := (-1)) hx hb dX2_ageOf_10 (by decide) ?_
    refine lv_goto (tgt := 32) hx hb dX2_ageOf_11 (by decide) ?_
    exact hq (-1) 32 ls dX2_ageOf_32 rfl (by unfold agF; simp only [c7, if_true, if_false, reduceIte])
set_option maxHeartbeats 4000000 in
set_option maxRecDepth 100000 in
theorem mX2_daysBy (l : Launch) (G : xG) (rA : Nat) (cA : Nat) (uA : Nat) (ra : Nat → Nat) (nob : Int32) (pcn : Int32) (day : Int32) (last : Int32) (act : Int32) (rst : Int32) (rsd : Nat → Int32) (c : Nat) (q : Nat)  (hc : c < 16) (hq1 : 1 ≤ q) (hq4 : q ≤ 4) : xR l yX2_daysBy wsX2_daysBy ({ frames := 0, cells := 0, slots := 0, locals := 0 } : Room) [.ref rA, .int (nI c), .int (nI q)] G [oRun rA cA uA ra nob pcn day last act rst, xI G (ra 12) 64 rsd] (fun r => r = rsd (c * 4 + q - 1)) := by
  refine xR_of (cc := cX2_daysBy) (maxL := 3) (ty := .int) (by decide) rfl (Nat.le_of_ble_eq_true rfl) ?_
  intro p e s m below meth cO ls Q hx hb hml hown hts hP hK hD hl hq
  have hown : s.vm.findClass RX2 = some m.cls := hown
  have kl37 := hts (.fieldLink RX2 37 "WorkBoard$Run" "reasonDays" "[I") (List.mem_of_getElem? (i := 1) rfl)
  have inX2 : ∀ w ∈ u_ws RX2 TX2 17, w ∈ wsX2_daysBy := (fun w h => List.mem_cons_of_mem _ (List.mem_append_right _ h))
  have hl : lv_has ls 3 [(0, .ref rA), (1, .int (nI c)), (2, .int (nI q))] := hl
  have hP : va_P (xD G) vwCl [oRun rA cA uA ra nob pcn day last act rst, xI G (ra 12) 64 rsd] s.heap := hP
  refine lv_aload_n hx hb dX2_daysBy_0 rfl (lv_at hl 0 rfl) ?_
  refine va_get (D := xD G) (ci := 2) (v := .ref (ra 12)) (C := RX2) (T := TX2) (N := 17) hx hb hts inX2 hown hK hP 0 rfl rfl 12 (by decide) kl37 (fun _ h9 => h9) rfl dX2_daysBy_1 ?_
  refine lv_iload_n hx hb dX2_daysBy_4 rfl (lv_at hl 1 rfl) ?_
  refine lv_iconst (v := 4) hx hb dX2_daysBy_5 (by decide) ?_
  refine lv_imul hx hb dX2_daysBy_6 ?_
  refine x_top (y := nI (c * 4)) (pk_mul c 4) ?_
  refine lv_iload_n hx hb dX2_daysBy_7 rfl (lv_at hl 2 rfl) ?_
  refine lv_iadd hx hb dX2_daysBy_8 ?_
  refine x_top (y := nI ((c * 4) + q)) (nI_add (c * 4) q) ?_
  refine lv_iconst (v := 1) hx hb dX2_daysBy_9 (by decide) ?_
  refine lv_isub hx hb dX2_daysBy_10 ?_
  refine x_top (y := nI (c * 4 + q - 1)) (show nI (c * 4 + q) - 1 = _ from pk_sub (b := 1) (by omega)) ?_
  refine x_iald (i := c * 4 + q - 1) hx hb hK hP 1 rfl (by first | omega | assumption) (by omega) dX2_daysBy_11 ?_
  exact hq (rsd (c * 4 + q - 1)) 12 ls dX2_daysBy_12 rfl rfl
set_option maxHeartbeats 4000000 in
set_option maxRecDepth 100000 in
theorem mX2_countAt (l : Launch) (G : xG) (rA : Nat) (cA : Nat) (uA : Nat) (ra : Nat → Nat) (nob : Int32) (pcn : Int32) (day : Int32) (last : Int32) (act : Int32) (rst : Int32) (place : Nat → Int32) (ca : Nat → Nat) (cols : Int32) (n : Nat) (w : Int32)  (hn : n ≤ 16) : xR l yX2_countAt wsX2_countAt ({ frames := 0, cells := 0, slots := 0, locals := 0 } : Room) [.ref rA, .int w] G [oRun rA cA uA ra nob pcn day last act rst, xI G (ra 3) 16 place, oCards cA ca cols (nI n)] (fun r => r = nI (cnt (fun b => place b = w) n)) := by
  refine xR_of (cc := cX2_countAt) (maxL := 4) (ty := .int) (by decide) rfl (Nat.le_of_ble_eq_true rfl) ?_
  intro p e s m below meth cO ls Q hx hb hml hown hts hP hK hD hl hq
  have hown : s.vm.findClass RX2 = some m.cls := hown
  have kl40 := hts (.fieldLink RX2 40 "WorkBoard$Run" "cards" "LWorkBoard$Cards;") (List.mem_of_getElem? (i := 1) rfl)
  have kl99 := hts (.fieldLink RX2 99 "WorkBoard$Cards" "count" "I") (List.mem_of_getElem? (i := 2) rfl)
  have kl9 := hts (.fieldLink RX2 9 "WorkBoard$Run" "place" "[I") (List.mem_of_getElem? (i := 3) rfl)
  have inX0 : ∀ w ∈ u_ws RX0 TX0 9, w ∈ wsX2_countAt := (fun w h => List.mem_cons_of_mem _ (List.mem_append_right _ h))
  have inX2 : ∀ w ∈ u_ws RX2 TX2 17, w ∈ wsX2_countAt := (fun w h => List.mem_cons_of_mem _ (List.mem_append_left _ (List.mem_append_right _ h)))
  have hl : lv_has ls 4 [(0, .ref rA), (1, .int w)] := hl
  have hP : va_P (xD G) vwCl [oRun rA cA uA ra nob pcn day last act rst, xI G (ra 3) 16 place, oCards cA ca cols (nI n)] s.heap := hP
  refine lv_iconst (v := 0) hx hb dX2_countAt_0 (by decide) ?_
  refine lv_istore_n (lv' := [(2, .int 0), (0, .ref rA), (1, .int w)]) hx hb dX2_countAt_1 rfl hl (by decide) rfl (fun ls hl => ?_)
  refine lv_iconst (v := 0) hx hb dX2_countAt_2 (by decide) ?_
  refine lv_istore_n (lv' := [(3, .int 0), (2, .int 0), (0, .ref rA), (1, .int w)]) hx hb dX2_countAt_3 rfl hl (by decide) rfl (fun ls hl => ?_)
  have L4 : ∀ (kk4 i : Nat) (x : Nat), i ≤ n → n + 1 ≤ i + kk4 → (x = cnt (fun b => place b = w) i) → ∀ (ls : Array Slot), lv_has ls 4 [(3, .int (nI i)), (2, .int (nI x)), (0, .ref rA), (1, .int w)] → W p l e ({ frames := 0, cells := 0, slots := 0, locals := 0 } : Room) s m #[Value.ref rA, Value.int w] below meth cO s.heap [] 0 0 Q (F0 m 4 ls []) := by
    intro kk4
    induction kk4 with
    | zero => intro i x h1 h2; exact absurd h2 (by omega)
    | succ kk4 ih4 =>
      intro i x hi4 hk4 ex ls hl
      have hcl := cnt_le (fun b => place b = w) i
      refine lv_iload_n hx hb dX2_countAt_4 rfl (lv_at hl 0 rfl) ?_
      refine lv_aload_n hx hb dX2_countAt_5 rfl (lv_at hl 2 rfl) ?_
      refine va_get (D := xD G) (ci := 2) (v := .ref cA) (C := RX2) (T := TX2) (N := 17) hx hb hts inX2 hown hK hP 0 rfl rfl 0 (by decide) kl40 (fun _ h9 => h9) rfl dX2_countAt_6 ?_
      refine va_get (D := xD G) (ci := 0) (v := .int (nI n)) (C := RX0) (T := TX0) (N := 9) hx hb hts inX0 hown hK hP 2 rfl rfl 1 (by decide) kl99 (fun _ h9 => h9) rfl dX2_countAt_9 ?_
      refine x_icmp_ge (x := i) (y := n) (tgt := 34) hx hb (by omega) (by omega) dX2_countAt_12 (by decide) (fun c12 => ?_) (fun c12 => ?_)
      · skip
        have e_2 : i = n := by omega
        rw [e_2] at ex
        subst ex
        refine lv_iload_n hx hb dX2_countAt_34 rfl (lv_at hl 1 rfl) ?_
        exact hq (nI (cnt (fun b => place b = w) n)) 35 ls dX2_countAt_35 rfl rfl
      · skip
        refine lv_aload_n hx hb dX2_countAt_15 rfl (lv_at hl 2 rfl) ?_
        refine va_get (D := xD G) (ci := 2) (v := .ref (ra 3)) (C := RX2) (T := TX2) (N := 17) hx hb hts inX2 hown hK hP 0 rfl rfl 3 (by decide) kl9 (fun _ h9 => h9) rfl dX2_countAt_16 ?_
        refine lv_iload_n hx hb dX2_countAt_19 rfl (lv_at hl 0 rfl) ?_
        refine x_iald (i := i) hx hb hK hP 1 rfl (by first | omega | assumption) (by omega) dX2_countAt_20 ?_
        refine lv_iload_n hx hb dX2_countAt_21 rfl (lv_at hl 3 rfl) ?_
        refine lv_icmp_ne (x := place i) (y := w) (tgt := 28) hx hb dX2_countAt_22 (by decide) (fun c22 => ?_) (fun c22 => ?_)
        · skip
          refine lv_iinc (v := nI (i + 1)) (lv' := [(3, .int (nI (i + 1))), (2, .int (nI x)), (0, .ref rA), (1, .int w)]) hx hb dX2_countAt_28 hl (k := 0) rfl (by exact nI_add i 1) (by decide) rfl (fun ls hl => ?_)
          refine lv_goto (tgt := 4) hx hb dX2_countAt_31 (by decide) ?_
          exact ih4 (i + 1) x (by omega) (by omega) (by rw [ex]; simp [cnt, c12, c22]) ls (lv_sub hl [0, 1, 2, 3] rfl)
        · skip
          refine lv_iinc (v := nI (x + 1)) (lv' := [(2, .int (nI (x + 1))), (3, .int (nI i)), (0, .ref rA), (1, .int w)]) hx hb dX2_countAt_25 hl (k := 1) rfl (by exact nI_add x 1) (by decide) rfl (fun ls hl => ?_)
          refine lv_iinc (v := nI (i + 1)) (lv' := [(3, .int (nI (i + 1))), (2, .int (nI (x + 1))), (0, .ref rA), (1, .int w)]) hx hb dX2_countAt_28 hl (k := 1) rfl (by exact nI_add i 1) (by decide) rfl (fun ls hl => ?_)
          refine lv_goto (tgt := 4) hx hb dX2_countAt_31 (by decide) ?_
          exact ih4 (i + 1) (x + 1) (by omega) (by omega) (by rw [ex]; simp [cnt, c12, c22]) ls (lv_sub hl [0, 1, 2, 3] rfl)
  exact L4 (n + 1) 0 0 (by omega) (by omega) (rfl) ls (lv_sub hl [0, 1, 2, 3] rfl)
set_option maxHeartbeats 4000000 in
set_option maxRecDepth 100000 in
theorem mX2_countIn (l : Launch) (G : xG) (rA : Nat) (cA : Nat) (uA : Nat) (ra : Nat → Nat) (nob : Int32) (pcn : Int32) (day : Int32) (last : Int32) (act : Int32) (rst : Int32) (place : Nat → Int32) (ca : Nat → Nat) (cols : Int32) (n : Nat) (urg : Nat → Int32) (k0 : Nat) (u : Bool)  (hn : n ≤ 16) (hk : k0 < 4) : xR l yX2_countIn wsX2_countIn ({ frames := 1, cells := 0, slots := 0, locals := 21 } : Room) [.ref rA, .int (nI k0), .int (b2 (u = true))] G [oRun rA cA uA ra nob pcn day last act rst, xI G (ra 3) 16 place, oCards cA ca cols (nI n), xZ G (ca 3) 16 urg] (fun r => r = nI (cnt (fun b => ciP urg nob u k0 place b) n)) := by
  refine xR_of (cc := cX2_countIn) (maxL := 5) (ty := .int) (by decide) rfl (Nat.le_of_ble_eq_true rfl) ?_
  intro p e s m below meth cO ls Q hx hb hml hown hts hP hK hD hl hq
  have hown : s.vm.findClass RX2 = some m.cls := hown
  have kl40 := hts (.fieldLink RX2 40 "WorkBoard$Run" "cards" "LWorkBoard$Cards;") (List.mem_of_getElem? (i := 1) rfl)
  have kl99 := hts (.fieldLink RX2 99 "WorkBoard$Cards" "count" "I") (List.mem_of_getElem? (i := 2) rfl)
  have kl9 := hts (.fieldLink RX2 9 "WorkBoard$Run" "place" "[I") (List.mem_of_getElem? (i := 3) rfl)
  have inX0 : ∀ w ∈ u_ws RX0 TX0 9, w ∈ wsX2_countIn := (fun w h => List.mem_cons_of_mem _ (List.mem_append_right _ h))
  have inX2 : ∀ w ∈ u_ws RX2 TX2 17, w ∈ wsX2_countIn := (fun w h => List.mem_cons_of_mem _ (List.mem_append_left _ (List.mem_append_right _ h)))
  have hl : lv_has ls 5 [(0, .ref rA), (1, .int (nI k0)), (2, .int (b2 (u = true)))] := hl
  have hP : va_P (xD G) vwCl [oRun rA cA uA ra nob pcn day last act rst, xI G (ra 3) 16 place, oCards cA ca cols (nI n), xZ G (ca 3) 16 urg] s.heap := hP
  refine lv_iconst (v := 0) hx hb dX2_countIn_0 (by decide) ?_
  refine lv_istore_n (lv' := [(3, .int 0), (0, .ref rA), (1, .int (nI k0)), (2, .int (b2 (u = true)))]) hx hb dX2_countIn_1 rfl hl (by decide) rfl (fun ls hl => ?_)
  refine lv_iconst (v := 0) hx hb dX2_countIn_2 (by decide) ?_
  refine lv_istore (lv' := [(4, .int 0), (3, .int 0), (0, .ref rA), (1, .int (nI k0)), (2, .int (b2 (u = true)))]) hx hb dX2_countIn_3 hl (by decide) rfl (fun ls hl => ?_)
  have L5 : ∀ (kk5 i : Nat) (x : Nat), i ≤ n → n + 1 ≤ i + kk5 → (x = cnt (fun b => ciP urg nob u k0 place b) i) → ∀ (ls : Array Slot), lv_has ls 5 [(4, .int (nI i)), (3, .int (nI x)), (0, .ref rA), (1, .int (nI k0)), (2, .int (b2 (u = true)))] → W p l e ({ frames := 1, cells := 0, slots := 0, locals := 21 } : Room) s m #[Value.ref rA, Value.int (nI k0), Value.int (b2 (u = true))] below meth cO s.heap [] 0 0 Q (F0 m 5 ls []) := by
    intro kk5
    induction kk5 with
    | zero => intro i x h1 h2; exact absurd h2 (by omega)
    | succ kk5 ih5 =>
      intro i x hi5 hk5 ex ls hl
      have hcl := cnt_le (fun b => ciP urg nob u k0 place b) i
      refine lv_iload hx hb dX2_countIn_5 (lv_at hl 0 rfl) ?_
      refine lv_aload_n hx hb dX2_countIn_7 rfl (lv_at hl 2 rfl) ?_
      refine va_get (D := xD G) (ci := 2) (v := .ref cA) (C := RX2) (T := TX2) (N := 17) hx hb hts inX2 hown hK hP 0 rfl rfl 0 (by decide) kl40 (fun _ h9 => h9) rfl dX2_countIn_8 ?_
      refine va_get (D := xD G) (ci := 0) (v := .int (nI n)) (C := RX0) (T := TX0) (N := 9) hx hb hts inX0 hown hK hP 2 rfl rfl 1 (by decide) kl99 (fun _ h9 => h9) rfl dX2_countIn_11 ?_
      refine x_icmp_ge (x := i) (y := n) (tgt := 47) hx hb (by omega) (by omega) dX2_countIn_14 (by decide) (fun c14 => ?_) (fun c14 => ?_)
      · skip
        have e_2 : i = n := by omega
        rw [e_2] at ex
        subst ex
        refine lv_iload_n hx hb dX2_countIn_47 rfl (lv_at hl 1 rfl) ?_
        exact hq (nI (cnt (fun b => ciP urg nob u k0 place b) n)) 48 ls dX2_countIn_48 rfl rfl
      · skip
        refine lv_aload_n hx hb dX2_countIn_17 rfl (lv_at hl 2 rfl) ?_
        refine va_get (D := xD G) (ci := 2) (v := .ref (ra 3)) (C := RX2) (T := TX2) (N := 17) hx hb hts inX2 hown hK hP 0 rfl rfl 3 (by decide) kl9 (fun _ h9 => h9) rfl dX2_countIn_18 ?_
        refine lv_iload hx hb dX2_countIn_21 (lv_at hl 0 rfl) ?_
        refine x_iald (i := i) hx hb hK hP 1 rfl (by first | omega | assumption) (by omega) dX2_countIn_23 ?_
        refine lv_iload_n hx hb dX2_countIn_24 rfl (lv_at hl 3 rfl) ?_
        refine lv_icmp_ne (x := place i) (y := nI k0) (tgt := 41) hx hb dX2_countIn_25 (by decide) (fun c25 => ?_) (fun c25 => ?_)
        · skip
          refine lv_iinc (v := nI (i + 1)) (lv' := [(4, .int (nI (i + 1))), (3, .int (nI x)), (0, .ref rA), (1, .int (nI k0)), (2, .int (b2 (u = true)))]) hx hb dX2_countIn_41 hl (k := 0) rfl (by exact nI_add i 1) (by decide) rfl (fun ls hl => ?_)
          refine lv_goto (tgt := 5) hx hb dX2_countIn_44 (by decide) ?_
          exact ih5 (i + 1) x (by omega) (by omega) (by rw [ex]; simp [cnt, c14, c25]) ls (lv_sub hl [0, 1, 2, 3, 4] rfl)
        · skip
          refine lv_aload_n hx hb dX2_countIn_28 rfl (lv_at hl 2 rfl) ?_
          refine lv_iload hx hb dX2_countIn_29 (lv_at hl 0 rfl) ?_
          refine x_callR (As := [.int (nI i)]) (rest := []) (ci := 2) (q0 := 0) ⟨hx, hb, hml, hown, hts⟩ (mX2_isUrgent l G rA cA uA ra nob pcn day last act rst ca cols (nI n) urg i (by first | assumption | omega)) (cwV 1 hts gX2_countIn_X2_isUrgent rfl rfl rfl (by decide +kernel) ⟨Nat.le_of_ble_eq_true rfl, Nat.le_of_ble_eq_true rfl⟩) hK hP hD [0, 2, 3] rfl rfl rfl rfl rfl rfl rfl hl.1 rfl (Nat.le_of_ble_eq_true rfl) dX2_countIn_31 ⟨Nat.zero_le _, Nat.zero_le _⟩ (fun r hr => ?_)
          subst hr
          refine lv_iload_n hx hb dX2_countIn_34 rfl (lv_at hl 4 rfl) ?_
          refine x_bcmp_ne (P := urgP urg nob i) (U := u = true) (tgt := 41) hx hb dX2_countIn_35 (by decide) (fun c35 => ?_) (fun c35 => ?_)
          · skip
            refine lv_iinc (v := nI (i + 1)) (lv' := [(4, .int (nI (i + 1))), (3, .int (nI x)), (0, .ref rA), (1, .int (nI k0)), (2, .int (b2 (u = true)))]) hx hb dX2_countIn_41 hl (k := 0) rfl (by exact nI_add i 1) (by decide) rfl (fun ls hl => ?_)
            refine lv_goto (tgt := 5) hx hb dX2_countIn_44 (by decide) ?_
            exact ih5 (i + 1) x (by omega) (by omega) (by rw [ex]; simp [cnt, c14, c25, c35]) ls (lv_sub hl [0, 1, 2, 3, 4] rfl)
          · skip
            refine lv_iinc (v := nI (x + 1)) (lv' := [(3, .int (nI (x + 1))), (4, .int (nI i)), (0, .ref rA), (1, .int (nI k0)), (2, .int (b2 (u = true)))]) hx hb dX2_countIn_38 hl (k := 1) rfl (by exact nI_add x 1) (by decide) rfl (fun ls hl => ?_)
            refine lv_iinc (v := nI (i + 1)) (lv' := [(4, .int (nI (i + 1))), (3, .int (nI (x + 1))), (0, .ref rA), (1, .int (nI k0)), (2, .int (b2 (u = true)))]) hx hb dX2_countIn_41 hl (k := 1) rfl (by exact nI_add i 1) (by decide) rfl (fun ls hl => ?_)
            refine lv_goto (tgt := 5) hx hb dX2_countIn_44 (by decide) ?_
            exact ih5 (i + 1) (x + 1) (by omega) (by omega) (by rw [ex]; simp [cnt, c14, c25, c35]) ls (lv_sub hl [0, 1, 2, 3, 4] rfl)
  exact L5 (n + 1) 0 0 (by omega) (by omega) (rfl) ls (lv_sub hl [0, 1, 2, 3, 4] rfl)
set_option maxHeartbeats 4000000 in
set_option maxRecDepth 100000 in
theorem mX2_countThereOnDay (l : Launch) (G : xG) (rA : Nat) (cA : Nat) (uA : Nat) (ra : Nat → Nat) (nob : Int32) (pcn : Int32) (day : Int32) (last : Int32) (act : Int32) (rst : Int32) (place : Nat → Int32) (don : Nat → Int32) (ca : Nat → Nat) (cols : Int32) (n : Nat)  (hn : n ≤ 16) : xR l yX2_countThereOnDay wsX2_countThereOnDay ({ frames := 2, cells := 0, slots := 0, locals := 42 } : Room) [.ref rA] G [oRun rA cA uA ra nob pcn day last act rst, xI G (ra 3) 16 place, xI G (ra 6) 16 don, oCards cA ca cols (nI n)] (fun r => r = nI (cnt (fun b => thP place don day b) n)) := by
  refine xR_of (cc := cX2_countThereOnDay) (maxL := 3) (ty := .int) (by decide) rfl (Nat.le_of_ble_eq_true rfl) ?_
  intro p e s m below meth cO ls Q hx hb hml hown hts hP hK hD hl hq
  have hown : s.vm.findClass RX2 = some m.cls := hown
  have kl40 := hts (.fieldLink RX2 40 "WorkBoard$Run" "cards" "LWorkBoard$Cards;") (List.mem_of_getElem? (i := 1) rfl)
  have kl99 := hts (.fieldLink RX2 99 "WorkBoard$Cards" "count" "I") (List.mem_of_getElem? (i := 2) rfl)
  have inX0 : ∀ w ∈ u_ws RX0 TX0 9, w ∈ wsX2_countThereOnDay := (fun w h => List.mem_cons_of_mem _ (List.mem_append_right _ h))
  have inX2 : ∀ w ∈ u_ws RX2 TX2 17, w ∈ wsX2_countThereOnDay := (fun w h => List.mem_cons_of_mem _ (List.mem_append_left _ (List.mem_append_right _ h)))
  have hl : lv_has ls 3 [(0, .ref rA)] := hl
  have hP : va_P (xD G) vwCl [oRun rA cA uA ra nob pcn day last act rst, xI G (ra 3) 16 place, xI G (ra 6) 16 don, oCards cA ca cols (nI n)] s.heap := hP
  refine lv_iconst (v := 0) hx hb dX2_countThereOnDay_0 (by decide) ?_
  refine lv_istore_n (lv' := [(1, .int 0), (0, .ref rA)]) hx hb dX2_countThereOnDay_1 rfl hl (by decide) rfl (fun ls hl => ?_)
  refine lv_iconst (v := 0) hx hb dX2_countThereOnDay_2 (by decide) ?_
  refine lv_istore_n (lv' := [(2, .int 0), (1, .int 0), (0, .ref rA)]) hx hb dX2_countThereOnDay_3 rfl hl (by decide) rfl (fun ls hl => ?_)
  have L4 : ∀ (kk4 i : Nat) (x : Nat), i ≤ n → n + 1 ≤ i + kk4 → (x = cnt (fun b => thP place don day b) i) → ∀ (ls : Array Slot), lv_has ls 3 [(2, .int (nI i)), (1, .int (nI x)), (0, .ref rA)] → W p l e ({ frames := 2, cells := 0, slots := 0, locals := 42 } : Room) s m #[Value.ref rA] below meth cO s.heap [] 0 0 Q (F0 m 4 ls []) := by
    intro kk4
    induction kk4 with
    | zero => intro i x h1 h2; exact absurd h2 (by omega)
    | succ kk4 ih4 =>
      intro i x hi4 hk4 ex ls hl
      have hcl := cnt_le (fun b => thP place don day b) i
      refine lv_iload_n hx hb dX2_countThereOnDay_4 rfl (lv_at hl 0 rfl) ?_
      refine lv_aload_n hx hb dX2_countThereOnDay_5 rfl (lv_at hl 2 rfl) ?_
      refine va_get (D := xD G) (ci := 2) (v := .ref cA) (C := RX2) (T := TX2) (N := 17) hx hb hts inX2 hown hK hP 0 rfl rfl 0 (by decide) kl40 (fun _ h9 => h9) rfl dX2_countThereOnDay_6 ?_
      refine va_get (D := xD G) (ci := 0) (v := .int (nI n)) (C := RX0) (T := TX0) (N := 9) hx hb hts inX0 hown hK hP 3 rfl rfl 1 (by decide) kl99 (fun _ h9 => h9) rfl dX2_countThereOnDay_9 ?_
      refine x_icmp_ge (x := i) (y := n) (tgt := 32) hx hb (by omega) (by omega) dX2_countThereOnDay_12 (by decide) (fun c12 => ?_) (fun c12 => ?_)
      · skip
        have e_2 : i = n := by omega
        rw [e_2] at ex
        subst ex
        refine lv_iload_n hx hb dX2_countThereOnDay_32 rfl (lv_at hl 1 rfl) ?_
        exact hq (nI (cnt (fun b => thP place don day b) n)) 33 ls dX2_countThereOnDay_33 rfl rfl
      · skip
        refine lv_aload_n hx hb dX2_countThereOnDay_15 rfl (lv_at hl 2 rfl) ?_
        refine lv_iload_n hx hb dX2_countThereOnDay_16 rfl (lv_at hl 0 rfl) ?_
        refine x_callR (As := [.int (nI i)]) (rest := []) (ci := 2) (q0 := 0) ⟨hx, hb, hml, hown, hts⟩ (mX2_isThereOnDay l G rA cA uA ra nob pcn day last act rst place don i (by first | assumption | omega)) (cwV 1 hts gX2_countThereOnDay_X2_isThereOnDay rfl rfl rfl (by decide +kernel) ⟨Nat.le_of_ble_eq_true rfl, Nat.le_of_ble_eq_true rfl⟩) hK hP hD [0, 1, 2] rfl rfl rfl rfl rfl rfl rfl hl.1 rfl (Nat.le_of_ble_eq_true rfl) dX2_countThereOnDay_17 ⟨Nat.zero_le _, Nat.zero_le _⟩ (fun r hr => ?_)
        subst hr
        refine x_if_eq (P := thP place don day i) (tgt := 26) hx hb dX2_countThereOnDay_20 (by decide) (fun c20 => ?_) (fun c20 => ?_)
        · skip
          refine lv_iinc (v := nI (i + 1)) (lv' := [(2, .int (nI (i + 1))), (1, .int (nI x)), (0, .ref rA)]) hx hb dX2_countThereOnDay_26 hl (k := 0) rfl (by exact nI_add i 1) (by decide) rfl (fun ls hl => ?_)
          refine lv_goto (tgt := 4) hx hb dX2_countThereOnDay_29 (by decide) ?_
          exact ih4 (i + 1) x (by omega) (by omega) (by rw [ex]; simp [cnt, c12, c20]) ls (lv_sub hl [0, 1, 2] rfl)
        · skip
          refine lv_iinc (v := nI (x + 1)) (lv' := [(1, .int (nI (x + 1))), (2, .int (nI i)), (0, .ref rA)]) hx hb dX2_countThereOnDay_23 hl (k := 1) rfl (by exact nI_add x 1) (by decide) rfl (fun ls hl => ?_)
          refine lv_iinc (v := nI (i + 1)) (lv' := [(2, .int (nI (i + 1))), (1, .int (nI (x + 1))), (0, .ref rA)]) hx hb dX2_countThereOnDay_26 hl (k := 1) rfl (by exact nI_add i 1) (by decide) rfl (fun ls hl => ?_)
          refine lv_goto (tgt := 4) hx hb dX2_countThereOnDay_29 (by decide) ?_
          exact ih4 (i + 1) (x + 1) (by omega) (by omega) (by rw [ex]; simp [cnt, c12, c20]) ls (lv_sub hl [0, 1, 2] rfl)
  exact L4 (n + 1) 0 0 (by omega) (by omega) (rfl) ls (lv_sub hl [0, 1, 2] rfl)
set_option maxHeartbeats 4000000 in
set_option maxRecDepth 100000 in
theorem mX2_countNoOlder (l : Launch) (G : xG) (rA : Nat) (cA : Nat) (uA : Nat) (ra : Nat → Nat) (nob : Int32) (pcn : Int32) (day : Int32) (last : Int32) (act : Int32) (rst : Int32) (don : Nat → Int32) (ca : Nat → Nat) (cols : Int32) (n : Nat) (cday : Nat → Int32) (w : Int32)  (hn : n ≤ 16) : xR l yX2_countNoOlder wsX2_countNoOlder ({ frames := 1, cells := 0, slots := 0, locals := 21 } : Room) [.ref rA, .int w] G [oRun rA cA uA ra nob pcn day last act rst, xI G (ra 6) 16 don, oCards cA ca cols (nI n), xI G (ca 2) 16 cday] (fun r => r = nI (cnt (fun b => noP don cday w b) n)) := by
  refine xR_of (cc := cX2_countNoOlder) (maxL := 4) (ty := .int) (by decide) rfl (Nat.le_of_ble_eq_true rfl) ?_
  intro p e s m below meth cO ls Q hx hb hml hown hts hP hK hD hl hq
  have hown : s.vm.findClass RX2 = some m.cls := hown
  have kl40 := hts (.fieldLink RX2 40 "WorkBoard$Run" "cards" "LWorkBoard$Cards;") (List.mem_of_getElem? (i := 1) rfl)
  have kl99 := hts (.fieldLink RX2 99 "WorkBoard$Cards" "count" "I") (List.mem_of_getElem? (i := 2) rfl)
  have kl21 := hts (.fieldLink RX2 21 "WorkBoard$Run" "doneOn" "[I") (List.mem_of_getElem? (i := 3) rfl)
  have inX0 : ∀ w ∈ u_ws RX0 TX0 9, w ∈ wsX2_countNoOlder := (fun w h => List.mem_cons_of_mem _ (List.mem_append_right _ h))
  have inX2 : ∀ w ∈ u_ws RX2 TX2 17, w ∈ wsX2_countNoOlder := (fun w h => List.mem_cons_of_mem _ (List.mem_append_left _ (List.mem_append_right _ h)))
  have hl : lv_has ls 4 [(0, .ref rA), (1, .int w)] := hl
  have hP : va_P (xD G) vwCl [oRun rA cA uA ra nob pcn day last act rst, xI G (ra 6) 16 don, oCards cA ca cols (nI n), xI G (ca 2) 16 cday] s.heap := hP
  refine lv_iconst (v := 0) hx hb dX2_countNoOlder_0 (by decide) ?_
  refine lv_istore_n (lv' := [(2, .int 0), (0, .ref rA), (1, .int w)]) hx hb dX2_countNoOlder_1 rfl hl (by decide) rfl (fun ls hl => ?_)
  refine lv_iconst (v := 0) hx hb dX2_countNoOlder_2 (by decide) ?_
  refine lv_istore_n (lv' := [(3, .int 0), (2, .int 0), (0, .ref rA), (1, .int w)]) hx hb dX2_countNoOlder_3 rfl hl (by decide) rfl (fun ls hl => ?_)
  have L4 : ∀ (kk4 i : Nat) (x : Nat), i ≤ n → n + 1 ≤ i + kk4 → (x = cnt (fun b => noP don cday w b) i) → ∀ (ls : Array Slot), lv_has ls 4 [(3, .int (nI i)), (2, .int (nI x)), (0, .ref rA), (1, .int w)] → W p l e ({ frames := 1, cells := 0, slots := 0, locals := 21 } : Room) s m #[Value.ref rA, Value.int w] below meth cO s.heap [] 0 0 Q (F0 m 4 ls []) := by
    intro kk4
    induction kk4 with
    | zero => intro i x h1 h2; exact absurd h2 (by omega)
    | succ kk4 ih4 =>
      intro i x hi4 hk4 ex ls hl
      have hcl := cnt_le (fun b => noP don cday w b) i
      refine lv_iload_n hx hb dX2_countNoOlder_4 rfl (lv_at hl 0 rfl) ?_
      refine lv_aload_n hx hb dX2_countNoOlder_5 rfl (lv_at hl 2 rfl) ?_
      refine va_get (D := xD G) (ci := 2) (v := .ref cA) (C := RX2) (T := TX2) (N := 17) hx hb hts inX2 hown hK hP 0 rfl rfl 0 (by decide) kl40 (fun _ h9 => h9) rfl dX2_countNoOlder_6 ?_
      refine va_get (D := xD G) (ci := 0) (v := .int (nI n)) (C := RX0) (T := TX0) (N := 9) hx hb hts inX0 hown hK hP 2 rfl rfl 1 (by decide) kl99 (fun _ h9 => h9) rfl dX2_countNoOlder_9 ?_
      refine x_icmp_ge (x := i) (y := n) (tgt := 43) hx hb (by omega) (by omega) dX2_countNoOlder_12 (by decide) (fun c12 => ?_) (fun c12 => ?_)
      · skip
        have e_2 : i = n := by omega
        rw [e_2] at ex
        subst ex
        refine lv_iload_n hx hb dX2_countNoOlder_43 rfl (lv_at hl 1 rfl) ?_
        exact hq (nI (cnt (fun b => noP don cday w b) n)) 44 ls dX2_countNoOlder_44 rfl rfl
      · skip
        refine lv_aload_n hx hb dX2_countNoOlder_15 rfl (lv_at hl 2 rfl) ?_
        refine va_get (D := xD G) (ci := 2) (v := .ref (ra 6)) (C := RX2) (T := TX2) (N := 17) hx hb hts inX2 hown hK hP 0 rfl rfl 6 (by decide) kl21 (fun _ h9 => h9) rfl dX2_countNoOlder_16 ?_
        refine lv_iload_n hx hb dX2_countNoOlder_19 rfl (lv_at hl 0 rfl) ?_
        refine x_iald (i := i) hx hb hK hP 1 rfl (by first | omega | assumption) (by omega) dX2_countNoOlder_20 ?_
        refine lv_iconst (v := (-1)) hx hb dX2_countNoOlder_21 (by decide) ?_
        refine lv_icmp_eq (x := don i) (y := (-1)) (tgt := 37) hx hb dX2_countNoOlder_22 (by decide) (fun c22 => ?_) (fun c22 => ?_)
        · skip
          refine lv_iinc (v := nI (i + 1)) (lv' := [(3, .int (nI (i + 1))), (2, .int (nI x)), (0, .ref rA), (1, .int w)]) hx hb dX2_countNoOlder_37 hl (k := 0) rfl (by exact nI_add i 1) (by decide) rfl (fun ls hl => ?_)
          refine lv_goto (tgt := 4) hx hb dX2_countNoOlder_40 (by decide) ?_
          exact ih4 (i + 1) x (by omega) (by omega) (by rw [ex]; simp [cnt, c12, c22]) ls (lv_sub hl [0, 1, 2, 3] rfl)
        · skip
          refine lv_aload_n hx hb dX2_countNoOlder_25 rfl (lv_at hl 2 rfl) ?_
          refine lv_iload_n hx hb dX2_countNoOlder_26 rfl (lv_at hl 0 rfl) ?_
          refine x_callR (As := [.int (nI i)]) (rest := []) (ci := 2) (q0 := 0) ⟨hx, hb, hml, hown, hts⟩ (mX2_ageOf l G rA cA uA ra nob pcn day last act rst don ca cols (nI n) cday i (by first | assumption | omega)) (cwV 1 hts gX2_countNoOlder_X2_ageOf rfl rfl rfl (by decide +kernel) ⟨Nat.le_of_ble_eq_true rfl, Nat.le_of_ble_eq_true rfl⟩) hK hP hD [0, 1, 2, 3] rfl rfl rfl rfl rfl rfl rfl hl.1 rfl (Nat.le_of_ble_eq_true rfl) dX2_countNoOlder_27 ⟨Nat.zero_le _, Nat.zero_le _⟩ (fun r hr => ?_)
          subst hr
          refine lv_iload_n hx hb dX2_countNoOlder_30 rfl (lv_at hl 3 rfl) ?_
          refine lv_icmp_gt (x := agF don cday i) (y := w) (tgt := 37) hx hb dX2_countNoOlder_31 (by decide) (fun c31 => ?_) (fun c31 => ?_)
          · skip
            refine lv_iinc (v := nI (i + 1)) (lv' := [(3, .int (nI (i + 1))), (2, .int (nI x)), (0, .ref rA), (1, .int w)]) hx hb dX2_countNoOlder_37 hl (k := 0) rfl (by exact nI_add i 1) (by decide) rfl (fun ls hl => ?_)
            refine lv_goto (tgt := 4) hx hb dX2_countNoOlder_40 (by decide) ?_
            exact ih4 (i + 1) x (by omega) (by omega) (by rw [ex]; simp [cnt, c12, c22, c31]) ls (lv_sub hl [0, 1, 2, 3] rfl)
          · skip
            refine lv_iinc (v := nI (x + 1)) (lv' := [(2, .int (nI (x + 1))), (3, .int (nI i)), (0, .ref rA), (1, .int w)]) hx hb dX2_countNoOlder_34 hl (k := 1) rfl (by exact nI_add x 1) (by decide) rfl (fun ls hl => ?_)
            refine lv_iinc (v := nI (i + 1)) (lv' := [(3, .int (nI (i + 1))), (2, .int (nI (x + 1))), (0, .ref rA), (1, .int w)]) hx hb dX2_countNoOlder_37 hl (k := 1) rfl (by exact nI_add i 1) (by decide) rfl (fun ls hl => ?_)
            refine lv_goto (tgt := 4) hx hb dX2_countNoOlder_40 (by decide) ?_
            exact ih4 (i + 1) (x + 1) (by omega) (by omega) (by rw [ex]; simp [cnt, c12, c22, c31]) ls (lv_sub hl [0, 1, 2, 3] rfl)
  exact L4 (n + 1) 0 0 (by omega) (by omega) (rfl) ls (lv_sub hl [0, 1, 2, 3] rfl)
set_option maxHeartbeats 4000000 in
set_option maxRecDepth 100000 in
theorem mX2_areAllDone (l : Launch) (G : xG) (rA : Nat) (cA : Nat) (uA : Nat) (ra : Nat → Nat) (nob : Int32) (pcn : Int32) (day : Int32) (last : Int32) (act : Int32) (rst : Int32) (place : Nat → Int32) (ca : Nat → Nat) (cols : Int32) (n : Nat)  (hn : n ≤ 16) : xR l yX2_areAllDone wsX2_areAllDone ({ frames := 1, cells := 0, slots := 0, locals := 23 } : Room) [.ref rA] G [oRun rA cA uA ra nob pcn day last act rst, xI G (ra 3) 16 place, oCards cA ca cols (nI n)] (fun r => r = b2 (cnt (fun b => place b = 10) n = n)) := by
  refine xR_of (cc := cX2_areAllDone) (maxL := 1) (ty := .boolean) (by decide) rfl (Nat.le_of_ble_eq_true rfl) ?_
  intro p e s m below meth cO ls Q hx hb hml hown hts hP hK hD hl hq
  have hown : s.vm.findClass RX2 = some m.cls := hown
  have kl40 := hts (.fieldLink RX2 40 "WorkBoard$Run" "cards" "LWorkBoard$Cards;") (List.mem_of_getElem? (i := 1) rfl)
  have kl99 := hts (.fieldLink RX2 99 "WorkBoard$Cards" "count" "I") (List.mem_of_getElem? (i := 2) rfl)
  have inX0 : ∀ w ∈ u_ws RX0 TX0 9, w ∈ wsX2_areAllDone := (fun w h => List.mem_cons_of_mem _ (List.mem_append_right _ h))
  have inX2 : ∀ w ∈ u_ws RX2 TX2 17, w ∈ wsX2_areAllDone := (fun w h => List.mem_cons_of_mem _ (List.mem_append_left _ (List.mem_append_right _ h)))
  have hcl := cnt_le (fun b => place b = 10) n
  have hl : lv_has ls 1 [(0, .ref rA)] := hl
  have hP : va_P (xD G) vwCl [oRun rA cA uA ra nob pcn day last act rst, xI G (ra 3) 16 place, oCards cA ca cols (nI n)] s.heap := hP
  refine lv_aload_n hx hb dX2_areAllDone_0 rfl (lv_at hl 0 rfl) ?_
  refine lv_bipush (v := 10) hx hb dX2_areAllDone_1 (by decide) ?_
  refine x_callR (As := [.int 10]) (rest := []) (ci := 2) (q0 := 0) ⟨hx, hb, hml, hown, hts⟩ (mX2_countAt l G rA cA uA ra nob pcn day last act rst place ca cols n 10 (by first | assumption | omega)) (cwV 1 hts gX2_areAllDone_X2_countAt rfl rfl rfl (by decide +kernel) ⟨Nat.le_of_ble_eq_true rfl, Nat.le_of_ble_eq_true rfl⟩) hK hP hD [0, 1, 2] rfl rfl rfl rfl rfl rfl rfl hl.1 rfl (Nat.le_of_ble_eq_true rfl) dX2_areAllDone_3 ⟨Nat.zero_le _, Nat.zero_le _⟩ (fun r hr => ?_)
  subst hr
  refine lv_aload_n hx hb dX2_areAllDone_6 rfl (lv_at hl 0 rfl) ?_
  refine va_get (D := xD G) (ci := 2) (v := .ref cA) (C := RX2) (T := TX2) (N := 17) hx hb hts inX2 hown hK hP 0 rfl rfl 0 (by decide) kl40 (fun _ h9 => h9) rfl dX2_areAllDone_7 ?_
  refine va_get (D := xD G) (ci := 0) (v := .int (nI n)) (C := RX0) (T := TX0) (N := 9) hx hb hts inX0 hown hK hP 2 rfl rfl 1 (by decide) kl99 (fun _ h9 => h9) rfl dX2_areAllDone_10 ?_
  refine x_icmp_ne (x := cnt (fun b => place b = 10) n) (y := n) (tgt := 20) hx hb (by omega) (by omega) dX2_areAllDone_13 (by decide) (fun c13 => ?_) (fun c13 => ?_)
  · skip
    refine lv_iconst (v := 0) hx hb dX2_areAllDone_20 (by decide) ?_
    exact hq 0 21 ls dX2_areAllDone_21 rfl (b2_f (by simp only [inC, urgP, dAh, wtP, thP, noP, ciP, c13, not_true_eq_false, not_false_eq_true, and_self, and_true, true_and, and_false, false_and])).symm
  · skip
    refine lv_iconst (v := 1) hx hb dX2_areAllDone_16 (by decide) ?_
    refine lv_goto (tgt := 21) hx hb dX2_areAllDone_17 (by decide) ?_
    exact hq 1 21 ls dX2_areAllDone_21 rfl (b2_t (by simp only [inC, urgP, dAh, wtP, thP, noP, ciP, c13, not_true_eq_false, not_false_eq_true, and_self, and_true, true_and, and_false, false_and])).symm
set_option maxHeartbeats 4000000 in
set_option maxRecDepth 100000 in
theorem mX2_countCome (l : Launch) (G : xG) (rA : Nat) (cA : Nat) (uA : Nat) (ra : Nat → Nat) (nob : Int32) (pcn : Int32) (day : Int32) (last : Int32) (act : Int32) (rst : Int32) (place : Nat → Int32) (ca : Nat → Nat) (cols : Int32) (n : Nat)  (hn : n ≤ 16) : xR l yX2_countCome wsX2_countCome ({ frames := 1, cells := 0, slots := 0, locals := 23 } : Room) [.ref rA] G [oRun rA cA uA ra nob pcn day last act rst, xI G (ra 3) 16 place, oCards cA ca cols (nI n)] (fun r => r = nI n - nI (cnt (fun b => place b = -1) n)) := by
  refine xR_of (cc := cX2_countCome) (maxL := 1) (ty := .int) (by decide) rfl (Nat.le_of_ble_eq_true rfl) ?_
  intro p e s m below meth cO ls Q hx hb hml hown hts hP hK hD hl hq
  have hown : s.vm.findClass RX2 = some m.cls := hown
  have kl40 := hts (.fieldLink RX2 40 "WorkBoard$Run" "cards" "LWorkBoard$Cards;") (List.mem_of_getElem? (i := 1) rfl)
  have kl99 := hts (.fieldLink RX2 99 "WorkBoard$Cards" "count" "I") (List.mem_of_getElem? (i := 2) rfl)
  have inX0 : ∀ w ∈ u_ws RX0 TX0 9, w ∈ wsX2_countCome := (fun w h => List.mem_cons_of_mem _ (List.mem_append_right _ h))
  have inX2 : ∀ w ∈ u_ws RX2 TX2 17, w ∈ wsX2_countCome := (fun w h => List.mem_cons_of_mem _ (List.mem_append_left _ (List.mem_append_right _ h)))
  have hl : lv_has ls 1 [(0, .ref rA)] := hl
  have hP : va_P (xD G) vwCl [oRun rA cA uA ra nob pcn day last act rst, xI G (ra 3) 16 place, oCards cA ca cols (nI n)] s.heap := hP
  refine lv_aload_n hx hb dX2_countCome_0 rfl (lv_at hl 0 rfl) ?_
  refine va_get (D := xD G) (ci := 2) (v := .ref cA) (C := RX2) (T := TX2) (N := 17) hx hb hts inX2 hown hK hP 0 rfl rfl 0 (by decide) kl40 (fun _ h9 => h9) rfl dX2_countCome_1 ?_
  refine va_get (D := xD G) (ci := 0) (v := .int (nI n)) (C := RX0) (T := TX0) (N := 9) hx hb hts inX0 hown hK hP 2 rfl rfl 1 (by decide) kl99 (fun _ h9 => h9) rfl dX2_countCome_4 ?_
  refine lv_aload_n hx hb dX2_countCome_7 rfl (lv_at hl 0 rfl) ?_
  refine lv_iconst (v := (-1)) hx hb dX2_countCome_8 (by decide) ?_
  refine x_callR (As := [.int (-1)]) (rest := [.int (nI n)]) (ci := 2) (q0 := 0) ⟨hx, hb, hml, hown, hts⟩ (mX2_countAt l G rA cA uA ra nob pcn day last act rst place ca cols n (-1) (by first | assumption | omega)) (cwV 1 hts gX2_countCome_X2_countAt rfl rfl rfl (by decide +kernel) ⟨Nat.le_of_ble_eq_true rfl, Nat.le_of_ble_eq_true rfl⟩) hK hP hD [0, 1, 2] rfl rfl rfl rfl rfl rfl rfl hl.1 rfl (Nat.le_of_ble_eq_true rfl) dX2_countCome_9 ⟨Nat.zero_le _, Nat.zero_le _⟩ (fun r hr => ?_)
  subst hr
  refine lv_isub hx hb dX2_countCome_12 ?_
  exact hq ((nI n) - (nI (cnt (fun b => place b = (-1)) n))) 13 ls dX2_countCome_13 rfl rfl
set_option maxHeartbeats 4000000 in
set_option maxRecDepth 100000 in
theorem mX2_sumOfAges (l : Launch) (G : xG) (rA : Nat) (cA : Nat) (uA : Nat) (ra : Nat → Nat) (nob : Int32) (pcn : Int32) (day : Int32) (last : Int32) (act : Int32) (rst : Int32) (don : Nat → Int32) (ca : Nat → Nat) (cols : Int32) (n : Nat) (cday : Nat → Int32)  (hn : n ≤ 16) : xR l yX2_sumOfAges wsX2_sumOfAges ({ frames := 1, cells := 0, slots := 0, locals := 21 } : Room) [.ref rA] G [oRun rA cA uA ra nob pcn day last act rst, xI G (ra 6) 16 don, oCards cA ca cols (nI n), xI G (ca 2) 16 cday] (fun r => r = sumI (agF don cday) n) := by
  refine xR_of (cc := cX2_sumOfAges) (maxL := 3) (ty := .int) (by decide) rfl (Nat.le_of_ble_eq_true rfl) ?_
  intro p e s m below meth cO ls Q hx hb hml hown hts hP hK hD hl hq
  have hown : s.vm.findClass RX2 = some m.cls := hown
  have kl40 := hts (.fieldLink RX2 40 "WorkBoard$Run" "cards" "LWorkBoard$Cards;") (List.mem_of_getElem? (i := 1) rfl)
  have kl99 := hts (.fieldLink RX2 99 "WorkBoard$Cards" "count" "I") (List.mem_of_getElem? (i := 2) rfl)
  have inX0 : ∀ w ∈ u_ws RX0 TX0 9, w ∈ wsX2_sumOfAges := (fun w h => List.mem_cons_of_mem _ (List.mem_append_right _ h))
  have inX2 : ∀ w ∈ u_ws RX2 TX2 17, w ∈ wsX2_sumOfAges := (fun w h => List.mem_cons_of_mem _ (List.mem_append_left _ (List.mem_append_right _ h)))
  have hl : lv_has ls 3 [(0, .ref rA)] := hl
  have hP : va_P (xD G) vwCl [oRun rA cA uA ra nob pcn day last act rst, xI G (ra 6) 16 don, oCards cA ca cols (nI n), xI G (ca 2) 16 cday] s.heap := hP
  refine lv_iconst (v := 0) hx hb dX2_sumOfAges_0 (by decide) ?_
  refine lv_istore_n (lv' := [(1, .int 0), (0, .ref rA)]) hx hb dX2_sumOfAges_1 rfl hl (by decide) rfl (fun ls hl => ?_)
  refine lv_iconst (v := 0) hx hb dX2_sumOfAges_2 (by decide) ?_
  refine lv_istore_n (lv' := [(2, .int 0), (1, .int 0), (0, .ref rA)]) hx hb dX2_sumOfAges_3 rfl hl (by decide) rfl (fun ls hl => ?_)
  have L4 : ∀ (kk4 i : Nat) (x : Int32), i ≤ n → n + 1 ≤ i + kk4 → (x = sumI (agF don cday) i) → ∀ (ls : Array Slot), lv_has ls 3 [(2, .int (nI i)), (1, .int x), (0, .ref rA)] → W p l e ({ frames := 1, cells := 0, slots := 0, locals := 21 } : Room) s m #[Value.ref rA] below meth cO s.heap [] 0 0 Q (F0 m 4 ls []) := by
    intro kk4
    induction kk4 with
    | zero => intro i x h1 h2; exact absurd h2 (by omega)
    | succ kk4 ih4 =>
      intro i x hi4 hk4 ex ls hl
      refine lv_iload_n hx hb dX2_sumOfAges_4 rfl (lv_at hl 0 rfl) ?_
      refine lv_aload_n hx hb dX2_sumOfAges_5 rfl (lv_at hl 2 rfl) ?_
      refine va_get (D := xD G) (ci := 2) (v := .ref cA) (C := RX2) (T := TX2) (N := 17) hx hb hts inX2 hown hK hP 0 rfl rfl 0 (by decide) kl40 (fun _ h9 => h9) rfl dX2_sumOfAges_6 ?_
      refine va_get (D := xD G) (ci := 0) (v := .int (nI n)) (C := RX0) (T := TX0) (N := 9) hx hb hts inX0 hown hK hP 2 rfl rfl 1 (by decide) kl99 (fun _ h9 => h9) rfl dX2_sumOfAges_9 ?_
      refine x_icmp_ge (x := i) (y := n) (tgt := 29) hx hb (by omega) (by omega) dX2_sumOfAges_12 (by decide) (fun c12 => ?_) (fun c12 => ?_)
      · skip
        have e_2 : i = n := by omega
        rw [e_2] at ex
        subst ex
        refine lv_iload_n hx hb dX2_sumOfAges_29 rfl (lv_at hl 1 rfl) ?_
        exact hq (sumI (agF don cday) n) 30 ls dX2_sumOfAges_30 rfl rfl
      · skip
        refine lv_iload_n hx hb dX2_sumOfAges_15 rfl (lv_at hl 1 rfl) ?_
        refine lv_aload_n hx hb dX2_sumOfAges_16 rfl (lv_at hl 2 rfl) ?_
        refine lv_iload_n hx hb dX2_sumOfAges_17 rfl (lv_at hl 0 rfl) ?_
        refine x_callR (As := [.int (nI i)]) (rest := [.int x]) (ci := 2) (q0 := 0) ⟨hx, hb, hml, hown, hts⟩ (mX2_ageOf l G rA cA uA ra nob pcn day last act rst don ca cols (nI n) cday i (by first | assumption | omega)) (cwV 1 hts gX2_sumOfAges_X2_ageOf rfl rfl rfl (by decide +kernel) ⟨Nat.le_of_ble_eq_true rfl, Nat.le_of_ble_eq_true rfl⟩) hK hP hD [0, 1, 2, 3] rfl rfl rfl rfl rfl rfl rfl hl.1 rfl (Nat.le_of_ble_eq_true rfl) dX2_sumOfAges_18 ⟨Nat.zero_le _, Nat.zero_le _⟩ (fun r hr => ?_)
        subst hr
        refine lv_iadd hx hb dX2_sumOfAges_21 ?_
        refine lv_istore_n (lv' := [(1, .int (x + (agF don cday i))), (2, .int (nI i)), (0, .ref rA)]) hx hb dX2_sumOfAges_22 rfl hl (by decide) rfl (fun ls hl => ?_)
        refine lv_iinc (v := nI (i + 1)) (lv' := [(2, .int (nI (i + 1))), (1, .int (x + (agF don cday i))), (0, .ref rA)]) hx hb dX2_sumOfAges_23 hl (k := 1) rfl (by exact nI_add i 1) (by decide) rfl (fun ls hl => ?_)
        refine lv_goto (tgt := 4) hx hb dX2_sumOfAges_26 (by decide) ?_
        exact ih4 (i + 1) (x + (agF don cday i)) (by omega) (by omega) (by rw [ex]; rfl) ls (lv_sub hl [0, 1, 2] rfl)
  exact L4 (n + 1) 0 0 (by omega) (by omega) (rfl) ls (lv_sub hl [0, 1, 2] rfl)
set_option maxHeartbeats 4000000 in
set_option maxRecDepth 100000 in
theorem mX2_sumOfPlainAges (l : Launch) (G : xG) (rA : Nat) (cA : Nat) (uA : Nat) (ra : Nat → Nat) (nob : Int32) (pcn : Int32) (day : Int32) (last : Int32) (act : Int32) (rst : Int32) (don : Nat → Int32) (ca : Nat → Nat) (cols : Int32) (n : Nat) (cday : Nat → Int32) (urg : Nat → Int32)  (hn : n ≤ 16) : xR l yX2_sumOfPlainAges wsX2_sumOfPlainAges ({ frames := 1, cells := 0, slots := 0, locals := 21 } : Room) [.ref rA] G [oRun rA cA uA ra nob pcn day last act rst, xI G (ra 6) 16 don, oCards cA ca cols (nI n), xI G (ca 2) 16 cday, xZ G (ca 3) 16 urg] (fun r => r = sumI (fun b => if urg b = 0 then agF don cday b else 0) n) := by
  refine xR_of (cc := cX2_sumOfPlainAges) (maxL := 3) (ty := .int) (by decide) rfl (Nat.le_of_ble_eq_true rfl) ?_
  intro p e s m below meth cO ls Q hx hb hml hown hts hP hK hD hl hq
  have hown : s.vm.findClass RX2 = some m.cls := hown
  have kl40 := hts (.fieldLink RX2 40 "WorkBoard$Run" "cards" "LWorkBoard$Cards;") (List.mem_of_getElem? (i := 1) rfl)
  have kl99 := hts (.fieldLink RX2 99 "WorkBoard$Cards" "count" "I") (List.mem_of_getElem? (i := 2) rfl)
  have kl105 := hts (.fieldLink RX2 105 "WorkBoard$Cards" "urgent" "[Z") (List.mem_of_getElem? (i := 3) rfl)
  have inX0 : ∀ w ∈ u_ws RX0 TX0 9, w ∈ wsX2_sumOfPlainAges := (fun w h => List.mem_cons_of_mem _ (List.mem_append_right _ h))
  have inX2 : ∀ w ∈ u_ws RX2 TX2 17, w ∈ wsX2_sumOfPlainAges := (fun w h => List.mem_cons_of_mem _ (List.mem_append_left _ (List.mem_append_right _ h)))
  have hl : lv_has ls 3 [(0, .ref rA)] := hl
  have hP : va_P (xD G) vwCl [oRun rA cA uA ra nob pcn day last act rst, xI G (ra 6) 16 don, oCards cA ca cols (nI n), xI G (ca 2) 16 cday, xZ G (ca 3) 16 urg] s.heap := hP
  refine lv_iconst (v := 0) hx hb dX2_sumOfPlainAges_0 (by decide) ?_
  refine lv_istore_n (lv' := [(1, .int 0), (0, .ref rA)]) hx hb dX2_sumOfPlainAges_1 rfl hl (by decide) rfl (fun ls hl => ?_)
  refine lv_iconst (v := 0) hx hb dX2_sumOfPlainAges_2 (by decide) ?_
  refine lv_istore_n (lv' := [(2, .int 0), (1, .int 0), (0, .ref rA)]) hx hb dX2_sumOfPlainAges_3 rfl hl (by decide) rfl (fun ls hl => ?_)
  have L4 : ∀ (kk4 i : Nat) (x : Int32), i ≤ n → n + 1 ≤ i + kk4 → (x = sumI (fun b => if urg b = 0 then agF don cday b else 0) i) → ∀ (ls : Array Slot), lv_has ls 3 [(2, .int (nI i)), (1, .int x), (0, .ref rA)] → W p l e ({ frames := 1, cells := 0, slots := 0, locals := 21 } : Room) s m #[Value.ref rA] below meth cO s.heap [] 0 0 Q (F0 m 4 ls []) := by
    intro kk4
    induction kk4 with
    | zero => intro i x h1 h2; exact absurd h2 (by omega)
    | succ kk4 ih4 =>
      intro i x hi4 hk4 ex ls hl
      refine lv_iload_n hx hb dX2_sumOfPlainAges_4 rfl (lv_at hl 0 rfl) ?_
      refine lv_aload_n hx hb dX2_sumOfPlainAges_5 rfl (lv_at hl 2 rfl) ?_
      refine va_get (D := xD G) (ci := 2) (v := .ref cA) (C := RX2) (T := TX2) (N := 17) hx hb hts inX2 hown hK hP 0 rfl rfl 0 (by decide) kl40 (fun _ h9 => h9) rfl dX2_sumOfPlainAges_6 ?_
      refine va_get (D := xD G) (ci := 0) (v := .int (nI n)) (C := RX0) (T := TX0) (N := 9) hx hb hts inX0 hown hK hP 2 rfl rfl 1 (by decide) kl99 (fun _ h9 => h9) rfl dX2_sumOfPlainAges_9 ?_
      refine x_icmp_ge (x := i) (y := n) (tgt := 41) hx hb (by omega) (by omega) dX2_sumOfPlainAges_12 (by decide) (fun c12 => ?_) (fun c12 => ?_)
      · skip
        have e_2 : i = n := by omega
        rw [e_2] at ex
        subst ex
        refine lv_iload_n hx hb dX2_sumOfPlainAges_41 rfl (lv_at hl 1 rfl) ?_
        exact hq (sumI (fun b => if urg b = 0 then agF don cday b else 0) n) 42 ls dX2_sumOfPlainAges_42 rfl rfl
      · skip
        refine lv_aload_n hx hb dX2_sumOfPlainAges_15 rfl (lv_at hl 2 rfl) ?_
        refine va_get (D := xD G) (ci := 2) (v := .ref cA) (C := RX2) (T := TX2) (N := 17) hx hb hts inX2 hown hK hP 0 rfl rfl 0 (by decide) kl40 (fun _ h9 => h9) rfl dX2_sumOfPlainAges_16 ?_
        refine va_get (D := xD G) (ci := 0) (v := .ref (ca 3)) (C := RX0) (T := TX0) (N := 9) hx hb hts inX0 hown hK hP 2 rfl rfl 3 (by decide) kl105 (fun _ h9 => h9) rfl dX2_sumOfPlainAges_19 ?_
        refine lv_iload_n hx hb dX2_sumOfPlainAges_22 rfl (lv_at hl 0 rfl) ?_
        refine x_zald (i := i) hx hb hK hP 4 rfl (by first | omega | assumption) (by omega) dX2_sumOfPlainAges_23 ?_
        refine lv_if_ne (x := urg i) (tgt := 35) hx hb dX2_sumOfPlainAges_24 (by decide) (fun c24 => ?_) (fun c24 => ?_)
        · skip
          refine lv_iinc (v := nI (i + 1)) (lv' := [(2, .int (nI (i + 1))), (1, .int x), (0, .ref rA)]) hx hb dX2_sumOfPlainAges_35 hl (k := 0) rfl (by exact nI_add i 1) (by decide) rfl (fun ls hl => ?_)
          refine lv_goto (tgt := 4) hx hb dX2_sumOfPlainAges_38 (by decide) ?_
          exact ih4 (i + 1) x (by omega) (by omega) (by rw [ex]; simp only [sumI]; simp [c12, c24]) ls (lv_sub hl [0, 1, 2] rfl)
        · skip
          refine lv_iload_n hx hb dX2_sumOfPlainAges_27 rfl (lv_at hl 1 rfl) ?_
          refine lv_aload_n hx hb dX2_sumOfPlainAges_28 rfl (lv_at hl 2 rfl) ?_
          refine lv_iload_n hx hb dX2_sumOfPlainAges_29 rfl (lv_at hl 0 rfl) ?_
          refine x_callR (As := [.int (nI i)]) (rest := [.int x]) (ci := 2) (q0 := 0) ⟨hx, hb, hml, hown, hts⟩ (mX2_ageOf l G rA cA uA ra nob pcn day last act rst don ca cols (nI n) cday i (by first | assumption | omega)) (cwV 1 hts gX2_sumOfPlainAges_X2_ageOf rfl rfl rfl (by decide +kernel) ⟨Nat.le_of_ble_eq_true rfl, Nat.le_of_ble_eq_true rfl⟩) hK hP hD [0, 1, 2, 3] rfl rfl rfl rfl rfl rfl rfl hl.1 rfl (Nat.le_of_ble_eq_true rfl) dX2_sumOfPlainAges_30 ⟨Nat.zero_le _, Nat.zero_le _⟩ (fun r hr => ?_)
          subst hr
          refine lv_iadd hx hb dX2_sumOfPlainAges_33 ?_
          refine lv_istore_n (lv' := [(1, .int (x + (agF don cday i))), (2, .int (nI i)), (0, .ref rA)]) hx hb dX2_sumOfPlainAges_34 rfl hl (by decide) rfl (fun ls hl => ?_)
          refine lv_iinc (v := nI (i + 1)) (lv' := [(2, .int (nI (i + 1))), (1, .int (x + (agF don cday i))), (0, .ref rA)]) hx hb dX2_sumOfPlainAges_35 hl (k := 1) rfl (by exact nI_add i 1) (by decide) rfl (fun ls hl => ?_)
          refine lv_goto (tgt := 4) hx hb dX2_sumOfPlainAges_38 (by decide) ?_
          exact ih4 (i + 1) (x + (agF don cday i)) (by omega) (by omega) (by rw [ex]; simp only [sumI]; simp [c12, c24]) ls (lv_sub hl [0, 1, 2] rfl)
  exact L4 (n + 1) 0 0 (by omega) (by omega) (rfl) ls (lv_sub hl [0, 1, 2] rfl)
set_option maxHeartbeats 4000000 in
set_option maxRecDepth 100000 in
theorem mX2_ageForShare (l : Launch) (G : xG) (rA : Nat) (cA : Nat) (uA : Nat) (ra : Nat → Nat) (nob : Int32) (pcn : Int32) (day : Int32) (last : Int32) (act : Int32) (rst : Int32) (place : Nat → Int32) (don : Nat → Int32) (ca : Nat → Nat) (cols : Int32) (n : Nat) (cday : Nat → Int32) (share : Int32)  (hn : n ≤ 16) : xR l yX2_ageForShare wsX2_ageForShare ({ frames := 2, cells := 0, slots := 0, locals := 44 } : Room) [.ref rA, .int share] G [oRun rA cA uA ra nob pcn day last act rst, xI G (ra 3) 16 place, xI G (ra 6) 16 don, oCards cA ca cols (nI n), xI G (ca 2) 16 cday] (fun r => r = shF don cday n share (nI (cnt (fun b => place b = 10) n)) n) := by
  refine xR_of (cc := cX2_ageForShare) (maxL := 6) (ty := .int) (by decide) rfl (Nat.le_of_ble_eq_true rfl) ?_
  intro p e s m below meth cO ls Q hx hb hml hown hts hP hK hD hl hq
  have hown : s.vm.findClass RX2 = some m.cls := hown
  have kl40 := hts (.fieldLink RX2 40 "WorkBoard$Run" "cards" "LWorkBoard$Cards;") (List.mem_of_getElem? (i := 1) rfl)
  have kl99 := hts (.fieldLink RX2 99 "WorkBoard$Cards" "count" "I") (List.mem_of_getElem? (i := 2) rfl)
  have inX0 : ∀ w ∈ u_ws RX0 TX0 9, w ∈ wsX2_ageForShare := (fun w h => List.mem_cons_of_mem _ (List.mem_append_right _ h))
  have inX2 : ∀ w ∈ u_ws RX2 TX2 17, w ∈ wsX2_ageForShare := (fun w h => List.mem_cons_of_mem _ (List.mem_append_left _ (List.mem_append_right _ h)))
  have hl : lv_has ls 6 [(0, .ref rA), (1, .int share)] := hl
  have hP : va_P (xD G) vwCl [oRun rA cA uA ra nob pcn day last act rst, xI G (ra 3) 16 place, xI G (ra 6) 16 don, oCards cA ca cols (nI n), xI G (ca 2) 16 cday] s.heap := hP
  refine lv_aload_n hx hb dX2_ageForShare_0 rfl (lv_at hl 0 rfl) ?_
  refine lv_bipush (v := 10) hx hb dX2_ageForShare_1 (by decide) ?_
  refine x_callR (As := [.int 10]) (rest := []) (ci := 2) (q0 := 0) ⟨hx, hb, hml, hown, hts⟩ (mX2_countAt l G rA cA uA ra nob pcn day last act rst place ca cols n 10 (by first | assumption | omega)) (cwV 1 hts gX2_ageForShare_X2_countAt rfl rfl rfl (by decide +kernel) ⟨Nat.le_of_ble_eq_true rfl, Nat.le_of_ble_eq_true rfl⟩) hK hP hD [0, 1, 3] rfl rfl rfl rfl rfl rfl rfl hl.1 rfl (Nat.le_of_ble_eq_true rfl) dX2_ageForShare_3 ⟨Nat.zero_le _, Nat.zero_le _⟩ (fun r hr => ?_)
  subst hr
  refine lv_istore_n (lv' := [(2, .int (nI (cnt (fun b => place b = 10) n))), (0, .ref rA), (1, .int share)]) hx hb dX2_ageForShare_6 rfl hl (by decide) rfl (fun ls hl => ?_)
  refine lv_iconst (v := (-1)) hx hb dX2_ageForShare_7 (by decide) ?_
  refine lv_istore_n (lv' := [(3, .int (-1)), (2, .int (nI (cnt (fun b => place b = 10) n))), (0, .ref rA), (1, .int share)]) hx hb dX2_ageForShare_8 rfl hl (by decide) rfl (fun ls hl => ?_)
  refine lv_iconst (v := 0) hx hb dX2_ageForShare_9 (by decide) ?_
  refine lv_istore (lv' := [(4, .int 0), (3, .int (-1)), (2, .int (nI (cnt (fun b => place b = 10) n))), (0, .ref rA), (1, .int share)]) hx hb dX2_ageForShare_10 hl (by decide) rfl (fun ls hl => ?_)
  have L12 : ∀ (kk12 i : Nat) (x : Int32), i ≤ n → n + 1 ≤ i + kk12 → (x = shF don cday n share (nI (cnt (fun b => place b = 10) n)) i) → ∀ (ls : Array Slot), lv_has ls 6 [(4, .int (nI i)), (3, .int x), (2, .int (nI (cnt (fun b => place b = 10) n))), (0, .ref rA), (1, .int share)] → W p l e ({ frames := 2, cells := 0, slots := 0, locals := 44 } : Room) s m #[Value.ref rA, Value.int share] below meth cO s.heap [] 0 0 Q (F0 m 12 ls []) := by
    intro kk12
    induction kk12 with
    | zero => intro i x h1 h2; exact absurd h2 (by omega)
    | succ kk12 ih12 =>
      intro i x hi12 hk12 ex ls hl
      refine lv_iload hx hb dX2_ageForShare_12 (lv_at hl 0 rfl) ?_
      refine lv_aload_n hx hb dX2_ageForShare_14 rfl (lv_at hl 3 rfl) ?_
      refine va_get (D := xD G) (ci := 2) (v := .ref cA) (C := RX2) (T := TX2) (N := 17) hx hb hts inX2 hown hK hP 0 rfl rfl 0 (by decide) kl40 (fun _ h9 => h9) rfl dX2_ageForShare_15 ?_
      refine va_get (D := xD G) (ci := 0) (v := .int (nI n)) (C := RX0) (T := TX0) (N := 9) hx hb hts inX0 hown hK hP 3 rfl rfl 1 (by decide) kl99 (fun _ h9 => h9) rfl dX2_ageForShare_18 ?_
      refine x_icmp_ge (x := i) (y := n) (tgt := 73) hx hb (by omega) (by omega) dX2_ageForShare_21 (by decide) (fun c21 => ?_) (fun c21 => ?_)
      · skip
        have e_2 : i = n := by omega
        rw [e_2] at ex
        subst ex
        refine lv_iload_n hx hb dX2_ageForShare_73 rfl (lv_at hl 1 rfl) ?_
        exact hq (shF don cday n share (nI (cnt (fun b => place b = 10) n)) n) 74 ls dX2_ageForShare_74 rfl rfl
      · skip
        refine lv_aload_n hx hb dX2_ageForShare_24 rfl (lv_at hl 3 rfl) ?_
        refine lv_iload hx hb dX2_ageForShare_25 (lv_at hl 0 rfl) ?_
        refine x_callR (As := [.int (nI i)]) (rest := []) (ci := 2) (q0 := 0) ⟨hx, hb, hml, hown, hts⟩ (mX2_ageOf l G rA cA uA ra nob pcn day last act rst don ca cols (nI n) cday i (by first | assumption | omega)) (cwV 1 hts gX2_ageForShare_X2_ageOf rfl rfl rfl (by decide +kernel) ⟨Nat.le_of_ble_eq_true rfl, Nat.le_of_ble_eq_true rfl⟩) hK hP hD [0, 2, 3, 4] rfl rfl rfl rfl rfl rfl rfl hl.1 rfl (Nat.le_of_ble_eq_true rfl) dX2_ageForShare_27 ⟨Nat.zero_le _, Nat.zero_le _⟩ (fun r hr => ?_)
        subst hr
        refine lv_istore (lv' := [(5, .int (agF don cday i)), (4, .int (nI i)), (3, .int x), (2, .int (nI (cnt (fun b => place b = 10) n))), (0, .ref rA), (1, .int share)]) hx hb dX2_ageForShare_30 hl (by decide) rfl (fun ls hl => ?_)
        refine lv_iload hx hb dX2_ageForShare_32 (lv_at hl 0 rfl) ?_
        refine lv_iconst (v := (-1)) hx hb dX2_ageForShare_34 (by decide) ?_
        refine lv_icmp_eq (x := agF don cday i) (y := (-1)) (tgt := 67) hx hb dX2_ageForShare_35 (by decide) (fun c35 => ?_) (fun c35 => ?_)
        · skip
          refine lv_iinc (v := nI (i + 1)) (lv' := [(4, .int (nI (i + 1))), (5, .int (agF don cday i)), (3, .int x), (2, .int (nI (cnt (fun b => place b = 10) n))), (0, .ref rA), (1, .int share)]) hx hb dX2_ageForShare_67 hl (k := 1) rfl (by exact nI_add i 1) (by decide) rfl (fun ls hl => ?_)
          refine lv_goto (tgt := 12) hx hb dX2_ageForShare_70 (by decide) ?_
          exact ih12 (i + 1) x (by omega) (by omega) (by subst ex; simp only [shF]; rw [if_neg (fun h => h.1.1 c35)]) ls (lv_sub hl [0, 2, 3, 4, 5] rfl)
        · skip
          refine lv_aload_n hx hb dX2_ageForShare_38 rfl (lv_at hl 4 rfl) ?_
          refine lv_iload hx hb dX2_ageForShare_39 (lv_at hl 0 rfl) ?_
          refine x_callR (As := [.int (agF don cday i)]) (rest := []) (ci := 2) (q0 := 0) ⟨hx, hb, hml, hown, hts⟩ (mX2_countNoOlder l G rA cA uA ra nob pcn day last act rst don ca cols n cday (agF don cday i) (by first | assumption | omega)) (cwV 1 hts gX2_ageForShare_X2_countNoOlder rfl rfl rfl (by decide +kernel) ⟨Nat.le_of_ble_eq_true rfl, Nat.le_of_ble_eq_true rfl⟩) hK hP hD [0, 2, 3, 4] rfl rfl rfl rfl rfl rfl rfl hl.1 rfl (Nat.le_of_ble_eq_true rfl) dX2_ageForShare_41 ⟨Nat.zero_le _, Nat.zero_le _⟩ (fun r hr => ?_)
          subst hr
          refine lv_bipush (v := 100) hx hb dX2_ageForShare_44 (by decide) ?_
          refine lv_imul hx hb dX2_ageForShare_46 ?_
          refine x_top (y := nI ((cnt (fun b => noP don cday (agF don cday i) b) n) * 100)) (pk_mul (cnt (fun b => noP don cday (agF don cday i) b) n) 100) ?_
          refine lv_iload_n hx hb dX2_ageForShare_47 rfl (lv_at hl 5 rfl) ?_
          refine lv_iload_n hx hb dX2_ageForShare_48 rfl (lv_at hl 3 rfl) ?_
          refine lv_imul hx hb dX2_ageForShare_49 ?_
          refine lv_icmp_lt (x := nI ((cnt (fun b => noP don cday (agF don cday i) b) n) * 100)) (y := share * (nI (cnt (fun b => place b = 10) n))) (tgt := 67) hx hb dX2_ageForShare_50 (by decide) (fun c50 => ?_) (fun c50 => ?_)
          · skip
            refine lv_iinc (v := nI (i + 1)) (lv' := [(4, .int (nI (i + 1))), (5, .int (agF don cday i)), (3, .int x), (2, .int (nI (cnt (fun b => place b = 10) n))), (0, .ref rA), (1, .int share)]) hx hb dX2_ageForShare_67 hl (k := 1) rfl (by exact nI_add i 1) (by decide) rfl (fun ls hl => ?_)
            refine lv_goto (tgt := 12) hx hb dX2_ageForShare_70 (by decide) ?_
            exact ih12 (i + 1) x (by omega) (by omega) (by subst ex; simp only [shF]; rw [if_neg (fun h => h.1.2 c50)]) ls (lv_sub hl [0, 2, 3, 4, 5] rfl)
          · skip
            refine lv_iload_n hx hb dX2_ageForShare_53 rfl (lv_at hl 2 rfl) ?_
            refine lv_iconst (v := (-1)) hx hb dX2_ageForShare_54 (by decide) ?_
            refine lv_icmp_eq (x := x) (y := (-1)) (tgt := 64) hx hb dX2_ageForShare_55 (by decide) (fun c55 => ?_) (fun c55 => ?_)
            · skip
              refine lv_iload hx hb dX2_ageForShare_64 (lv_at hl 0 rfl) ?_
              refine lv_istore_n (lv' := [(3, .int (agF don cday i)), (5, .int (agF don cday i)), (4, .int (nI i)), (2, .int (nI (cnt (fun b => place b = 10) n))), (0, .ref rA), (1, .int share)]) hx hb dX2_ageForShare_66 rfl hl (by decide) rfl (fun ls hl => ?_)
              refine lv_iinc (v := nI (i + 1)) (lv' := [(4, .int (nI (i + 1))), (3, .int (agF don cday i)), (5, .int (agF don cday i)), (2, .int (nI (cnt (fun b => place b = 10) n))), (0, .ref rA), (1, .int share)]) hx hb dX2_ageForShare_67 hl (k := 2) rfl (by exact nI_add i 1) (by decide) rfl (fun ls hl => ?_)
              refine lv_goto (tgt := 12) hx hb dX2_ageForShare_70 (by decide) ?_
              exact ih12 (i + 1) (agF don cday i) (by omega) (by omega) (by subst ex; simp only [shF]; rw [if_pos ⟨⟨c35, c50⟩, Or.inl c55⟩]) ls (lv_sub hl [0, 1, 3, 4, 5] rfl)
            · skip
              refine lv_iload hx hb dX2_ageForShare_58 (lv_at hl 0 rfl) ?_
              refine lv_iload_n hx hb dX2_ageForShare_60 rfl (lv_at hl 2 rfl) ?_
              refine lv_icmp_ge (x := agF don cday i) (y := x) (tgt := 67) hx hb dX2_ageForShare_61 (by decide) (fun c61 => ?_) (fun c61 => ?_)
              · skip
                refine lv_iinc (v := nI (i + 1)) (lv' := [(4, .int (nI (i + 1))), (5, .int (agF don cday i)), (3, .int x), (2, .int (nI (cnt (fun b => place b = 10) n))), (0, .ref rA), (1, .int share)]) hx hb dX2_ageForShare_67 hl (k := 1) rfl (by exact nI_add i 1) (by decide) rfl (fun ls hl => ?_)
                refine lv_goto (tgt := 12) hx hb dX2_ageForShare_70 (by decide) ?_
                exact ih12 (i + 1) x (by omega) (by omega) (by subst ex; simp only [shF]; rw [if_neg (fun h => h.2.elim c55 (fun z => z c61))]) ls (lv_sub hl [0, 2, 3, 4, 5] rfl)
              · skip
                refine lv_iload hx hb dX2_ageForShare_64 (lv_at hl 0 rfl) ?_
                refine lv_istore_n (lv' := [(3, .int (agF don cday i)), (5, .int (agF don cday i)), (4, .int (nI i)), (2, .int (nI (cnt (fun b => place b = 10) n))), (0, .ref rA), (1, .int share)]) hx hb dX2_ageForShare_66 rfl hl (by decide) rfl (fun ls hl => ?_)
                refine lv_iinc (v := nI (i + 1)) (lv' := [(4, .int (nI (i + 1))), (3, .int (agF don cday i)), (5, .int (agF don cday i)), (2, .int (nI (cnt (fun b => place b = 10) n))), (0, .ref rA), (1, .int share)]) hx hb dX2_ageForShare_67 hl (k := 2) rfl (by exact nI_add i 1) (by decide) rfl (fun ls hl => ?_)
                refine lv_goto (tgt := 12) hx hb dX2_ageForShare_70 (by decide) ?_
                exact ih12 (i + 1) (agF don cday i) (by omega) (by omega) (by subst ex; simp only [shF]; rw [if_pos ⟨⟨c35, c50⟩, Or.inr c61⟩]) ls (lv_sub hl [0, 1, 3, 4, 5] rfl)
  exact L12 (n + 1) 0 (-1) (by omega) (by omega) (rfl) ls (lv_sub hl [0, 1, 2, 3, 4] rfl)
set_option maxHeartbeats 4000000 in
set_option maxRecDepth 100000 in
theorem mX2_standsUnlike (l : Launch) (G : xG) (rA : Nat) (cA : Nat) (uA : Nat) (ra : Nat → Nat) (nob : Int32) (pcn : Int32) (day : Int32) (last : Int32) (act : Int32) (rst : Int32) (place : Nat → Int32) (left : Nat → Int32) (oA : Nat) (uA2 : Nat) (oa : Nat → Nat) (nob2 : Int32) (pcn2 : Int32) (day2 : Int32) (last2 : Int32) (act2 : Int32) (rst2 : Int32) (pl2 : Nat → Int32) (lf2 : Nat → Int32) (ca : Nat → Nat) (cols : Int32) (n : Nat)  (hn : n ≤ 16) : xR l yX2_standsUnlike wsX2_standsUnlike ({ frames := 0, cells := 0, slots := 0, locals := 0 } : Room) [.ref rA, .ref oA] G [oRun rA cA uA ra nob pcn day last act rst, xI G (ra 3) 16 place, xI G (ra 5) 16 left, oRun oA cA uA2 oa nob2 pcn2 day2 last2 act2 rst2, xI G (oa 3) 16 pl2, xI G (oa 5) 16 lf2, oCards cA ca cols (nI n)] (fun r => r = b2 (∃ b, b < n ∧ (¬ place b = pl2 b ∨ ¬ left b = lf2 b))) := by
  refine xR_of (cc := cX2_standsUnlike) (maxL := 3) (ty := .boolean) (by decide) rfl (Nat.le_of_ble_eq_true rfl) ?_
  intro p e s m below meth cO ls Q hx hb hml hown hts hP hK hD hl hq
  have hown : s.vm.findClass RX2 = some m.cls := hown
  have kl40 := hts (.fieldLink RX2 40 "WorkBoard$Run" "cards" "LWorkBoard$Cards;") (List.mem_of_getElem? (i := 1) rfl)
  have kl99 := hts (.fieldLink RX2 99 "WorkBoard$Cards" "count" "I") (List.mem_of_getElem? (i := 2) rfl)
  have kl9 := hts (.fieldLink RX2 9 "WorkBoard$Run" "place" "[I") (List.mem_of_getElem? (i := 3) rfl)
  have kl18 := hts (.fieldLink RX2 18 "WorkBoard$Run" "left" "[I") (List.mem_of_getElem? (i := 4) rfl)
  have inX0 : ∀ w ∈ u_ws RX0 TX0 9, w ∈ wsX2_standsUnlike := (fun w h => List.mem_cons_of_mem _ (List.mem_append_right _ h))
  have inX2 : ∀ w ∈ u_ws RX2 TX2 17, w ∈ wsX2_standsUnlike := (fun w h => List.mem_cons_of_mem _ (List.mem_append_left _ (List.mem_append_right _ h)))
  have hl : lv_has ls 3 [(0, .ref rA), (1, .ref oA)] := hl
  have hP : va_P (xD G) vwCl [oRun rA cA uA ra nob pcn day last act rst, xI G (ra 3) 16 place, xI G (ra 5) 16 left, oRun oA cA uA2 oa nob2 pcn2 day2 last2 act2 rst2, xI G (oa 3) 16 pl2, xI G (oa 5) 16 lf2, oCards cA ca cols (nI n)] s.heap := hP
  refine lv_iconst (v := 0) hx hb dX2_standsUnlike_0 (by decide) ?_
  refine lv_istore_n (lv' := [(2, .int 0), (0, .ref rA), (1, .ref oA)]) hx hb dX2_standsUnlike_1 rfl hl (by decide) rfl (fun ls hl => ?_)
  have L2 : ∀ (kk2 i : Nat) , i ≤ n → n + 1 ≤ i + kk2 → (∀ b, b < i → place b = pl2 b ∧ left b = lf2 b) → ∀ (ls : Array Slot), lv_has ls 3 [(2, .int (nI i)), (0, .ref rA), (1, .ref oA)] → W p l e ({ frames := 0, cells := 0, slots := 0, locals := 0 } : Room) s m #[Value.ref rA, Value.ref oA] below meth cO s.heap [] 0 0 Q (F0 m 2 ls []) := by
    intro kk2
    induction kk2 with
    | zero => intro i  h1 h2; exact absurd h2 (by omega)
    | succ kk2 ih2 =>
      intro i  hi2 hk2 hA ls hl
      refine lv_iload_n hx hb dX2_standsUnlike_2 rfl (lv_at hl 0 rfl) ?_
      refine lv_aload_n hx hb dX2_standsUnlike_3 rfl (lv_at hl 1 rfl) ?_
      refine va_get (D := xD G) (ci := 2) (v := .ref cA) (C := RX2) (T := TX2) (N := 17) hx hb hts inX2 hown hK hP 0 rfl rfl 0 (by decide) kl40 (fun _ h9 => h9) rfl dX2_standsUnlike_4 ?_
      refine va_get (D := xD G) (ci := 0) (v := .int (nI n)) (C := RX0) (T := TX0) (N := 9) hx hb hts inX0 hown hK hP 6 rfl rfl 1 (by decide) kl99 (fun _ h9 => h9) rfl dX2_standsUnlike_7 ?_
      refine x_icmp_ge (x := i) (y := n) (tgt := 51) hx hb (by omega) (by omega) dX2_standsUnlike_10 (by decide) (fun c10 => ?_) (fun c10 => ?_)
      · skip
        refine lv_iconst (v := 0) hx hb dX2_standsUnlike_51 (by decide) ?_
        exact hq 0 52 ls dX2_standsUnlike_52 rfl ((b2_f (fun ⟨b, h1, h2⟩ => h2.elim (fun h => h (hA b (by omega)).1) (fun h => h (hA b (by omega)).2))).symm)
      · skip
        refine lv_aload_n hx hb dX2_standsUnlike_13 rfl (lv_at hl 1 rfl) ?_
        refine va_get (D := xD G) (ci := 2) (v := .ref (ra 3)) (C := RX2) (T := TX2) (N := 17) hx hb hts inX2 hown hK hP 0 rfl rfl 3 (by decide) kl9 (fun _ h9 => h9) rfl dX2_standsUnlike_14 ?_
        refine lv_iload_n hx hb dX2_standsUnlike_17 rfl (lv_at hl 0 rfl) ?_
        refine x_iald (i := i) hx hb hK hP 1 rfl (by first | omega | assumption) (by omega) dX2_standsUnlike_18 ?_
        refine lv_aload_n hx hb dX2_standsUnlike_19 rfl (lv_at hl 2 rfl) ?_
        refine va_get (D := xD G) (ci := 2) (v := .ref (oa 3)) (C := RX2) (T := TX2) (N := 17) hx hb hts inX2 hown hK hP 3 rfl rfl 3 (by decide) kl9 (fun _ h9 => h9) rfl dX2_standsUnlike_20 ?_
        refine lv_iload_n hx hb dX2_standsUnlike_23 rfl (lv_at hl 0 rfl) ?_
        refine x_iald (i := i) hx hb hK hP 4 rfl (by first | omega | assumption) (by omega) dX2_standsUnlike_24 ?_
        refine lv_icmp_ne (x := place i) (y := pl2 i) (tgt := 43) hx hb dX2_standsUnlike_25 (by decide) (fun c25 => ?_) (fun c25 => ?_)
        · skip
          refine lv_iconst (v := 1) hx hb dX2_standsUnlike_43 (by decide) ?_
          exact hq 1 44 ls dX2_standsUnlike_44 rfl ((b2_t ⟨i, c10, Or.inl c25⟩).symm)
        · skip
          refine lv_aload_n hx hb dX2_standsUnlike_28 rfl (lv_at hl 1 rfl) ?_
          refine va_get (D := xD G) (ci := 2) (v := .ref (ra 5)) (C := RX2) (T := TX2) (N := 17) hx hb hts inX2 hown hK hP 0 rfl rfl 5 (by decide) kl18 (fun _ h9 => h9) rfl dX2_standsUnlike_29 ?_
          refine lv_iload_n hx hb dX2_standsUnlike_32 rfl (lv_at hl 0 rfl) ?_
          refine x_iald (i := i) hx hb hK hP 2 rfl (by first | omega | assumption) (by omega) dX2_standsUnlike_33 ?_
          refine lv_aload_n hx hb dX2_standsUnlike_34 rfl (lv_at hl 2 rfl) ?_
          refine va_get (D := xD G) (ci := 2) (v := .ref (oa 5)) (C := RX2) (T := TX2) (N := 17) hx hb hts inX2 hown hK hP 3 rfl rfl 5 (by decide) kl18 (fun _ h9 => h9) rfl dX2_standsUnlike_35 ?_
          refine lv_iload_n hx hb dX2_standsUnlike_38 rfl (lv_at hl 0 rfl) ?_
          refine x_iald (i := i) hx hb hK hP 5 rfl (by first | omega | assumption) (by omega) dX2_standsUnlike_39 ?_
          refine lv_icmp_eq (x := left i) (y := lf2 i) (tgt := 45) hx hb dX2_standsUnlike_40 (by decide) (fun c40 => ?_) (fun c40 => ?_)
          · skip
            refine lv_iinc (v := nI (i + 1)) (lv' := [(2, .int (nI (i + 1))), (0, .ref rA), (1, .ref oA)]) hx hb dX2_standsUnlike_45 hl (k := 0) rfl (by exact nI_add i 1) (by decide) rfl (fun ls hl => ?_)
            refine lv_goto (tgt := 2) hx hb dX2_standsUnlike_48 (by decide) ?_
            exact ih2 (i + 1)  (by omega) (by omega) (fun b h => by rcases Nat.lt_succ_iff_lt_or_eq.mp h with h | rfl; exact hA b h; exact ⟨c25, c40⟩) ls (lv_sub hl [0, 1, 2] rfl)
          · skip
            refine lv_iconst (v := 1) hx hb dX2_standsUnlike_43 (by decide) ?_
            exact hq 1 44 ls dX2_standsUnlike_44 rfl ((b2_t ⟨i, c10, Or.inr c40⟩).symm)
  exact L2 (n + 1) 0  (by omega) (by omega) (fun b h => absurd h (Nat.not_lt_zero b)) ls (lv_sub hl [0, 1, 2] rfl)
