/-! the reference: what is told -/
set_option maxHeartbeats 4000000 in
set_option maxRecDepth 100000 in
theorem mX5_noOther (l : Launch) (G : xG) (mA : Nat) (ma : Nat → Nat) (cols : Int32) (cn : Int32) (pac : Int32) (opac : Int32) (rpac : Int32) (alike : Int32) (pulls : Int32) (len : Int32) (lmv : Int32) (mov : Int32) (ther : Int32) (fresh : Int32) (bup : Int32) (bsum : Int32) (o1 : XF) (o2 : XF) (o3 : XF) (k0 : Nat)  (hk : k0 < 4) : xM l yX5_noOther wsX5_noOther ({ frames := 0, cells := 0, slots := 0, locals := 0 } : Room) [.ref mA, .int (nI k0)] G [oModel mA ma cols cn pac opac rpac alike pulls len lmv mov ther fresh bup bsum, xI G (ma 6) 4 o1, xI G (ma 7) 4 o2, xI G (ma 8) 4 o3] [oModel mA ma cols cn pac opac rpac alike pulls len lmv mov ther fresh bup bsum, xI G (ma 6) 4 (upd o1 k0 (-1)), xI G (ma 7) 4 (upd o2 k0 (-1)), xI G (ma 8) 4 (upd o3 k0 (-1))] := by
  refine xM_of (cc := cX5_noOther) (maxL := 2) (by decide) rfl (Nat.le_of_ble_eq_true rfl) ?_
  intro p e s m below meth cO ls Q A hx hb hml hown hts hP hK hD hS hA hl hq
  have hown : s.vm.findClass RX5 = some m.cls := hown
  have kl26 := hts (.fieldLink RX5 26 "WorkBoardModel" "otherLimit" "[I") (List.mem_of_getElem? (i := 1) rfl)
  have kl29 := hts (.fieldLink RX5 29 "WorkBoardModel" "otherLane" "[I") (List.mem_of_getElem? (i := 2) rfl)
  have kl32 := hts (.fieldLink RX5 32 "WorkBoardModel" "otherHands" "[I") (List.mem_of_getElem? (i := 3) rfl)
  have inX5 : ∀ w ∈ u_ws RX5 TX5 42, w ∈ wsX5_noOther := (fun w h => List.mem_cons_of_mem _ (List.mem_append_right _ h))
  have hl : lv_has ls 2 [(0, .ref mA), (1, .int (nI k0))] := hl
  have hD : va_D A [oModel mA ma cols cn pac opac rpac alike pulls len lmv mov ther fresh bup bsum, xI G (ma 6) 4 o1, xI G (ma 7) 4 o2, xI G (ma 8) 4 o3] := hD
  obtain ⟨H, hH⟩ : ∃ z, z = s.heap := ⟨_, rfl⟩
  obtain ⟨locs, hlocs⟩ : ∃ z : List Loc, z = [] := ⟨_, rfl⟩
  have hS : va_S A s.heap H locs := by rw [hH, hlocs]; exact hS
  have hP : va_P (xD G) vwCl [oModel mA ma cols cn pac opac rpac alike pulls len lmv mov ther fresh bup bsum, xI G (ma 6) 4 o1, xI G (ma 7) 4 o2, xI G (ma 8) 4 o3] H := by rw [hH]; exact hP
  rw [← hH, ← hlocs]
  clear hH hlocs
  refine lv_aload_n hx hb dX5_noOther_0 rfl (lv_at hl 0 rfl) ?_
  refine va_get (D := xD G) (ci := 5) (v := .ref (ma 6)) (C := RX5) (T := TX5) (N := 42) hx hb hts inX5 hown hK hP 0 rfl rfl 6 (by decide) kl26 (fun _ h9 => h9) rfl dX5_noOther_1 ?_
  refine lv_iload_n hx hb dX5_noOther_4 rfl (lv_at hl 1 rfl) ?_
  refine lv_iconst (v := (-1)) hx hb dX5_noOther_5 (by decide) ?_
  refine x_iast (i := k0) hx hb hK hP hD hS 1 rfl (by first | omega | assumption) (by omega) dX5_noOther_6 (fun H locs hP hD hS => ?_)
  have hP : va_P (xD G) vwCl [oModel mA ma cols cn pac opac rpac alike pulls len lmv mov ther fresh bup bsum, xI G (ma 6) 4 (upd o1 k0 (-1)), xI G (ma 7) 4 o2, xI G (ma 8) 4 o3] H := hP
  have hD : va_D A [oModel mA ma cols cn pac opac rpac alike pulls len lmv mov ther fresh bup bsum, xI G (ma 6) 4 (upd o1 k0 (-1)), xI G (ma 7) 4 o2, xI G (ma 8) 4 o3] := hD
  refine lv_aload_n hx hb dX5_noOther_7 rfl (lv_at hl 0 rfl) ?_
  refine va_get (D := xD G) (ci := 5) (v := .ref (ma 7)) (C := RX5) (T := TX5) (N := 42) hx hb hts inX5 hown hK hP 0 rfl rfl 7 (by decide) kl29 (fun _ h9 => h9) rfl dX5_noOther_8 ?_
  refine lv_iload_n hx hb dX5_noOther_11 rfl (lv_at hl 1 rfl) ?_
  refine lv_iconst (v := (-1)) hx hb dX5_noOther_12 (by decide) ?_
  refine x_iast (i := k0) hx hb hK hP hD hS 2 rfl (by first | omega | assumption) (by omega) dX5_noOther_13 (fun H locs hP hD hS => ?_)
  have hP : va_P (xD G) vwCl [oModel mA ma cols cn pac opac rpac alike pulls len lmv mov ther fresh bup bsum, xI G (ma 6) 4 (upd o1 k0 (-1)), xI G (ma 7) 4 (upd o2 k0 (-1)), xI G (ma 8) 4 o3] H := hP
  have hD : va_D A [oModel mA ma cols cn pac opac rpac alike pulls len lmv mov ther fresh bup bsum, xI G (ma 6) 4 (upd o1 k0 (-1)), xI G (ma 7) 4 (upd o2 k0 (-1)), xI G (ma 8) 4 o3] := hD
  refine lv_aload_n hx hb dX5_noOther_14 rfl (lv_at hl 0 rfl) ?_
  refine va_get (D := xD G) (ci := 5) (v := .ref (ma 8)) (C := RX5) (T := TX5) (N := 42) hx hb hts inX5 hown hK hP 0 rfl rfl 8 (by decide) kl32 (fun _ h9 => h9) rfl dX5_noOther_15 ?_
  refine lv_iload_n hx hb dX5_noOther_18 rfl (lv_at hl 1 rfl) ?_
  refine lv_iconst (v := (-1)) hx hb dX5_noOther_19 (by decide) ?_
  refine x_iast (i := k0) hx hb hK hP hD hS 3 rfl (by first | omega | assumption) (by omega) dX5_noOther_20 (fun H locs hP hD hS => ?_)
  have hP : va_P (xD G) vwCl [oModel mA ma cols cn pac opac rpac alike pulls len lmv mov ther fresh bup bsum, xI G (ma 6) 4 (upd o1 k0 (-1)), xI G (ma 7) 4 (upd o2 k0 (-1)), xI G (ma 8) 4 (upd o3 k0 (-1))] H := hP
  have hD : va_D A [oModel mA ma cols cn pac opac rpac alike pulls len lmv mov ther fresh bup bsum, xI G (ma 6) 4 (upd o1 k0 (-1)), xI G (ma 7) 4 (upd o2 k0 (-1)), xI G (ma 8) 4 (upd o3 k0 (-1))] := hD
  exact hq H locs 21 ls dX5_noOther_21 (hP) (hD) hS
set_option maxHeartbeats 4000000 in
set_option maxRecDepth 100000 in
theorem mX5_goesBy (l : Launch) (G : xG) (mA : Nat) (ma : Nat → Nat) (cols : Int32) (cn : Int32) (pac : Int32) (opac : Int32) (rpac : Int32) (alike : Int32) (pulls : Int32) (len : Int32) (lmv : Int32) (mov : Int32) (ther : Int32) (fresh : Int32) (bup : Int32) (bsum : Int32) (lim : Nat → Int32) (lan : Nat → Int32) (han : Nat → Int32) (o1 : XF) (o2 : XF) (o3 : XF) (rl : XF) (rn : XF) (rh : XF) (u : Bool)   : xM l yX5_goesBy wsX5_goesBy ({ frames := 1, cells := 0, slots := 0, locals := 21 } : Room) [.ref mA, .int (b2 (u = true))] G [oModel mA ma cols cn pac opac rpac alike pulls len lmv mov ther fresh bup bsum, xI G (ma 2) 4 lim, xI G (ma 3) 4 lan, xI G (ma 4) 4 han, xI G (ma 6) 4 o1, xI G (ma 7) 4 o2, xI G (ma 8) 4 o3, xI G (ma 16) 4 rl, xI G (ma 17) 4 rn, xI G (ma 18) 4 rh] [oModel mA ma cols cn pac opac (if u = true then toR opac pac else pac) 0 pulls len lmv mov ther fresh bup bsum, xI G (ma 2) 4 lim, xI G (ma 3) 4 lan, xI G (ma 4) 4 han, xI G (ma 6) 4 o1, xI G (ma 7) 4 o2, xI G (ma 8) 4 o3, xI G (ma 16) 4 (tf (goX u o1 lim) rl 4), xI G (ma 17) 4 (tf (goX u o2 lan) rn 4), xI G (ma 18) 4 (tf (goX u o3 han) rh 4)] := by
  refine xM_of (cc := cX5_goesBy) (maxL := 3) (by decide) rfl (Nat.le_of_ble_eq_true rfl) ?_
  intro p e s m below meth cO ls Q A hx hb hml hown hts hP hK hD hS hA hl hq
  have hown : s.vm.findClass RX5 = some m.cls := hown
  have kl57 := hts (.fieldLink RX5 57 "WorkBoardModel" "runLimit" "[I") (List.mem_of_getElem? (i := 1) rfl)
  have kl26 := hts (.fieldLink RX5 26 "WorkBoardModel" "otherLimit" "[I") (List.mem_of_getElem? (i := 2) rfl)
  have kl13 := hts (.fieldLink RX5 13 "WorkBoardModel" "limit" "[I") (List.mem_of_getElem? (i := 3) rfl)
  have kl60 := hts (.fieldLink RX5 60 "WorkBoardModel" "runLane" "[I") (List.mem_of_getElem? (i := 4) rfl)
  have kl29 := hts (.fieldLink RX5 29 "WorkBoardModel" "otherLane" "[I") (List.mem_of_getElem? (i := 5) rfl)
  have kl17 := hts (.fieldLink RX5 17 "WorkBoardModel" "lane" "[I") (List.mem_of_getElem? (i := 6) rfl)
  have kl63 := hts (.fieldLink RX5 63 "WorkBoardModel" "runHands" "[I") (List.mem_of_getElem? (i := 7) rfl)
  have kl32 := hts (.fieldLink RX5 32 "WorkBoardModel" "otherHands" "[I") (List.mem_of_getElem? (i := 8) rfl)
  have kl20 := hts (.fieldLink RX5 20 "WorkBoardModel" "hands" "[I") (List.mem_of_getElem? (i := 9) rfl)
  have kl35 := hts (.fieldLink RX5 35 "WorkBoardModel" "otherPace" "I") (List.mem_of_getElem? (i := 10) rfl)
  have kl23 := hts (.fieldLink RX5 23 "WorkBoardModel" "pace" "I") (List.mem_of_getElem? (i := 11) rfl)
  have kl131 := hts (.fieldLink RX5 131 "WorkBoardModel" "runPace" "I") (List.mem_of_getElem? (i := 12) rfl)
  have kl134 := hts (.fieldLink RX5 134 "WorkBoardModel" "isAllAlike" "Z") (List.mem_of_getElem? (i := 13) rfl)
  have inX5 : ∀ w ∈ u_ws RX5 TX5 42, w ∈ wsX5_goesBy := (fun w h => List.mem_cons_of_mem _ (List.mem_append_right _ h))
  have hl : lv_has ls 3 [(0, .ref mA), (1, .int (b2 (u = true)))] := hl
  have hD : va_D A [oModel mA ma cols cn pac opac rpac alike pulls len lmv mov ther fresh bup bsum, xI G (ma 2) 4 lim, xI G (ma 3) 4 lan, xI G (ma 4) 4 han, xI G (ma 6) 4 o1, xI G (ma 7) 4 o2, xI G (ma 8) 4 o3, xI G (ma 16) 4 rl, xI G (ma 17) 4 rn, xI G (ma 18) 4 rh] := hD
  obtain ⟨H, hH⟩ : ∃ z, z = s.heap := ⟨_, rfl⟩
  obtain ⟨locs, hlocs⟩ : ∃ z : List Loc, z = [] := ⟨_, rfl⟩
  have hS : va_S A s.heap H locs := by rw [hH, hlocs]; exact hS
  have hP : va_P (xD G) vwCl [oModel mA ma cols cn pac opac rpac alike pulls len lmv mov ther fresh bup bsum, xI G (ma 2) 4 lim, xI G (ma 3) 4 lan, xI G (ma 4) 4 han, xI G (ma 6) 4 o1, xI G (ma 7) 4 o2, xI G (ma 8) 4 o3, xI G (ma 16) 4 rl, xI G (ma 17) 4 rn, xI G (ma 18) 4 rh] H := by rw [hH]; exact hP
  rw [← hH, ← hlocs]
  clear hH hlocs
  refine lv_iconst (v := 0) hx hb dX5_goesBy_0 (by decide) ?_
  refine lv_istore_n (lv' := [(2, .int 0), (0, .ref mA), (1, .int (b2 (u = true)))]) hx hb dX5_goesBy_1 rfl hl (by decide) rfl (fun ls hl => ?_)
  have L2 : ∀ (kk2 i : Nat) (a0 : XF) (a1 : XF) (a2 : XF), i ≤ 4 → 4 + 1 ≤ i + kk2 → (a0 = tf (goX u o1 lim) rl i) → (a1 = tf (goX u o2 lan) rn i) → (a2 = tf (goX u o3 han) rh i) → ∀ (H : Heap) (locs : List Loc), va_P (xD G) vwCl [oModel mA ma cols cn pac opac rpac alike pulls len lmv mov ther fresh bup bsum, xI G (ma 2) 4 lim, xI G (ma 3) 4 lan, xI G (ma 4) 4 han, xI G (ma 6) 4 o1, xI G (ma 7) 4 o2, xI G (ma 8) 4 o3, xI G (ma 16) 4 a0, xI G (ma 17) 4 a1, xI G (ma 18) 4 a2] H → va_D A [oModel mA ma cols cn pac opac rpac alike pulls len lmv mov ther fresh bup bsum, xI G (ma 2) 4 lim, xI G (ma 3) 4 lan, xI G (ma 4) 4 han, xI G (ma 6) 4 o1, xI G (ma 7) 4 o2, xI G (ma 8) 4 o3, xI G (ma 16) 4 a0, xI G (ma 17) 4 a1, xI G (ma 18) 4 a2] → va_S A s.heap H locs → ∀ (ls : Array Slot), lv_has ls 3 [(2, .int (nI i)), (0, .ref mA), (1, .int (b2 (u = true)))] → W p l e ({ frames := 1, cells := 0, slots := 0, locals := 21 } : Room) s m #[Value.ref mA, Value.int (b2 (u = true))] below meth cO H locs 0 0 Q (F0 m 2 ls []) := by
    intro kk2
    induction kk2 with
    | zero => intro i a0 a1 a2 h1 h2; exact absurd h2 (by omega)
    | succ kk2 ih2 =>
      intro i a0 a1 a2 hi2 hk2 e0 e1 e2 H locs hP hD hS ls hl
      refine lv_iload_n hx hb dX5_goesBy_2 rfl (lv_at hl 0 rfl) ?_
      refine lv_iconst (v := 4) hx hb dX5_goesBy_3 (by decide) ?_
      refine x_icmp_ge (x := i) (y := 4) (tgt := 115) hx hb (by omega) (by omega) dX5_goesBy_4 (by decide) (fun c4 => ?_) (fun c4 => ?_)
      · skip
        have e_2 : i = 4 := by omega
        rw [e_2] at e0
        subst e0
        rw [e_2] at e1
        subst e1
        rw [e_2] at e2
        subst e2
        refine lv_aload_n hx hb dX5_goesBy_115 rfl (lv_at hl 1 rfl) ?_
        refine x_cut (g1 := F0 m 138 ls [.int (if u = true then toR opac pac else pac), .ref mA]) ?_ (fun J138 => ?_)
        · skip
          refine va_put (D := xD G) (ci := 5) (v := .int (if u = true then toR opac pac else pac)) (ty := .int) (C := RX5) (T := TX5) (N := 42) hx hb hts inX5 tyX5 tyX5_ok nmX5 hown hK hP hD hS 0 rfl rfl 19 (by decide) kl131 (fun _ h9 => h9) rfl (by decide +kernel) rfl rfl (Nat.le_of_ble_eq_true rfl) dX5_goesBy_138 (fun H locs hP hD hS => ?_)
          have hP : va_P (xD G) vwCl [oModel mA ma cols cn pac opac (if u = true then toR opac pac else pac) alike pulls len lmv mov ther fresh bup bsum, xI G (ma 2) 4 lim, xI G (ma 3) 4 lan, xI G (ma 4) 4 han, xI G (ma 6) 4 o1, xI G (ma 7) 4 o2, xI G (ma 8) 4 o3, xI G (ma 16) 4 (tf (goX u o1 lim) rl 4), xI G (ma 17) 4 (tf (goX u o2 lan) rn 4), xI G (ma 18) 4 (tf (goX u o3 han) rh 4)] H := hP
          have hD : va_D A [oModel mA ma cols cn pac opac (if u = true then toR opac pac else pac) alike pulls len lmv mov ther fresh bup bsum, xI G (ma 2) 4 lim, xI G (ma 3) 4 lan, xI G (ma 4) 4 han, xI G (ma 6) 4 o1, xI G (ma 7) 4 o2, xI G (ma 8) 4 o3, xI G (ma 16) 4 (tf (goX u o1 lim) rl 4), xI G (ma 17) 4 (tf (goX u o2 lan) rn 4), xI G (ma 18) 4 (tf (goX u o3 han) rh 4)] := hD
          refine lv_aload_n hx hb dX5_goesBy_141 rfl (lv_at hl 1 rfl) ?_
          refine lv_iconst (v := 0) hx hb dX5_goesBy_142 (by decide) ?_
          refine va_put (D := xD G) (ci := 5) (v := .int 0) (ty := .boolean) (C := RX5) (T := TX5) (N := 42) hx hb hts inX5 tyX5 tyX5_ok nmX5 hown hK hP hD hS 0 rfl rfl 20 (by decide) kl134 (fun _ h9 => h9) rfl (by decide +kernel) rfl rfl (Nat.le_of_ble_eq_true rfl) dX5_goesBy_143 (fun H locs hP hD hS => ?_)
          have hP : va_P (xD G) vwCl [oModel mA ma cols cn pac opac (if u = true then toR opac pac else pac) 0 pulls len lmv mov ther fresh bup bsum, xI G (ma 2) 4 lim, xI G (ma 3) 4 lan, xI G (ma 4) 4 han, xI G (ma 6) 4 o1, xI G (ma 7) 4 o2, xI G (ma 8) 4 o3, xI G (ma 16) 4 (tf (goX u o1 lim) rl 4), xI G (ma 17) 4 (tf (goX u o2 lan) rn 4), xI G (ma 18) 4 (tf (goX u o3 han) rh 4)] H := hP
          have hD : va_D A [oModel mA ma cols cn pac opac (if u = true then toR opac pac else pac) 0 pulls len lmv mov ther fresh bup bsum, xI G (ma 2) 4 lim, xI G (ma 3) 4 lan, xI G (ma 4) 4 han, xI G (ma 6) 4 o1, xI G (ma 7) 4 o2, xI G (ma 8) 4 o3, xI G (ma 16) 4 (tf (goX u o1 lim) rl 4), xI G (ma 17) 4 (tf (goX u o2 lan) rn 4), xI G (ma 18) 4 (tf (goX u o3 han) rh 4)] := hD
          exact hq H locs 146 ls dX5_goesBy_146 (hP) (hD) hS
        · skip
          refine lv_iload_n hx hb dX5_goesBy_116 rfl (lv_at hl 2 rfl) ?_
          refine x_if_eq (P := u = true) (tgt := 134) hx hb dX5_goesBy_117 (by decide) (fun c117 => ?_) (fun c117 => ?_)
          · skip
            refine lv_aload_n hx hb dX5_goesBy_134 rfl (lv_at hl 1 rfl) ?_
            refine va_get (D := xD G) (ci := 5) (v := .int pac) (C := RX5) (T := TX5) (N := 42) hx hb hts inX5 hown hK hP 0 rfl rfl 5 (by decide) kl23 (fun _ h9 => h9) rfl dX5_goesBy_135 ?_
            exact x_top (show pac = if u = true then toR opac pac else pac from (if_neg c117).symm) J138
          · skip
            refine lv_aload_n hx hb dX5_goesBy_120 rfl (lv_at hl 1 rfl) ?_
            refine va_get (D := xD G) (ci := 5) (v := .int opac) (C := RX5) (T := TX5) (N := 42) hx hb hts inX5 hown hK hP 0 rfl rfl 9 (by decide) kl35 (fun _ h9 => h9) rfl dX5_goesBy_121 ?_
            refine lv_aload_n hx hb dX5_goesBy_124 rfl (lv_at hl 1 rfl) ?_
            refine va_get (D := xD G) (ci := 5) (v := .int pac) (C := RX5) (T := TX5) (N := 42) hx hb hts inX5 hown hK hP 0 rfl rfl 5 (by decide) kl23 (fun _ h9 => h9) rfl dX5_goesBy_125 ?_
            refine x_callS (As := [.int opac, .int pac]) (rest := [.ref mA]) ⟨hx, hb, hml, hown, hts⟩ (mX5_first l G opac pac ) (va_cwS 2 hts gX5_goesBy_X5_first rfl rfl rfl (by decide +kernel) ⟨Nat.le_of_ble_eq_true rfl, Nat.le_of_ble_eq_true rfl⟩) hK rfl hl.1 rfl (Nat.le_of_ble_eq_true rfl) dX5_goesBy_128 ⟨Nat.zero_le _, Nat.zero_le _⟩ (fun r hr => ?_)
            subst hr
            refine lv_goto (tgt := 138) hx hb dX5_goesBy_131 (by decide) ?_
            exact x_top (show toR opac pac = if u = true then toR opac pac else pac from (if_pos c117).symm) J138
      · skip
        refine lv_aload_n hx hb dX5_goesBy_7 rfl (lv_at hl 1 rfl) ?_
        refine va_get (D := xD G) (ci := 5) (v := .ref (ma 16)) (C := RX5) (T := TX5) (N := 42) hx hb hts inX5 hown hK hP 0 rfl rfl 16 (by decide) kl57 (fun _ h9 => h9) rfl dX5_goesBy_8 ?_
        refine lv_iload_n hx hb dX5_goesBy_11 rfl (lv_at hl 0 rfl) ?_
        refine x_cut (g1 := F0 m 40 ls [.int (goX u o1 lim i), .int (nI i), .ref (ma 16)]) ?_ (fun J40 => ?_)
        · skip
          refine x_iast (i := i) hx hb hK hP hD hS 7 rfl (by first | omega | assumption) (by omega) dX5_goesBy_40 (fun H locs hP hD hS => ?_)
          have hP : va_P (xD G) vwCl [oModel mA ma cols cn pac opac rpac alike pulls len lmv mov ther fresh bup bsum, xI G (ma 2) 4 lim, xI G (ma 3) 4 lan, xI G (ma 4) 4 han, xI G (ma 6) 4 o1, xI G (ma 7) 4 o2, xI G (ma 8) 4 o3, xI G (ma 16) 4 (upd a0 i (goX u o1 lim i)), xI G (ma 17) 4 a1, xI G (ma 18) 4 a2] H := hP
          have hD : va_D A [oModel mA ma cols cn pac opac rpac alike pulls len lmv mov ther fresh bup bsum, xI G (ma 2) 4 lim, xI G (ma 3) 4 lan, xI G (ma 4) 4 han, xI G (ma 6) 4 o1, xI G (ma 7) 4 o2, xI G (ma 8) 4 o3, xI G (ma 16) 4 (upd a0 i (goX u o1 lim i)), xI G (ma 17) 4 a1, xI G (ma 18) 4 a2] := hD
          refine lv_aload_n hx hb dX5_goesBy_41 rfl (lv_at hl 1 rfl) ?_
          refine va_get (D := xD G) (ci := 5) (v := .ref (ma 17)) (C := RX5) (T := TX5) (N := 42) hx hb hts inX5 hown hK hP 0 rfl rfl 17 (by decide) kl60 (fun _ h9 => h9) rfl dX5_goesBy_42 ?_
          refine lv_iload_n hx hb dX5_goesBy_45 rfl (lv_at hl 0 rfl) ?_
          refine x_cut (g1 := F0 m 74 ls [.int (goX u o2 lan i), .int (nI i), .ref (ma 17)]) ?_ (fun J74 => ?_)
          · skip
            refine x_iast (i := i) hx hb hK hP hD hS 8 rfl (by first | omega | assumption) (by omega) dX5_goesBy_74 (fun H locs hP hD hS => ?_)
            have hP : va_P (xD G) vwCl [oModel mA ma cols cn pac opac rpac alike pulls len lmv mov ther fresh bup bsum, xI G (ma 2) 4 lim, xI G (ma 3) 4 lan, xI G (ma 4) 4 han, xI G (ma 6) 4 o1, xI G (ma 7) 4 o2, xI G (ma 8) 4 o3, xI G (ma 16) 4 (upd a0 i (goX u o1 lim i)), xI G (ma 17) 4 (upd a1 i (goX u o2 lan i)), xI G (ma 18) 4 a2] H := hP
            have hD : va_D A [oModel mA ma cols cn pac opac rpac alike pulls len lmv mov ther fresh bup bsum, xI G (ma 2) 4 lim, xI G (ma 3) 4 lan, xI G (ma 4) 4 han, xI G (ma 6) 4 o1, xI G (ma 7) 4 o2, xI G (ma 8) 4 o3, xI G (ma 16) 4 (upd a0 i (goX u o1 lim i)), xI G (ma 17) 4 (upd a1 i (goX u o2 lan i)), xI G (ma 18) 4 a2] := hD
            refine lv_aload_n hx hb dX5_goesBy_75 rfl (lv_at hl 1 rfl) ?_
            refine va_get (D := xD G) (ci := 5) (v := .ref (ma 18)) (C := RX5) (T := TX5) (N := 42) hx hb hts inX5 hown hK hP 0 rfl rfl 18 (by decide) kl63 (fun _ h9 => h9) rfl dX5_goesBy_76 ?_
            refine lv_iload_n hx hb dX5_goesBy_79 rfl (lv_at hl 0 rfl) ?_
            refine x_cut (g1 := F0 m 108 ls [.int (goX u o3 han i), .int (nI i), .ref (ma 18)]) ?_ (fun J108 => ?_)
            · skip
              refine x_iast (i := i) hx hb hK hP hD hS 9 rfl (by first | omega | assumption) (by omega) dX5_goesBy_108 (fun H locs hP hD hS => ?_)
              have hP : va_P (xD G) vwCl [oModel mA ma cols cn pac opac rpac alike pulls len lmv mov ther fresh bup bsum, xI G (ma 2) 4 lim, xI G (ma 3) 4 lan, xI G (ma 4) 4 han, xI G (ma 6) 4 o1, xI G (ma 7) 4 o2, xI G (ma 8) 4 o3, xI G (ma 16) 4 (upd a0 i (goX u o1 lim i)), xI G (ma 17) 4 (upd a1 i (goX u o2 lan i)), xI G (ma 18) 4 (upd a2 i (goX u o3 han i))] H := hP
              have hD : va_D A [oModel mA ma cols cn pac opac rpac alike pulls len lmv mov ther fresh bup bsum, xI G (ma 2) 4 lim, xI G (ma 3) 4 lan, xI G (ma 4) 4 han, xI G (ma 6) 4 o1, xI G (ma 7) 4 o2, xI G (ma 8) 4 o3, xI G (ma 16) 4 (upd a0 i (goX u o1 lim i)), xI G (ma 17) 4 (upd a1 i (goX u o2 lan i)), xI G (ma 18) 4 (upd a2 i (goX u o3 han i))] := hD
              refine lv_iinc (v := nI (i + 1)) (lv' := [(2, .int (nI (i + 1))), (0, .ref mA), (1, .int (b2 (u = true)))]) hx hb dX5_goesBy_109 hl (k := 0) rfl (by exact nI_add i 1) (by decide) rfl (fun ls hl => ?_)
              refine lv_goto (tgt := 2) hx hb dX5_goesBy_112 (by decide) ?_
              exact ih2 (i + 1) (upd a0 i (goX u o1 lim i)) (upd a1 i (goX u o2 lan i)) (upd a2 i (goX u o3 han i)) (by omega) (by omega) (by rw [e0]; exact tf_s _ _ _ rfl) (by rw [e1]; exact tf_s _ _ _ rfl) (by rw [e2]; exact tf_s _ _ _ rfl) H locs hP hD hS ls (lv_sub hl [0, 1, 2] rfl)
            · skip
              refine lv_iload_n hx hb dX5_goesBy_80 rfl (lv_at hl 2 rfl) ?_
              refine x_if_eq (P := u = true) (tgt := 102) hx hb dX5_goesBy_81 (by decide) (fun c81 => ?_) (fun c81 => ?_)
              · skip
                refine lv_aload_n hx hb dX5_goesBy_102 rfl (lv_at hl 1 rfl) ?_
                refine va_get (D := xD G) (ci := 5) (v := .ref (ma 4)) (C := RX5) (T := TX5) (N := 42) hx hb hts inX5 hown hK hP 0 rfl rfl 4 (by decide) kl20 (fun _ h9 => h9) rfl dX5_goesBy_103 ?_
                refine lv_iload_n hx hb dX5_goesBy_106 rfl (lv_at hl 0 rfl) ?_
                refine x_iald (i := i) hx hb hK hP 3 rfl (by first | omega | assumption) (by omega) dX5_goesBy_107 ?_
                exact x_top (show han i = goX u o3 han i from (if_neg c81).symm) J108
              · skip
                refine lv_aload_n hx hb dX5_goesBy_84 rfl (lv_at hl 1 rfl) ?_
                refine va_get (D := xD G) (ci := 5) (v := .ref (ma 8)) (C := RX5) (T := TX5) (N := 42) hx hb hts inX5 hown hK hP 0 rfl rfl 8 (by decide) kl32 (fun _ h9 => h9) rfl dX5_goesBy_85 ?_
                refine lv_iload_n hx hb dX5_goesBy_88 rfl (lv_at hl 0 rfl) ?_
                refine x_iald (i := i) hx hb hK hP 6 rfl (by first | omega | assumption) (by omega) dX5_goesBy_89 ?_
                refine lv_aload_n hx hb dX5_goesBy_90 rfl (lv_at hl 1 rfl) ?_
                refine va_get (D := xD G) (ci := 5) (v := .ref (ma 4)) (C := RX5) (T := TX5) (N := 42) hx hb hts inX5 hown hK hP 0 rfl rfl 4 (by decide) kl20 (fun _ h9 => h9) rfl dX5_goesBy_91 ?_
                refine lv_iload_n hx hb dX5_goesBy_94 rfl (lv_at hl 0 rfl) ?_
                refine x_iald (i := i) hx hb hK hP 3 rfl (by first | omega | assumption) (by omega) dX5_goesBy_95 ?_
                refine x_callS (As := [.int (o3 i), .int (han i)]) (rest := [.int (nI i), .ref (ma 18)]) ⟨hx, hb, hml, hown, hts⟩ (mX5_first l G (o3 i) (han i) ) (va_cwS 2 hts gX5_goesBy_X5_first rfl rfl rfl (by decide +kernel) ⟨Nat.le_of_ble_eq_true rfl, Nat.le_of_ble_eq_true rfl⟩) hK rfl hl.1 rfl (Nat.le_of_ble_eq_true rfl) dX5_goesBy_96 ⟨Nat.zero_le _, Nat.zero_le _⟩ (fun r hr => ?_)
                subst hr
                refine lv_goto (tgt := 108) hx hb dX5_goesBy_99 (by decide) ?_
                exact x_top (show toR (o3 i) (han i) = goX u o3 han i from (if_pos c81).symm) J108
          · skip
            refine lv_iload_n hx hb dX5_goesBy_46 rfl (lv_at hl 2 rfl) ?_
            refine x_if_eq (P := u = true) (tgt := 68) hx hb dX5_goesBy_47 (by decide) (fun c47 => ?_) (fun c47 => ?_)
            · skip
              refine lv_aload_n hx hb dX5_goesBy_68 rfl (lv_at hl 1 rfl) ?_
              refine va_get (D := xD G) (ci := 5) (v := .ref (ma 3)) (C := RX5) (T := TX5) (N := 42) hx hb hts inX5 hown hK hP 0 rfl rfl 3 (by decide) kl17 (fun _ h9 => h9) rfl dX5_goesBy_69 ?_
              refine lv_iload_n hx hb dX5_goesBy_72 rfl (lv_at hl 0 rfl) ?_
              refine x_iald (i := i) hx hb hK hP 2 rfl (by first | omega | assumption) (by omega) dX5_goesBy_73 ?_
              exact x_top (show lan i = goX u o2 lan i from (if_neg c47).symm) J74
            · skip
              refine lv_aload_n hx hb dX5_goesBy_50 rfl (lv_at hl 1 rfl) ?_
              refine va_get (D := xD G) (ci := 5) (v := .ref (ma 7)) (C := RX5) (T := TX5) (N := 42) hx hb hts inX5 hown hK hP 0 rfl rfl 7 (by decide) kl29 (fun _ h9 => h9) rfl dX5_goesBy_51 ?_
              refine lv_iload_n hx hb dX5_goesBy_54 rfl (lv_at hl 0 rfl) ?_
              refine x_iald (i := i) hx hb hK hP 5 rfl (by first | omega | assumption) (by omega) dX5_goesBy_55 ?_
              refine lv_aload_n hx hb dX5_goesBy_56 rfl (lv_at hl 1 rfl) ?_
              refine va_get (D := xD G) (ci := 5) (v := .ref (ma 3)) (C := RX5) (T := TX5) (N := 42) hx hb hts inX5 hown hK hP 0 rfl rfl 3 (by decide) kl17 (fun _ h9 => h9) rfl dX5_goesBy_57 ?_
              refine lv_iload_n hx hb dX5_goesBy_60 rfl (lv_at hl 0 rfl) ?_
              refine x_iald (i := i) hx hb hK hP 2 rfl (by first | omega | assumption) (by omega) dX5_goesBy_61 ?_
              refine x_callS (As := [.int (o2 i), .int (lan i)]) (rest := [.int (nI i), .ref (ma 17)]) ⟨hx, hb, hml, hown, hts⟩ (mX5_first l G (o2 i) (lan i) ) (va_cwS 2 hts gX5_goesBy_X5_first rfl rfl rfl (by decide +kernel) ⟨Nat.le_of_ble_eq_true rfl, Nat.le_of_ble_eq_true rfl⟩) hK rfl hl.1 rfl (Nat.le_of_ble_eq_true rfl) dX5_goesBy_62 ⟨Nat.zero_le _, Nat.zero_le _⟩ (fun r hr => ?_)
              subst hr
              refine lv_goto (tgt := 74) hx hb dX5_goesBy_65 (by decide) ?_
              exact x_top (show toR (o2 i) (lan i) = goX u o2 lan i from (if_pos c47).symm) J74
        · skip
          refine lv_iload_n hx hb dX5_goesBy_12 rfl (lv_at hl 2 rfl) ?_
          refine x_if_eq (P := u = true) (tgt := 34) hx hb dX5_goesBy_13 (by decide) (fun c13 => ?_) (fun c13 => ?_)
          · skip
            refine lv_aload_n hx hb dX5_goesBy_34 rfl (lv_at hl 1 rfl) ?_
            refine va_get (D := xD G) (ci := 5) (v := .ref (ma 2)) (C := RX5) (T := TX5) (N := 42) hx hb hts inX5 hown hK hP 0 rfl rfl 2 (by decide) kl13 (fun _ h9 => h9) rfl dX5_goesBy_35 ?_
            refine lv_iload_n hx hb dX5_goesBy_38 rfl (lv_at hl 0 rfl) ?_
            refine x_iald (i := i) hx hb hK hP 1 rfl (by first | omega | assumption) (by omega) dX5_goesBy_39 ?_
            exact x_top (show lim i = goX u o1 lim i from (if_neg c13).symm) J40
          · skip
            refine lv_aload_n hx hb dX5_goesBy_16 rfl (lv_at hl 1 rfl) ?_
            refine va_get (D := xD G) (ci := 5) (v := .ref (ma 6)) (C := RX5) (T := TX5) (N := 42) hx hb hts inX5 hown hK hP 0 rfl rfl 6 (by decide) kl26 (fun _ h9 => h9) rfl dX5_goesBy_17 ?_
            refine lv_iload_n hx hb dX5_goesBy_20 rfl (lv_at hl 0 rfl) ?_
            refine x_iald (i := i) hx hb hK hP 4 rfl (by first | omega | assumption) (by omega) dX5_goesBy_21 ?_
            refine lv_aload_n hx hb dX5_goesBy_22 rfl (lv_at hl 1 rfl) ?_
            refine va_get (D := xD G) (ci := 5) (v := .ref (ma 2)) (C := RX5) (T := TX5) (N := 42) hx hb hts inX5 hown hK hP 0 rfl rfl 2 (by decide) kl13 (fun _ h9 => h9) rfl dX5_goesBy_23 ?_
            refine lv_iload_n hx hb dX5_goesBy_26 rfl (lv_at hl 0 rfl) ?_
            refine x_iald (i := i) hx hb hK hP 1 rfl (by first | omega | assumption) (by omega) dX5_goesBy_27 ?_
            refine x_callS (As := [.int (o1 i), .int (lim i)]) (rest := [.int (nI i), .ref (ma 16)]) ⟨hx, hb, hml, hown, hts⟩ (mX5_first l G (o1 i) (lim i) ) (va_cwS 2 hts gX5_goesBy_X5_first rfl rfl rfl (by decide +kernel) ⟨Nat.le_of_ble_eq_true rfl, Nat.le_of_ble_eq_true rfl⟩) hK rfl hl.1 rfl (Nat.le_of_ble_eq_true rfl) dX5_goesBy_28 ⟨Nat.zero_le _, Nat.zero_le _⟩ (fun r hr => ?_)
            subst hr
            refine lv_goto (tgt := 40) hx hb dX5_goesBy_31 (by decide) ?_
            exact x_top (show toR (o1 i) (lim i) = goX u o1 lim i from (if_pos c13).symm) J40
  exact L2 (4 + 1) 0 rl rn rh (by omega) (by omega) ((tf_0 _ _).symm) ((tf_0 _ _).symm) ((tf_0 _ _).symm) H locs hP hD hS ls (lv_sub hl [0, 1, 2] rfl)
set_option maxHeartbeats 4000000 in
set_option maxRecDepth 100000 in
theorem mX5_columns (l : Launch) (G : xG) (mA : Nat) (ma : Nat → Nat) (g0 : MM) (v : Int32)  (hG : GI g0) : xN l yX5_columns wsX5_columns ({ frames := 1, cells := 0, slots := 0, locals := 22 } : Room) [.ref mA, .int v] G [oModel mA ma (nI (gK g0)) (nI (gN g0)) (gLp g0) (gOp g0) (gRp g0) (gRa g0) (nI (mK (gZ g0))) (mE (gZ g0)) (mM (gZ g0)) (mV (gZ g0)) (nI (mH (gZ g0))) (gFr g0) (gBu g0) (gBs g0), xI G (ma 2) 4 (gLl g0), xI G (ma 3) 4 (gLn g0), xI G (ma 4) 4 (gLh g0), xI G (ma 6) 4 (gOl g0), xI G (ma 7) 4 (gOn g0), xI G (ma 8) 4 (gOh g0), xI G (ma 10) 16 (gDay g0), xZ G (ma 11) 16 (gUrg g0), xI G (ma 12) 64 (gSzs g0), xI G (ma 13) 16 (gWai g0), xI G (ma 14) 16 (gFro g0), xI G (ma 15) 16 (gBto g0), xI G (ma 16) 4 (gRl g0), xI G (ma 17) 4 (gRn g0), xI G (ma 18) 4 (gRh g0), xI G (ma 21) 16 (mP (gZ g0)), xI G (ma 22) 16 (mL (gZ g0)), xZ G (ma 23) 16 (mT (gZ g0)), xI G (ma 24) 16 (mN (gZ g0)), xI G (ma 25) 16 (mX (gZ g0)), xZ G (ma 26) 16 (mB (gZ g0)), xI G (ma 27) 16 (mD (gZ g0)), xZ G (ma 28) 16 (mW (gZ g0)), xI G (ma 29) 16 (mR (gZ g0)), xI G (ma 30) 80 (mS (gZ g0)), xI G (ma 36) 16 (gHp g0), xI G (ma 37) 16 (gHq g0), xI G (ma 41) 4 (gBo g0)] [oModel mA ma (nI (gK (mcsF v g0))) (nI (gN (mcsF v g0))) (gLp (mcsF v g0)) (gOp (mcsF v g0)) (gRp (mcsF v g0)) (gRa (mcsF v g0)) (nI (mK (gZ (mcsF v g0)))) (mE (gZ (mcsF v g0))) (mM (gZ (mcsF v g0))) (mV (gZ (mcsF v g0))) (nI (mH (gZ (mcsF v g0)))) (gFr (mcsF v g0)) (gBu (mcsF v g0)) (gBs (mcsF v g0)), xI G (ma 2) 4 (gLl (mcsF v g0)), xI G (ma 3) 4 (gLn (mcsF v g0)), xI G (ma 4) 4 (gLh (mcsF v g0)), xI G (ma 6) 4 (gOl (mcsF v g0)), xI G (ma 7) 4 (gOn (mcsF v g0)), xI G (ma 8) 4 (gOh (mcsF v g0)), xI G (ma 10) 16 (gDay (mcsF v g0)), xZ G (ma 11) 16 (gUrg (mcsF v g0)), xI G (ma 12) 64 (gSzs (mcsF v g0)), xI G (ma 13) 16 (gWai (mcsF v g0)), xI G (ma 14) 16 (gFro (mcsF v g0)), xI G (ma 15) 16 (gBto (mcsF v g0)), xI G (ma 16) 4 (gRl (mcsF v g0)), xI G (ma 17) 4 (gRn (mcsF v g0)), xI G (ma 18) 4 (gRh (mcsF v g0)), xI G (ma 21) 16 (mP (gZ (mcsF v g0))), xI G (ma 22) 16 (mL (gZ (mcsF v g0))), xZ G (ma 23) 16 (mT (gZ (mcsF v g0))), xI G (ma 24) 16 (mN (gZ (mcsF v g0))), xI G (ma 25) 16 (mX (gZ (mcsF v g0))), xZ G (ma 26) 16 (mB (gZ (mcsF v g0))), xI G (ma 27) 16 (mD (gZ (mcsF v g0))), xZ G (ma 28) 16 (mW (gZ (mcsF v g0))), xI G (ma 29) 16 (mR (gZ (mcsF v g0))), xI G (ma 30) 80 (mS (gZ (mcsF v g0))), xI G (ma 36) 16 (gHp (mcsF v g0)), xI G (ma 37) 16 (gHq (mcsF v g0)), xI G (ma 41) 4 (gBo (mcsF v g0))] (b2 (wiP v 1 4)) := by
  refine xN_of (cc := cX5_columns) (maxL := 3) (ty := .boolean) (by decide) rfl (Nat.le_of_ble_eq_true rfl) ?_
  intro p e s m below meth cO ls Q A hx hb hml hown hts hP hK hD hS hA hl hq
  have hown : s.vm.findClass RX5 = some m.cls := hown
  have kl7 := hts (.fieldLink RX5 7 "WorkBoardModel" "columns" "I") (List.mem_of_getElem? (i := 1) rfl)
  have kl105 := hts (.fieldLink RX5 105 "WorkBoardModel" "cards" "I") (List.mem_of_getElem? (i := 2) rfl)
  have kl13 := hts (.fieldLink RX5 13 "WorkBoardModel" "limit" "[I") (List.mem_of_getElem? (i := 3) rfl)
  have kl17 := hts (.fieldLink RX5 17 "WorkBoardModel" "lane" "[I") (List.mem_of_getElem? (i := 4) rfl)
  have kl20 := hts (.fieldLink RX5 20 "WorkBoardModel" "hands" "[I") (List.mem_of_getElem? (i := 5) rfl)
  have kl23 := hts (.fieldLink RX5 23 "WorkBoardModel" "pace" "I") (List.mem_of_getElem? (i := 6) rfl)
  have kl35 := hts (.fieldLink RX5 35 "WorkBoardModel" "otherPace" "I") (List.mem_of_getElem? (i := 7) rfl)
  have kl116 := hts (.fieldLink RX5 116 "WorkBoardModel" "isFresh" "Z") (List.mem_of_getElem? (i := 8) rfl)
  have inX5 : ∀ w ∈ u_ws RX5 TX5 42, w ∈ wsX5_columns := (fun w h => List.mem_cons_of_mem _ (List.mem_append_right _ h))
  obtain ⟨hn, hnc, hw, hcm⟩ := id hG
  have hl : lv_has ls 3 [(0, .ref mA), (1, .int v)] := hl
  have hD : va_D A [oModel mA ma (nI (gK g0)) (nI (gN g0)) (gLp g0) (gOp g0) (gRp g0) (gRa g0) (nI (mK (gZ g0))) (mE (gZ g0)) (mM (gZ g0)) (mV (gZ g0)) (nI (mH (gZ g0))) (gFr g0) (gBu g0) (gBs g0), xI G (ma 2) 4 (gLl g0), xI G (ma 3) 4 (gLn g0), xI G (ma 4) 4 (gLh g0), xI G (ma 6) 4 (gOl g0), xI G (ma 7) 4 (gOn g0), xI G (ma 8) 4 (gOh g0), xI G (ma 10) 16 (gDay g0), xZ G (ma 11) 16 (gUrg g0), xI G (ma 12) 64 (gSzs g0), xI G (ma 13) 16 (gWai g0), xI G (ma 14) 16 (gFro g0), xI G (ma 15) 16 (gBto g0), xI G (ma 16) 4 (gRl g0), xI G (ma 17) 4 (gRn g0), xI G (ma 18) 4 (gRh g0), xI G (ma 21) 16 (mP (gZ g0)), xI G (ma 22) 16 (mL (gZ g0)), xZ G (ma 23) 16 (mT (gZ g0)), xI G (ma 24) 16 (mN (gZ g0)), xI G (ma 25) 16 (mX (gZ g0)), xZ G (ma 26) 16 (mB (gZ g0)), xI G (ma 27) 16 (mD (gZ g0)), xZ G (ma 28) 16 (mW (gZ g0)), xI G (ma 29) 16 (mR (gZ g0)), xI G (ma 30) 80 (mS (gZ g0)), xI G (ma 36) 16 (gHp g0), xI G (ma 37) 16 (gHq g0), xI G (ma 41) 4 (gBo g0)] := hD
  obtain ⟨H, hH⟩ : ∃ z, z = s.heap := ⟨_, rfl⟩
  obtain ⟨locs, hlocs⟩ : ∃ z : List Loc, z = [] := ⟨_, rfl⟩
  have hS : va_S A s.heap H locs := by rw [hH, hlocs]; exact hS
  have hP : va_P (xD G) vwCl [oModel mA ma (nI (gK g0)) (nI (gN g0)) (gLp g0) (gOp g0) (gRp g0) (gRa g0) (nI (mK (gZ g0))) (mE (gZ g0)) (mM (gZ g0)) (mV (gZ g0)) (nI (mH (gZ g0))) (gFr g0) (gBu g0) (gBs g0), xI G (ma 2) 4 (gLl g0), xI G (ma 3) 4 (gLn g0), xI G (ma 4) 4 (gLh g0), xI G (ma 6) 4 (gOl g0), xI G (ma 7) 4 (gOn g0), xI G (ma 8) 4 (gOh g0), xI G (ma 10) 16 (gDay g0), xZ G (ma 11) 16 (gUrg g0), xI G (ma 12) 64 (gSzs g0), xI G (ma 13) 16 (gWai g0), xI G (ma 14) 16 (gFro g0), xI G (ma 15) 16 (gBto g0), xI G (ma 16) 4 (gRl g0), xI G (ma 17) 4 (gRn g0), xI G (ma 18) 4 (gRh g0), xI G (ma 21) 16 (mP (gZ g0)), xI G (ma 22) 16 (mL (gZ g0)), xZ G (ma 23) 16 (mT (gZ g0)), xI G (ma 24) 16 (mN (gZ g0)), xI G (ma 25) 16 (mX (gZ g0)), xZ G (ma 26) 16 (mB (gZ g0)), xI G (ma 27) 16 (mD (gZ g0)), xZ G (ma 28) 16 (mW (gZ g0)), xI G (ma 29) 16 (mR (gZ g0)), xI G (ma 30) 80 (mS (gZ g0)), xI G (ma 36) 16 (gHp g0), xI G (ma 37) 16 (gHq g0), xI G (ma 41) 4 (gBo g0)] H := by rw [hH]; exact hP
  rw [← hH, ← hlocs]
  clear hH hlocs
  refine lv_iload_n hx hb dX5_columns_0 rfl (lv_at hl 1 rfl) ?_
  refine lv_iconst (v := 1) hx hb dX5_columns_1 (by decide) ?_
  refine lv_iconst (v := 4) hx hb dX5_columns_2 (by decide) ?_
  refine x_callS (As := [.int v, .int 1, .int 4]) (rest := []) ⟨hx, hb, hml, hown, hts⟩ (mX5_in l G v 1 4 ) (va_cwS 3 hts gX5_columns_X5_in rfl rfl rfl (by decide +kernel) ⟨Nat.le_of_ble_eq_true rfl, Nat.le_of_ble_eq_true rfl⟩) hK rfl hl.1 rfl (Nat.le_of_ble_eq_true rfl) dX5_columns_3 ⟨Nat.zero_le _, Nat.zero_le _⟩ (fun r hr => ?_)
  subst hr
  refine x_if_ne (P := wiP v 1 4) (tgt := 11) hx hb dX5_columns_6 (by decide) (fun c6 => ?_) (fun c6 => ?_)
  · skip
    have hv := c6
    have hw4 := wi_in (a := 1) (N := 4) hv (by omega) (by omega)
    refine lv_aload_n hx hb dX5_columns_11 rfl (lv_at hl 0 rfl) ?_
    refine lv_iload_n hx hb dX5_columns_12 rfl (lv_at hl 1 rfl) ?_
    refine x_top (y := nI v.toNatClampNeg) (hw4.1) ?_
    refine va_put (D := xD G) (ci := 5) (v := .int (nI v.toNatClampNeg)) (ty := .int) (C := RX5) (T := TX5) (N := 42) hx hb hts inX5 tyX5 tyX5_ok nmX5 hown hK hP hD hS 0 rfl rfl 0 (by decide) kl7 (fun _ h9 => h9) rfl (by decide +kernel) rfl rfl (Nat.le_of_ble_eq_true rfl) dX5_columns_13 (fun H locs hP hD hS => ?_)
    have hP : va_P (xD G) vwCl [oModel mA ma (nI v.toNatClampNeg) (nI (gN g0)) (gLp g0) (gOp g0) (gRp g0) (gRa g0) (nI (mK (gZ g0))) (mE (gZ g0)) (mM (gZ g0)) (mV (gZ g0)) (nI (mH (gZ g0))) (gFr g0) (gBu g0) (gBs g0), xI G (ma 2) 4 (gLl g0), xI G (ma 3) 4 (gLn g0), xI G (ma 4) 4 (gLh g0), xI G (ma 6) 4 (gOl g0), xI G (ma 7) 4 (gOn g0), xI G (ma 8) 4 (gOh g0), xI G (ma 10) 16 (gDay g0), xZ G (ma 11) 16 (gUrg g0), xI G (ma 12) 64 (gSzs g0), xI G (ma 13) 16 (gWai g0), xI G (ma 14) 16 (gFro g0), xI G (ma 15) 16 (gBto g0), xI G (ma 16) 4 (gRl g0), xI G (ma 17) 4 (gRn g0), xI G (ma 18) 4 (gRh g0), xI G (ma 21) 16 (mP (gZ g0)), xI G (ma 22) 16 (mL (gZ g0)), xZ G (ma 23) 16 (mT (gZ g0)), xI G (ma 24) 16 (mN (gZ g0)), xI G (ma 25) 16 (mX (gZ g0)), xZ G (ma 26) 16 (mB (gZ g0)), xI G (ma 27) 16 (mD (gZ g0)), xZ G (ma 28) 16 (mW (gZ g0)), xI G (ma 29) 16 (mR (gZ g0)), xI G (ma 30) 80 (mS (gZ g0)), xI G (ma 36) 16 (gHp g0), xI G (ma 37) 16 (gHq g0), xI G (ma 41) 4 (gBo g0)] H := hP
    have hD : va_D A [oModel mA ma (nI v.toNatClampNeg) (nI (gN g0)) (gLp g0) (gOp g0) (gRp g0) (gRa g0) (nI (mK (gZ g0))) (mE (gZ g0)) (mM (gZ g0)) (mV (gZ g0)) (nI (mH (gZ g0))) (gFr g0) (gBu g0) (gBs g0), xI G (ma 2) 4 (gLl g0), xI G (ma 3) 4 (gLn g0), xI G (ma 4) 4 (gLh g0), xI G (ma 6) 4 (gOl g0), xI G (ma 7) 4 (gOn g0), xI G (ma 8) 4 (gOh g0), xI G (ma 10) 16 (gDay g0), xZ G (ma 11) 16 (gUrg g0), xI G (ma 12) 64 (gSzs g0), xI G (ma 13) 16 (gWai g0), xI G (ma 14) 16 (gFro g0), xI G (ma 15) 16 (gBto g0), xI G (ma 16) 4 (gRl g0), xI G (ma 17) 4 (gRn g0), xI G (ma 18) 4 (gRh g0), xI G (ma 21) 16 (mP (gZ g0)), xI G (ma 22) 16 (mL (gZ g0)), xZ G (ma 23) 16 (mT (gZ g0)), xI G (ma 24) 16 (mN (gZ g0)), xI G (ma 25) 16 (mX (gZ g0)), xZ G (ma 26) 16 (mB (gZ g0)), xI G (ma 27) 16 (mD (gZ g0)), xZ G (ma 28) 16 (mW (gZ g0)), xI G (ma 29) 16 (mR (gZ g0)), xI G (ma 30) 80 (mS (gZ g0)), xI G (ma 36) 16 (gHp g0), xI G (ma 37) 16 (gHq g0), xI G (ma 41) 4 (gBo g0)] := hD
    refine lv_aload_n hx hb dX5_columns_16 rfl (lv_at hl 0 rfl) ?_
    refine lv_iconst (v := 0) hx hb dX5_columns_17 (by decide) ?_
    refine va_put (D := xD G) (ci := 5) (v := .int 0) (ty := .int) (C := RX5) (T := TX5) (N := 42) hx hb hts inX5 tyX5 tyX5_ok nmX5 hown hK hP hD hS 0 rfl rfl 1 (by decide) kl105 (fun _ h9 => h9) rfl (by decide +kernel) rfl rfl (Nat.le_of_ble_eq_true rfl) dX5_columns_18 (fun H locs hP hD hS => ?_)
    have hP : va_P (xD G) vwCl [oModel mA ma (nI v.toNatClampNeg) 0 (gLp g0) (gOp g0) (gRp g0) (gRa g0) (nI (mK (gZ g0))) (mE (gZ g0)) (mM (gZ g0)) (mV (gZ g0)) (nI (mH (gZ g0))) (gFr g0) (gBu g0) (gBs g0), xI G (ma 2) 4 (gLl g0), xI G (ma 3) 4 (gLn g0), xI G (ma 4) 4 (gLh g0), xI G (ma 6) 4 (gOl g0), xI G (ma 7) 4 (gOn g0), xI G (ma 8) 4 (gOh g0), xI G (ma 10) 16 (gDay g0), xZ G (ma 11) 16 (gUrg g0), xI G (ma 12) 64 (gSzs g0), xI G (ma 13) 16 (gWai g0), xI G (ma 14) 16 (gFro g0), xI G (ma 15) 16 (gBto g0), xI G (ma 16) 4 (gRl g0), xI G (ma 17) 4 (gRn g0), xI G (ma 18) 4 (gRh g0), xI G (ma 21) 16 (mP (gZ g0)), xI G (ma 22) 16 (mL (gZ g0)), xZ G (ma 23) 16 (mT (gZ g0)), xI G (ma 24) 16 (mN (gZ g0)), xI G (ma 25) 16 (mX (gZ g0)), xZ G (ma 26) 16 (mB (gZ g0)), xI G (ma 27) 16 (mD (gZ g0)), xZ G (ma 28) 16 (mW (gZ g0)), xI G (ma 29) 16 (mR (gZ g0)), xI G (ma 30) 80 (mS (gZ g0)), xI G (ma 36) 16 (gHp g0), xI G (ma 37) 16 (gHq g0), xI G (ma 41) 4 (gBo g0)] H := hP
    have hD : va_D A [oModel mA ma (nI v.toNatClampNeg) 0 (gLp g0) (gOp g0) (gRp g0) (gRa g0) (nI (mK (gZ g0))) (mE (gZ g0)) (mM (gZ g0)) (mV (gZ g0)) (nI (mH (gZ g0))) (gFr g0) (gBu g0) (gBs g0), xI G (ma 2) 4 (gLl g0), xI G (ma 3) 4 (gLn g0), xI G (ma 4) 4 (gLh g0), xI G (ma 6) 4 (gOl g0), xI G (ma 7) 4 (gOn g0), xI G (ma 8) 4 (gOh g0), xI G (ma 10) 16 (gDay g0), xZ G (ma 11) 16 (gUrg g0), xI G (ma 12) 64 (gSzs g0), xI G (ma 13) 16 (gWai g0), xI G (ma 14) 16 (gFro g0), xI G (ma 15) 16 (gBto g0), xI G (ma 16) 4 (gRl g0), xI G (ma 17) 4 (gRn g0), xI G (ma 18) 4 (gRh g0), xI G (ma 21) 16 (mP (gZ g0)), xI G (ma 22) 16 (mL (gZ g0)), xZ G (ma 23) 16 (mT (gZ g0)), xI G (ma 24) 16 (mN (gZ g0)), xI G (ma 25) 16 (mX (gZ g0)), xZ G (ma 26) 16 (mB (gZ g0)), xI G (ma 27) 16 (mD (gZ g0)), xZ G (ma 28) 16 (mW (gZ g0)), xI G (ma 29) 16 (mR (gZ g0)), xI G (ma 30) 80 (mS (gZ g0)), xI G (ma 36) 16 (gHp g0), xI G (ma 37) 16 (gHq g0), xI G (ma 41) 4 (gBo g0)] := hD
    refine lv_iconst (v := 0) hx hb dX5_columns_21 (by decide) ?_
    refine lv_istore_n (lv' := [(2, .int 0), (0, .ref mA), (1, .int v)]) hx hb dX5_columns_22 rfl hl (by decide) rfl (fun ls hl => ?_)
    have L23 : ∀ (kk23 i : Nat) (f0 : XF) (f1 : XF) (f2 : XF) (f3 : XF) (f4 : XF) (f5 : XF), i ≤ 4 → 4 + 1 ≤ i + kk23 → (f0 = fl (gLl g0) 3 i) → (f1 = fl (gLn g0) 1 i) → (f2 = fl (gLh g0) 2 i) → (f3 = fl (gOl g0) (-1) i) → (f4 = fl (gOn g0) (-1) i) → (f5 = fl (gOh g0) (-1) i) → ∀ (H : Heap) (locs : List Loc), va_P (xD G) vwCl [oModel mA ma (nI v.toNatClampNeg) 0 (gLp g0) (gOp g0) (gRp g0) (gRa g0) (nI (mK (gZ g0))) (mE (gZ g0)) (mM (gZ g0)) (mV (gZ g0)) (nI (mH (gZ g0))) (gFr g0) (gBu g0) (gBs g0), xI G (ma 2) 4 f0, xI G (ma 3) 4 f1, xI G (ma 4) 4 f2, xI G (ma 6) 4 f3, xI G (ma 7) 4 f4, xI G (ma 8) 4 f5, xI G (ma 10) 16 (gDay g0), xZ G (ma 11) 16 (gUrg g0), xI G (ma 12) 64 (gSzs g0), xI G (ma 13) 16 (gWai g0), xI G (ma 14) 16 (gFro g0), xI G (ma 15) 16 (gBto g0), xI G (ma 16) 4 (gRl g0), xI G (ma 17) 4 (gRn g0), xI G (ma 18) 4 (gRh g0), xI G (ma 21) 16 (mP (gZ g0)), xI G (ma 22) 16 (mL (gZ g0)), xZ G (ma 23) 16 (mT (gZ g0)), xI G (ma 24) 16 (mN (gZ g0)), xI G (ma 25) 16 (mX (gZ g0)), xZ G (ma 26) 16 (mB (gZ g0)), xI G (ma 27) 16 (mD (gZ g0)), xZ G (ma 28) 16 (mW (gZ g0)), xI G (ma 29) 16 (mR (gZ g0)), xI G (ma 30) 80 (mS (gZ g0)), xI G (ma 36) 16 (gHp g0), xI G (ma 37) 16 (gHq g0), xI G (ma 41) 4 (gBo g0)] H → va_D A [oModel mA ma (nI v.toNatClampNeg) 0 (gLp g0) (gOp g0) (gRp g0) (gRa g0) (nI (mK (gZ g0))) (mE (gZ g0)) (mM (gZ g0)) (mV (gZ g0)) (nI (mH (gZ g0))) (gFr g0) (gBu g0) (gBs g0), xI G (ma 2) 4 f0, xI G (ma 3) 4 f1, xI G (ma 4) 4 f2, xI G (ma 6) 4 f3, xI G (ma 7) 4 f4, xI G (ma 8) 4 f5, xI G (ma 10) 16 (gDay g0), xZ G (ma 11) 16 (gUrg g0), xI G (ma 12) 64 (gSzs g0), xI G (ma 13) 16 (gWai g0), xI G (ma 14) 16 (gFro g0), xI G (ma 15) 16 (gBto g0), xI G (ma 16) 4 (gRl g0), xI G (ma 17) 4 (gRn g0), xI G (ma 18) 4 (gRh g0), xI G (ma 21) 16 (mP (gZ g0)), xI G (ma 22) 16 (mL (gZ g0)), xZ G (ma 23) 16 (mT (gZ g0)), xI G (ma 24) 16 (mN (gZ g0)), xI G (ma 25) 16 (mX (gZ g0)), xZ G (ma 26) 16 (mB (gZ g0)), xI G (ma 27) 16 (mD (gZ g0)), xZ G (ma 28) 16 (mW (gZ g0)), xI G (ma 29) 16 (mR (gZ g0)), xI G (ma 30) 80 (mS (gZ g0)), xI G (ma 36) 16 (gHp g0), xI G (ma 37) 16 (gHq g0), xI G (ma 41) 4 (gBo g0)] → va_S A s.heap H locs → ∀ (ls : Array Slot), lv_has ls 3 [(2, .int (nI i)), (0, .ref mA), (1, .int v)] → W p l e ({ frames := 1, cells := 0, slots := 0, locals := 22 } : Room) s m #[Value.ref mA, Value.int v] below meth cO H locs 0 0 Q (F0 m 23 ls []) := by
      intro kk23
      induction kk23 with
      | zero => intro i f0 f1 f2 f3 f4 f5 h1 h2; exact absurd h2 (by omega)
      | succ kk23 ih23 =>
        intro i f0 f1 f2 f3 f4 f5 hi23 hk23 e0 e1 e2 e3 e4 e5 H locs hP hD hS ls hl
        refine lv_iload_n hx hb dX5_columns_23 rfl (lv_at hl 0 rfl) ?_
        refine lv_iconst (v := 4) hx hb dX5_columns_24 (by decide) ?_
        refine x_icmp_ge (x := i) (y := 4) (tgt := 60) hx hb (by omega) (by omega) dX5_columns_25 (by decide) (fun c25 => ?_) (fun c25 => ?_)
        · skip
          have e_3 : i = 4 := by omega
          rw [e_3] at e0
          subst e0
          rw [e_3] at e1
          subst e1
          rw [e_3] at e2
          subst e2
          rw [e_3] at e3
          subst e3
          rw [e_3] at e4
          subst e4
          rw [e_3] at e5
          subst e5
          refine lv_aload_n hx hb dX5_columns_60 rfl (lv_at hl 1 rfl) ?_
          refine lv_iconst (v := 1) hx hb dX5_columns_61 (by decide) ?_
          refine va_put (D := xD G) (ci := 5) (v := .int 1) (ty := .int) (C := RX5) (T := TX5) (N := 42) hx hb hts inX5 tyX5 tyX5_ok nmX5 hown hK hP hD hS 0 rfl rfl 5 (by decide) kl23 (fun _ h9 => h9) rfl (by decide +kernel) rfl rfl (Nat.le_of_ble_eq_true rfl) dX5_columns_62 (fun H locs hP hD hS => ?_)
          have hP : va_P (xD G) vwCl [oModel mA ma (nI v.toNatClampNeg) 0 1 (gOp g0) (gRp g0) (gRa g0) (nI (mK (gZ g0))) (mE (gZ g0)) (mM (gZ g0)) (mV (gZ g0)) (nI (mH (gZ g0))) (gFr g0) (gBu g0) (gBs g0), xI G (ma 2) 4 (fl (gLl g0) 3 4), xI G (ma 3) 4 (fl (gLn g0) 1 4), xI G (ma 4) 4 (fl (gLh g0) 2 4), xI G (ma 6) 4 (fl (gOl g0) (-1) 4), xI G (ma 7) 4 (fl (gOn g0) (-1) 4), xI G (ma 8) 4 (fl (gOh g0) (-1) 4), xI G (ma 10) 16 (gDay g0), xZ G (ma 11) 16 (gUrg g0), xI G (ma 12) 64 (gSzs g0), xI G (ma 13) 16 (gWai g0), xI G (ma 14) 16 (gFro g0), xI G (ma 15) 16 (gBto g0), xI G (ma 16) 4 (gRl g0), xI G (ma 17) 4 (gRn g0), xI G (ma 18) 4 (gRh g0), xI G (ma 21) 16 (mP (gZ g0)), xI G (ma 22) 16 (mL (gZ g0)), xZ G (ma 23) 16 (mT (gZ g0)), xI G (ma 24) 16 (mN (gZ g0)), xI G (ma 25) 16 (mX (gZ g0)), xZ G (ma 26) 16 (mB (gZ g0)), xI G (ma 27) 16 (mD (gZ g0)), xZ G (ma 28) 16 (mW (gZ g0)), xI G (ma 29) 16 (mR (gZ g0)), xI G (ma 30) 80 (mS (gZ g0)), xI G (ma 36) 16 (gHp g0), xI G (ma 37) 16 (gHq g0), xI G (ma 41) 4 (gBo g0)] H := hP
          have hD : va_D A [oModel mA ma (nI v.toNatClampNeg) 0 1 (gOp g0) (gRp g0) (gRa g0) (nI (mK (gZ g0))) (mE (gZ g0)) (mM (gZ g0)) (mV (gZ g0)) (nI (mH (gZ g0))) (gFr g0) (gBu g0) (gBs g0), xI G (ma 2) 4 (fl (gLl g0) 3 4), xI G (ma 3) 4 (fl (gLn g0) 1 4), xI G (ma 4) 4 (fl (gLh g0) 2 4), xI G (ma 6) 4 (fl (gOl g0) (-1) 4), xI G (ma 7) 4 (fl (gOn g0) (-1) 4), xI G (ma 8) 4 (fl (gOh g0) (-1) 4), xI G (ma 10) 16 (gDay g0), xZ G (ma 11) 16 (gUrg g0), xI G (ma 12) 64 (gSzs g0), xI G (ma 13) 16 (gWai g0), xI G (ma 14) 16 (gFro g0), xI G (ma 15) 16 (gBto g0), xI G (ma 16) 4 (gRl g0), xI G (ma 17) 4 (gRn g0), xI G (ma 18) 4 (gRh g0), xI G (ma 21) 16 (mP (gZ g0)), xI G (ma 22) 16 (mL (gZ g0)), xZ G (ma 23) 16 (mT (gZ g0)), xI G (ma 24) 16 (mN (gZ g0)), xI G (ma 25) 16 (mX (gZ g0)), xZ G (ma 26) 16 (mB (gZ g0)), xI G (ma 27) 16 (mD (gZ g0)), xZ G (ma 28) 16 (mW (gZ g0)), xI G (ma 29) 16 (mR (gZ g0)), xI G (ma 30) 80 (mS (gZ g0)), xI G (ma 36) 16 (gHp g0), xI G (ma 37) 16 (gHq g0), xI G (ma 41) 4 (gBo g0)] := hD
          refine lv_aload_n hx hb dX5_columns_65 rfl (lv_at hl 1 rfl) ?_
          refine lv_iconst (v := (-1)) hx hb dX5_columns_66 (by decide) ?_
          refine va_put (D := xD G) (ci := 5) (v := .int (-1)) (ty := .int) (C := RX5) (T := TX5) (N := 42) hx hb hts inX5 tyX5 tyX5_ok nmX5 hown hK hP hD hS 0 rfl rfl 9 (by decide) kl35 (fun _ h9 => h9) rfl (by decide +kernel) rfl rfl (Nat.le_of_ble_eq_true rfl) dX5_columns_67 (fun H locs hP hD hS => ?_)
          have hP : va_P (xD G) vwCl [oModel mA ma (nI v.toNatClampNeg) 0 1 (-1) (gRp g0) (gRa g0) (nI (mK (gZ g0))) (mE (gZ g0)) (mM (gZ g0)) (mV (gZ g0)) (nI (mH (gZ g0))) (gFr g0) (gBu g0) (gBs g0), xI G (ma 2) 4 (fl (gLl g0) 3 4), xI G (ma 3) 4 (fl (gLn g0) 1 4), xI G (ma 4) 4 (fl (gLh g0) 2 4), xI G (ma 6) 4 (fl (gOl g0) (-1) 4), xI G (ma 7) 4 (fl (gOn g0) (-1) 4), xI G (ma 8) 4 (fl (gOh g0) (-1) 4), xI G (ma 10) 16 (gDay g0), xZ G (ma 11) 16 (gUrg g0), xI G (ma 12) 64 (gSzs g0), xI G (ma 13) 16 (gWai g0), xI G (ma 14) 16 (gFro g0), xI G (ma 15) 16 (gBto g0), xI G (ma 16) 4 (gRl g0), xI G (ma 17) 4 (gRn g0), xI G (ma 18) 4 (gRh g0), xI G (ma 21) 16 (mP (gZ g0)), xI G (ma 22) 16 (mL (gZ g0)), xZ G (ma 23) 16 (mT (gZ g0)), xI G (ma 24) 16 (mN (gZ g0)), xI G (ma 25) 16 (mX (gZ g0)), xZ G (ma 26) 16 (mB (gZ g0)), xI G (ma 27) 16 (mD (gZ g0)), xZ G (ma 28) 16 (mW (gZ g0)), xI G (ma 29) 16 (mR (gZ g0)), xI G (ma 30) 80 (mS (gZ g0)), xI G (ma 36) 16 (gHp g0), xI G (ma 37) 16 (gHq g0), xI G (ma 41) 4 (gBo g0)] H := hP
          have hD : va_D A [oModel mA ma (nI v.toNatClampNeg) 0 1 (-1) (gRp g0) (gRa g0) (nI (mK (gZ g0))) (mE (gZ g0)) (mM (gZ g0)) (mV (gZ g0)) (nI (mH (gZ g0))) (gFr g0) (gBu g0) (gBs g0), xI G (ma 2) 4 (fl (gLl g0) 3 4), xI G (ma 3) 4 (fl (gLn g0) 1 4), xI G (ma 4) 4 (fl (gLh g0) 2 4), xI G (ma 6) 4 (fl (gOl g0) (-1) 4), xI G (ma 7) 4 (fl (gOn g0) (-1) 4), xI G (ma 8) 4 (fl (gOh g0) (-1) 4), xI G (ma 10) 16 (gDay g0), xZ G (ma 11) 16 (gUrg g0), xI G (ma 12) 64 (gSzs g0), xI G (ma 13) 16 (gWai g0), xI G (ma 14) 16 (gFro g0), xI G (ma 15) 16 (gBto g0), xI G (ma 16) 4 (gRl g0), xI G (ma 17) 4 (gRn g0), xI G (ma 18) 4 (gRh g0), xI G (ma 21) 16 (mP (gZ g0)), xI G (ma 22) 16 (mL (gZ g0)), xZ G (ma 23) 16 (mT (gZ g0)), xI G (ma 24) 16 (mN (gZ g0)), xI G (ma 25) 16 (mX (gZ g0)), xZ G (ma 26) 16 (mB (gZ g0)), xI G (ma 27) 16 (mD (gZ g0)), xZ G (ma 28) 16 (mW (gZ g0)), xI G (ma 29) 16 (mR (gZ g0)), xI G (ma 30) 80 (mS (gZ g0)), xI G (ma 36) 16 (gHp g0), xI G (ma 37) 16 (gHq g0), xI G (ma 41) 4 (gBo g0)] := hD
          refine lv_aload_n hx hb dX5_columns_70 rfl (lv_at hl 1 rfl) ?_
          refine lv_iconst (v := 0) hx hb dX5_columns_71 (by decide) ?_
          refine va_put (D := xD G) (ci := 5) (v := .int 0) (ty := .boolean) (C := RX5) (T := TX5) (N := 42) hx hb hts inX5 tyX5 tyX5_ok nmX5 hown hK hP hD hS 0 rfl rfl 38 (by decide) kl116 (fun _ h9 => h9) rfl (by decide +kernel) rfl rfl (Nat.le_of_ble_eq_true rfl) dX5_columns_72 (fun H locs hP hD hS => ?_)
          have hP : va_P (xD G) vwCl [oModel mA ma (nI v.toNatClampNeg) 0 1 (-1) (gRp g0) (gRa g0) (nI (mK (gZ g0))) (mE (gZ g0)) (mM (gZ g0)) (mV (gZ g0)) (nI (mH (gZ g0))) 0 (gBu g0) (gBs g0), xI G (ma 2) 4 (fl (gLl g0) 3 4), xI G (ma 3) 4 (fl (gLn g0) 1 4), xI G (ma 4) 4 (fl (gLh g0) 2 4), xI G (ma 6) 4 (fl (gOl g0) (-1) 4), xI G (ma 7) 4 (fl (gOn g0) (-1) 4), xI G (ma 8) 4 (fl (gOh g0) (-1) 4), xI G (ma 10) 16 (gDay g0), xZ G (ma 11) 16 (gUrg g0), xI G (ma 12) 64 (gSzs g0), xI G (ma 13) 16 (gWai g0), xI G (ma 14) 16 (gFro g0), xI G (ma 15) 16 (gBto g0), xI G (ma 16) 4 (gRl g0), xI G (ma 17) 4 (gRn g0), xI G (ma 18) 4 (gRh g0), xI G (ma 21) 16 (mP (gZ g0)), xI G (ma 22) 16 (mL (gZ g0)), xZ G (ma 23) 16 (mT (gZ g0)), xI G (ma 24) 16 (mN (gZ g0)), xI G (ma 25) 16 (mX (gZ g0)), xZ G (ma 26) 16 (mB (gZ g0)), xI G (ma 27) 16 (mD (gZ g0)), xZ G (ma 28) 16 (mW (gZ g0)), xI G (ma 29) 16 (mR (gZ g0)), xI G (ma 30) 80 (mS (gZ g0)), xI G (ma 36) 16 (gHp g0), xI G (ma 37) 16 (gHq g0), xI G (ma 41) 4 (gBo g0)] H := hP
          have hD : va_D A [oModel mA ma (nI v.toNatClampNeg) 0 1 (-1) (gRp g0) (gRa g0) (nI (mK (gZ g0))) (mE (gZ g0)) (mM (gZ g0)) (mV (gZ g0)) (nI (mH (gZ g0))) 0 (gBu g0) (gBs g0), xI G (ma 2) 4 (fl (gLl g0) 3 4), xI G (ma 3) 4 (fl (gLn g0) 1 4), xI G (ma 4) 4 (fl (gLh g0) 2 4), xI G (ma 6) 4 (fl (gOl g0) (-1) 4), xI G (ma 7) 4 (fl (gOn g0) (-1) 4), xI G (ma 8) 4 (fl (gOh g0) (-1) 4), xI G (ma 10) 16 (gDay g0), xZ G (ma 11) 16 (gUrg g0), xI G (ma 12) 64 (gSzs g0), xI G (ma 13) 16 (gWai g0), xI G (ma 14) 16 (gFro g0), xI G (ma 15) 16 (gBto g0), xI G (ma 16) 4 (gRl g0), xI G (ma 17) 4 (gRn g0), xI G (ma 18) 4 (gRh g0), xI G (ma 21) 16 (mP (gZ g0)), xI G (ma 22) 16 (mL (gZ g0)), xZ G (ma 23) 16 (mT (gZ g0)), xI G (ma 24) 16 (mN (gZ g0)), xI G (ma 25) 16 (mX (gZ g0)), xZ G (ma 26) 16 (mB (gZ g0)), xI G (ma 27) 16 (mD (gZ g0)), xZ G (ma 28) 16 (mW (gZ g0)), xI G (ma 29) 16 (mR (gZ g0)), xI G (ma 30) 80 (mS (gZ g0)), xI G (ma 36) 16 (gHp g0), xI G (ma 37) 16 (gHq g0), xI G (ma 41) 4 (gBo g0)] := hD
          refine lv_iconst (v := 1) hx hb dX5_columns_75 (by decide) ?_
          have eF : mcsF v g0 = msaF v.toNatClampNeg g0 := if_pos hv
          rw [eF] at hq
          exact hq 1 H locs 76 ls dX5_columns_76 rfl ((b2_t hv).symm) (by skip; exact hP) (by skip; exact hD) hS
        · skip
          refine lv_aload_n hx hb dX5_columns_28 rfl (lv_at hl 1 rfl) ?_
          refine va_get (D := xD G) (ci := 5) (v := .ref (ma 2)) (C := RX5) (T := TX5) (N := 42) hx hb hts inX5 hown hK hP 0 rfl rfl 2 (by decide) kl13 (fun _ h9 => h9) rfl dX5_columns_29 ?_
          refine lv_iload_n hx hb dX5_columns_32 rfl (lv_at hl 0 rfl) ?_
          refine lv_iconst (v := 3) hx hb dX5_columns_33 (by decide) ?_
          refine x_iast (i := i) hx hb hK hP hD hS 1 rfl (by first | omega | assumption) (by omega) dX5_columns_34 (fun H locs hP hD hS => ?_)
          have hP : va_P (xD G) vwCl [oModel mA ma (nI v.toNatClampNeg) 0 (gLp g0) (gOp g0) (gRp g0) (gRa g0) (nI (mK (gZ g0))) (mE (gZ g0)) (mM (gZ g0)) (mV (gZ g0)) (nI (mH (gZ g0))) (gFr g0) (gBu g0) (gBs g0), xI G (ma 2) 4 (upd f0 i 3), xI G (ma 3) 4 f1, xI G (ma 4) 4 f2, xI G (ma 6) 4 f3, xI G (ma 7) 4 f4, xI G (ma 8) 4 f5, xI G (ma 10) 16 (gDay g0), xZ G (ma 11) 16 (gUrg g0), xI G (ma 12) 64 (gSzs g0), xI G (ma 13) 16 (gWai g0), xI G (ma 14) 16 (gFro g0), xI G (ma 15) 16 (gBto g0), xI G (ma 16) 4 (gRl g0), xI G (ma 17) 4 (gRn g0), xI G (ma 18) 4 (gRh g0), xI G (ma 21) 16 (mP (gZ g0)), xI G (ma 22) 16 (mL (gZ g0)), xZ G (ma 23) 16 (mT (gZ g0)), xI G (ma 24) 16 (mN (gZ g0)), xI G (ma 25) 16 (mX (gZ g0)), xZ G (ma 26) 16 (mB (gZ g0)), xI G (ma 27) 16 (mD (gZ g0)), xZ G (ma 28) 16 (mW (gZ g0)), xI G (ma 29) 16 (mR (gZ g0)), xI G (ma 30) 80 (mS (gZ g0)), xI G (ma 36) 16 (gHp g0), xI G (ma 37) 16 (gHq g0), xI G (ma 41) 4 (gBo g0)] H := hP
          have hD : va_D A [oModel mA ma (nI v.toNatClampNeg) 0 (gLp g0) (gOp g0) (gRp g0) (gRa g0) (nI (mK (gZ g0))) (mE (gZ g0)) (mM (gZ g0)) (mV (gZ g0)) (nI (mH (gZ g0))) (gFr g0) (gBu g0) (gBs g0), xI G (ma 2) 4 (upd f0 i 3), xI G (ma 3) 4 f1, xI G (ma 4) 4 f2, xI G (ma 6) 4 f3, xI G (ma 7) 4 f4, xI G (ma 8) 4 f5, xI G (ma 10) 16 (gDay g0), xZ G (ma 11) 16 (gUrg g0), xI G (ma 12) 64 (gSzs g0), xI G (ma 13) 16 (gWai g0), xI G (ma 14) 16 (gFro g0), xI G (ma 15) 16 (gBto g0), xI G (ma 16) 4 (gRl g0), xI G (ma 17) 4 (gRn g0), xI G (ma 18) 4 (gRh g0), xI G (ma 21) 16 (mP (gZ g0)), xI G (ma 22) 16 (mL (gZ g0)), xZ G (ma 23) 16 (mT (gZ g0)), xI G (ma 24) 16 (mN (gZ g0)), xI G (ma 25) 16 (mX (gZ g0)), xZ G (ma 26) 16 (mB (gZ g0)), xI G (ma 27) 16 (mD (gZ g0)), xZ G (ma 28) 16 (mW (gZ g0)), xI G (ma 29) 16 (mR (gZ g0)), xI G (ma 30) 80 (mS (gZ g0)), xI G (ma 36) 16 (gHp g0), xI G (ma 37) 16 (gHq g0), xI G (ma 41) 4 (gBo g0)] := hD
          refine lv_aload_n hx hb dX5_columns_35 rfl (lv_at hl 1 rfl) ?_
          refine va_get (D := xD G) (ci := 5) (v := .ref (ma 3)) (C := RX5) (T := TX5) (N := 42) hx hb hts inX5 hown hK hP 0 rfl rfl 3 (by decide) kl17 (fun _ h9 => h9) rfl dX5_columns_36 ?_
          refine lv_iload_n hx hb dX5_columns_39 rfl (lv_at hl 0 rfl) ?_
          refine lv_iconst (v := 1) hx hb dX5_columns_40 (by decide) ?_
          refine x_iast (i := i) hx hb hK hP hD hS 2 rfl (by first | omega | assumption) (by omega) dX5_columns_41 (fun H locs hP hD hS => ?_)
          have hP : va_P (xD G) vwCl [oModel mA ma (nI v.toNatClampNeg) 0 (gLp g0) (gOp g0) (gRp g0) (gRa g0) (nI (mK (gZ g0))) (mE (gZ g0)) (mM (gZ g0)) (mV (gZ g0)) (nI (mH (gZ g0))) (gFr g0) (gBu g0) (gBs g0), xI G (ma 2) 4 (upd f0 i 3), xI G (ma 3) 4 (upd f1 i 1), xI G (ma 4) 4 f2, xI G (ma 6) 4 f3, xI G (ma 7) 4 f4, xI G (ma 8) 4 f5, xI G (ma 10) 16 (gDay g0), xZ G (ma 11) 16 (gUrg g0), xI G (ma 12) 64 (gSzs g0), xI G (ma 13) 16 (gWai g0), xI G (ma 14) 16 (gFro g0), xI G (ma 15) 16 (gBto g0), xI G (ma 16) 4 (gRl g0), xI G (ma 17) 4 (gRn g0), xI G (ma 18) 4 (gRh g0), xI G (ma 21) 16 (mP (gZ g0)), xI G (ma 22) 16 (mL (gZ g0)), xZ G (ma 23) 16 (mT (gZ g0)), xI G (ma 24) 16 (mN (gZ g0)), xI G (ma 25) 16 (mX (gZ g0)), xZ G (ma 26) 16 (mB (gZ g0)), xI G (ma 27) 16 (mD (gZ g0)), xZ G (ma 28) 16 (mW (gZ g0)), xI G (ma 29) 16 (mR (gZ g0)), xI G (ma 30) 80 (mS (gZ g0)), xI G (ma 36) 16 (gHp g0), xI G (ma 37) 16 (gHq g0), xI G (ma 41) 4 (gBo g0)] H := hP
          have hD : va_D A [oModel mA ma (nI v.toNatClampNeg) 0 (gLp g0) (gOp g0) (gRp g0) (gRa g0) (nI (mK (gZ g0))) (mE (gZ g0)) (mM (gZ g0)) (mV (gZ g0)) (nI (mH (gZ g0))) (gFr g0) (gBu g0) (gBs g0), xI G (ma 2) 4 (upd f0 i 3), xI G (ma 3) 4 (upd f1 i 1), xI G (ma 4) 4 f2, xI G (ma 6) 4 f3, xI G (ma 7) 4 f4, xI G (ma 8) 4 f5, xI G (ma 10) 16 (gDay g0), xZ G (ma 11) 16 (gUrg g0), xI G (ma 12) 64 (gSzs g0), xI G (ma 13) 16 (gWai g0), xI G (ma 14) 16 (gFro g0), xI G (ma 15) 16 (gBto g0), xI G (ma 16) 4 (gRl g0), xI G (ma 17) 4 (gRn g0), xI G (ma 18) 4 (gRh g0), xI G (ma 21) 16 (mP (gZ g0)), xI G (ma 22) 16 (mL (gZ g0)), xZ G (ma 23) 16 (mT (gZ g0)), xI G (ma 24) 16 (mN (gZ g0)), xI G (ma 25) 16 (mX (gZ g0)), xZ G (ma 26) 16 (mB (gZ g0)), xI G (ma 27) 16 (mD (gZ g0)), xZ G (ma 28) 16 (mW (gZ g0)), xI G (ma 29) 16 (mR (gZ g0)), xI G (ma 30) 80 (mS (gZ g0)), xI G (ma 36) 16 (gHp g0), xI G (ma 37) 16 (gHq g0), xI G (ma 41) 4 (gBo g0)] := hD
          refine lv_aload_n hx hb dX5_columns_42 rfl (lv_at hl 1 rfl) ?_
          refine va_get (D := xD G) (ci := 5) (v := .ref (ma 4)) (C := RX5) (T := TX5) (N := 42) hx hb hts inX5 hown hK hP 0 rfl rfl 4 (by decide) kl20 (fun _ h9 => h9) rfl dX5_columns_43 ?_
          refine lv_iload_n hx hb dX5_columns_46 rfl (lv_at hl 0 rfl) ?_
          refine lv_iconst (v := 2) hx hb dX5_columns_47 (by decide) ?_
          refine x_iast (i := i) hx hb hK hP hD hS 3 rfl (by first | omega | assumption) (by omega) dX5_columns_48 (fun H locs hP hD hS => ?_)
          have hP : va_P (xD G) vwCl [oModel mA ma (nI v.toNatClampNeg) 0 (gLp g0) (gOp g0) (gRp g0) (gRa g0) (nI (mK (gZ g0))) (mE (gZ g0)) (mM (gZ g0)) (mV (gZ g0)) (nI (mH (gZ g0))) (gFr g0) (gBu g0) (gBs g0), xI G (ma 2) 4 (upd f0 i 3), xI G (ma 3) 4 (upd f1 i 1), xI G (ma 4) 4 (upd f2 i 2), xI G (ma 6) 4 f3, xI G (ma 7) 4 f4, xI G (ma 8) 4 f5, xI G (ma 10) 16 (gDay g0), xZ G (ma 11) 16 (gUrg g0), xI G (ma 12) 64 (gSzs g0), xI G (ma 13) 16 (gWai g0), xI G (ma 14) 16 (gFro g0), xI G (ma 15) 16 (gBto g0), xI G (ma 16) 4 (gRl g0), xI G (ma 17) 4 (gRn g0), xI G (ma 18) 4 (gRh g0), xI G (ma 21) 16 (mP (gZ g0)), xI G (ma 22) 16 (mL (gZ g0)), xZ G (ma 23) 16 (mT (gZ g0)), xI G (ma 24) 16 (mN (gZ g0)), xI G (ma 25) 16 (mX (gZ g0)), xZ G (ma 26) 16 (mB (gZ g0)), xI G (ma 27) 16 (mD (gZ g0)), xZ G (ma 28) 16 (mW (gZ g0)), xI G (ma 29) 16 (mR (gZ g0)), xI G (ma 30) 80 (mS (gZ g0)), xI G (ma 36) 16 (gHp g0), xI G (ma 37) 16 (gHq g0), xI G (ma 41) 4 (gBo g0)] H := hP
          have hD : va_D A [oModel mA ma (nI v.toNatClampNeg) 0 (gLp g0) (gOp g0) (gRp g0) (gRa g0) (nI (mK (gZ g0))) (mE (gZ g0)) (mM (gZ g0)) (mV (gZ g0)) (nI (mH (gZ g0))) (gFr g0) (gBu g0) (gBs g0), xI G (ma 2) 4 (upd f0 i 3), xI G (ma 3) 4 (upd f1 i 1), xI G (ma 4) 4 (upd f2 i 2), xI G (ma 6) 4 f3, xI G (ma 7) 4 f4, xI G (ma 8) 4 f5, xI G (ma 10) 16 (gDay g0), xZ G (ma 11) 16 (gUrg g0), xI G (ma 12) 64 (gSzs g0), xI G (ma 13) 16 (gWai g0), xI G (ma 14) 16 (gFro g0), xI G (ma 15) 16 (gBto g0), xI G (ma 16) 4 (gRl g0), xI G (ma 17) 4 (gRn g0), xI G (ma 18) 4 (gRh g0), xI G (ma 21) 16 (mP (gZ g0)), xI G (ma 22) 16 (mL (gZ g0)), xZ G (ma 23) 16 (mT (gZ g0)), xI G (ma 24) 16 (mN (gZ g0)), xI G (ma 25) 16 (mX (gZ g0)), xZ G (ma 26) 16 (mB (gZ g0)), xI G (ma 27) 16 (mD (gZ g0)), xZ G (ma 28) 16 (mW (gZ g0)), xI G (ma 29) 16 (mR (gZ g0)), xI G (ma 30) 80 (mS (gZ g0)), xI G (ma 36) 16 (gHp g0), xI G (ma 37) 16 (gHq g0), xI G (ma 41) 4 (gBo g0)] := hD
          refine lv_aload_n hx hb dX5_columns_49 rfl (lv_at hl 1 rfl) ?_
          refine lv_iload_n hx hb dX5_columns_50 rfl (lv_at hl 0 rfl) ?_
          refine x_callM (As := [.int (nI i)]) (rest := []) (w2 := [oModel mA ma (nI v.toNatClampNeg) 0 (gLp g0) (gOp g0) (gRp g0) (gRa g0) (nI (mK (gZ g0))) (mE (gZ g0)) (mM (gZ g0)) (mV (gZ g0)) (nI (mH (gZ g0))) (gFr g0) (gBu g0) (gBs g0), xI G (ma 2) 4 (upd f0 i 3), xI G (ma 3) 4 (upd f1 i 1), xI G (ma 4) 4 (upd f2 i 2), xI G (ma 6) 4 (upd f3 i (-1)), xI G (ma 7) 4 (upd f4 i (-1)), xI G (ma 8) 4 (upd f5 i (-1)), xI G (ma 10) 16 (gDay g0), xZ G (ma 11) 16 (gUrg g0), xI G (ma 12) 64 (gSzs g0), xI G (ma 13) 16 (gWai g0), xI G (ma 14) 16 (gFro g0), xI G (ma 15) 16 (gBto g0), xI G (ma 16) 4 (gRl g0), xI G (ma 17) 4 (gRn g0), xI G (ma 18) 4 (gRh g0), xI G (ma 21) 16 (mP (gZ g0)), xI G (ma 22) 16 (mL (gZ g0)), xZ G (ma 23) 16 (mT (gZ g0)), xI G (ma 24) 16 (mN (gZ g0)), xI G (ma 25) 16 (mX (gZ g0)), xZ G (ma 26) 16 (mB (gZ g0)), xI G (ma 27) 16 (mD (gZ g0)), xZ G (ma 28) 16 (mW (gZ g0)), xI G (ma 29) 16 (mR (gZ g0)), xI G (ma 30) 80 (mS (gZ g0)), xI G (ma 36) 16 (gHp g0), xI G (ma 37) 16 (gHq g0), xI G (ma 41) 4 (gBo g0)]) (wr := [xI G (ma 2) 4 (upd f0 i 3), xI G (ma 3) 4 (upd f1 i 1), xI G (ma 4) 4 (upd f2 i 2), xI G (ma 10) 16 (gDay g0), xZ G (ma 11) 16 (gUrg g0), xI G (ma 12) 64 (gSzs g0), xI G (ma 13) 16 (gWai g0), xI G (ma 14) 16 (gFro g0), xI G (ma 15) 16 (gBto g0), xI G (ma 16) 4 (gRl g0), xI G (ma 17) 4 (gRn g0), xI G (ma 18) 4 (gRh g0), xI G (ma 21) 16 (mP (gZ g0)), xI G (ma 22) 16 (mL (gZ g0)), xZ G (ma 23) 16 (mT (gZ g0)), xI G (ma 24) 16 (mN (gZ g0)), xI G (ma 25) 16 (mX (gZ g0)), xZ G (ma 26) 16 (mB (gZ g0)), xI G (ma 27) 16 (mD (gZ g0)), xZ G (ma 28) 16 (mW (gZ g0)), xI G (ma 29) 16 (mR (gZ g0)), xI G (ma 30) 80 (mS (gZ g0)), xI G (ma 36) 16 (gHp g0), xI G (ma 37) 16 (gHq g0), xI G (ma 41) 4 (gBo g0)]) (ci := 5) (q0 := 0) ⟨hx, hb, hml, hown, hts⟩ (mX5_noOther l G mA ma (nI v.toNatClampNeg) 0 (gLp g0) (gOp g0) (gRp g0) (gRa g0) (nI (mK (gZ g0))) (mE (gZ g0)) (mM (gZ g0)) (mV (gZ g0)) (nI (mH (gZ g0))) (gFr g0) (gBu g0) (gBs g0) f3 f4 f5 i (by first | assumption | omega)) (cwV 1 hts gX5_columns_X5_noOther rfl rfl rfl (by decide +kernel) ⟨Nat.le_of_ble_eq_true rfl, Nat.le_of_ble_eq_true rfl⟩) hK hP hD hS hA [0, 4, 5, 6] [1, 2, 3, 7, 8, 9, 10, 11, 12, 13, 14, 15, 16, 17, 18, 19, 20, 21, 22, 23, 24, 25, 26, 27, 28] [25, 0, 1, 2, 26, 27, 28, 3, 4, 5, 6, 7, 8, 9, 10, 11, 12, 13, 14, 15, 16, 17, 18, 19, 20, 21, 22, 23, 24] rfl rfl rfl rfl rfl (by decide) rfl rfl rfl rfl rfl rfl rfl hl.1 rfl (Nat.le_of_ble_eq_true rfl) dX5_columns_51 ⟨Nat.zero_le _, Nat.zero_le _⟩ (fun H locs hP hD hS => ?_)
          refine lv_iinc (v := nI (i + 1)) (lv' := [(2, .int (nI (i + 1))), (0, .ref mA), (1, .int v)]) hx hb dX5_columns_54 hl (k := 0) rfl (by exact nI_add i 1) (by decide) rfl (fun ls hl => ?_)
          refine lv_goto (tgt := 23) hx hb dX5_columns_57 (by decide) ?_
          exact ih23 (i + 1) (upd f0 i 3) (upd f1 i 1) (upd f2 i 2) (upd f3 i (-1)) (upd f4 i (-1)) (upd f5 i (-1)) (by omega) (by omega) (by rw [e0]; exact fl_s _ _ _) (by rw [e1]; exact fl_s _ _ _) (by rw [e2]; exact fl_s _ _ _) (by rw [e3]; exact fl_s _ _ _) (by rw [e4]; exact fl_s _ _ _) (by rw [e5]; exact fl_s _ _ _) H locs hP hD hS ls (lv_sub hl [0, 1, 2] rfl)
    exact L23 (4 + 1) 0 (gLl g0) (gLn g0) (gLh g0) (gOl g0) (gOn g0) (gOh g0) (by omega) (by omega) ((fl_0 _ _).symm) ((fl_0 _ _).symm) ((fl_0 _ _).symm) ((fl_0 _ _).symm) ((fl_0 _ _).symm) ((fl_0 _ _).symm) H locs hP hD hS ls (lv_sub hl [0, 1, 2] rfl)
  · skip
    refine lv_iconst (v := 0) hx hb dX5_columns_9 (by decide) ?_
    have eF : mcsF v g0 = g0 := if_neg (c6)
    rw [eF] at hq
    exact hq 0 H locs 10 ls dX5_columns_10 rfl ((b2_f (c6)).symm) (by skip; exact hP) (by skip; exact hD) hS
set_option maxHeartbeats 4000000 in
set_option maxRecDepth 100000 in
theorem mX5_column (l : Launch) (G : xG) (mA : Nat) (ma : Nat → Nat) (g0 : MM) (k : Int32) (x : Int32) (y : Int32) (z : Int32)  (hG : GI g0) : xN l yX5_column wsX5_column ({ frames := 2, cells := 0, slots := 0, locals := 43 } : Room) [.ref mA, .int k, .int x, .int y, .int z] G [oModel mA ma (nI (gK g0)) (nI (gN g0)) (gLp g0) (gOp g0) (gRp g0) (gRa g0) (nI (mK (gZ g0))) (mE (gZ g0)) (mM (gZ g0)) (mV (gZ g0)) (nI (mH (gZ g0))) (gFr g0) (gBu g0) (gBs g0), xI G (ma 2) 4 (gLl g0), xI G (ma 3) 4 (gLn g0), xI G (ma 4) 4 (gLh g0), xI G (ma 6) 4 (gOl g0), xI G (ma 7) 4 (gOn g0), xI G (ma 8) 4 (gOh g0), xI G (ma 10) 16 (gDay g0), xZ G (ma 11) 16 (gUrg g0), xI G (ma 12) 64 (gSzs g0), xI G (ma 13) 16 (gWai g0), xI G (ma 14) 16 (gFro g0), xI G (ma 15) 16 (gBto g0), xI G (ma 16) 4 (gRl g0), xI G (ma 17) 4 (gRn g0), xI G (ma 18) 4 (gRh g0), xI G (ma 21) 16 (mP (gZ g0)), xI G (ma 22) 16 (mL (gZ g0)), xZ G (ma 23) 16 (mT (gZ g0)), xI G (ma 24) 16 (mN (gZ g0)), xI G (ma 25) 16 (mX (gZ g0)), xZ G (ma 26) 16 (mB (gZ g0)), xI G (ma 27) 16 (mD (gZ g0)), xZ G (ma 28) 16 (mW (gZ g0)), xI G (ma 29) 16 (mR (gZ g0)), xI G (ma 30) 80 (mS (gZ g0)), xI G (ma 36) 16 (gHp g0), xI G (ma 37) 16 (gHq g0), xI G (ma 41) 4 (gBo g0)] [oModel mA ma (nI (gK (mcoF k x y z g0))) (nI (gN (mcoF k x y z g0))) (gLp (mcoF k x y z g0)) (gOp (mcoF k x y z g0)) (gRp (mcoF k x y z g0)) (gRa (mcoF k x y z g0)) (nI (mK (gZ (mcoF k x y z g0)))) (mE (gZ (mcoF k x y z g0))) (mM (gZ (mcoF k x y z g0))) (mV (gZ (mcoF k x y z g0))) (nI (mH (gZ (mcoF k x y z g0)))) (gFr (mcoF k x y z g0)) (gBu (mcoF k x y z g0)) (gBs (mcoF k x y z g0)), xI G (ma 2) 4 (gLl (mcoF k x y z g0)), xI G (ma 3) 4 (gLn (mcoF k x y z g0)), xI G (ma 4) 4 (gLh (mcoF k x y z g0)), xI G (ma 6) 4 (gOl (mcoF k x y z g0)), xI G (ma 7) 4 (gOn (mcoF k x y z g0)), xI G (ma 8) 4 (gOh (mcoF k x y z g0)), xI G (ma 10) 16 (gDay (mcoF k x y z g0)), xZ G (ma 11) 16 (gUrg (mcoF k x y z g0)), xI G (ma 12) 64 (gSzs (mcoF k x y z g0)), xI G (ma 13) 16 (gWai (mcoF k x y z g0)), xI G (ma 14) 16 (gFro (mcoF k x y z g0)), xI G (ma 15) 16 (gBto (mcoF k x y z g0)), xI G (ma 16) 4 (gRl (mcoF k x y z g0)), xI G (ma 17) 4 (gRn (mcoF k x y z g0)), xI G (ma 18) 4 (gRh (mcoF k x y z g0)), xI G (ma 21) 16 (mP (gZ (mcoF k x y z g0))), xI G (ma 22) 16 (mL (gZ (mcoF k x y z g0))), xZ G (ma 23) 16 (mT (gZ (mcoF k x y z g0))), xI G (ma 24) 16 (mN (gZ (mcoF k x y z g0))), xI G (ma 25) 16 (mX (gZ (mcoF k x y z g0))), xZ G (ma 26) 16 (mB (gZ (mcoF k x y z g0))), xI G (ma 27) 16 (mD (gZ (mcoF k x y z g0))), xZ G (ma 28) 16 (mW (gZ (mcoF k x y z g0))), xI G (ma 29) 16 (mR (gZ (mcoF k x y z g0))), xI G (ma 30) 80 (mS (gZ (mcoF k x y z g0))), xI G (ma 36) 16 (gHp (mcoF k x y z g0)), xI G (ma 37) 16 (gHq (mcoF k x y z g0)), xI G (ma 41) 4 (gBo (mcoF k x y z g0))] (b2 (coQ k x y z (gK g0))) := by
  refine xN_of (cc := cX5_column) (maxL := 5) (ty := .boolean) (by decide) rfl (Nat.le_of_ble_eq_true rfl) ?_
  intro p e s m below meth cO ls Q A hx hb hml hown hts hP hK hD hS hA hl hq
  have hown : s.vm.findClass RX5 = some m.cls := hown
  have kl13 := hts (.fieldLink RX5 13 "WorkBoardModel" "limit" "[I") (List.mem_of_getElem? (i := 1) rfl)
  have kl17 := hts (.fieldLink RX5 17 "WorkBoardModel" "lane" "[I") (List.mem_of_getElem? (i := 2) rfl)
  have kl20 := hts (.fieldLink RX5 20 "WorkBoardModel" "hands" "[I") (List.mem_of_getElem? (i := 3) rfl)
  have kl116 := hts (.fieldLink RX5 116 "WorkBoardModel" "isFresh" "Z") (List.mem_of_getElem? (i := 4) rfl)
  have inX5 : ∀ w ∈ u_ws RX5 TX5 42, w ∈ wsX5_column := (fun w h => List.mem_cons_of_mem _ (List.mem_append_right _ h))
  obtain ⟨hn, hnc, hw, hcm⟩ := id hG
  have hl : lv_has ls 5 [(0, .ref mA), (1, .int k), (2, .int x), (3, .int y), (4, .int z)] := hl
  have hD : va_D A [oModel mA ma (nI (gK g0)) (nI (gN g0)) (gLp g0) (gOp g0) (gRp g0) (gRa g0) (nI (mK (gZ g0))) (mE (gZ g0)) (mM (gZ g0)) (mV (gZ g0)) (nI (mH (gZ g0))) (gFr g0) (gBu g0) (gBs g0), xI G (ma 2) 4 (gLl g0), xI G (ma 3) 4 (gLn g0), xI G (ma 4) 4 (gLh g0), xI G (ma 6) 4 (gOl g0), xI G (ma 7) 4 (gOn g0), xI G (ma 8) 4 (gOh g0), xI G (ma 10) 16 (gDay g0), xZ G (ma 11) 16 (gUrg g0), xI G (ma 12) 64 (gSzs g0), xI G (ma 13) 16 (gWai g0), xI G (ma 14) 16 (gFro g0), xI G (ma 15) 16 (gBto g0), xI G (ma 16) 4 (gRl g0), xI G (ma 17) 4 (gRn g0), xI G (ma 18) 4 (gRh g0), xI G (ma 21) 16 (mP (gZ g0)), xI G (ma 22) 16 (mL (gZ g0)), xZ G (ma 23) 16 (mT (gZ g0)), xI G (ma 24) 16 (mN (gZ g0)), xI G (ma 25) 16 (mX (gZ g0)), xZ G (ma 26) 16 (mB (gZ g0)), xI G (ma 27) 16 (mD (gZ g0)), xZ G (ma 28) 16 (mW (gZ g0)), xI G (ma 29) 16 (mR (gZ g0)), xI G (ma 30) 80 (mS (gZ g0)), xI G (ma 36) 16 (gHp g0), xI G (ma 37) 16 (gHq g0), xI G (ma 41) 4 (gBo g0)] := hD
  obtain ⟨H, hH⟩ : ∃ z, z = s.heap := ⟨_, rfl⟩
  obtain ⟨locs, hlocs⟩ : ∃ z : List Loc, z = [] := ⟨_, rfl⟩
  have hS : va_S A s.heap H locs := by rw [hH, hlocs]; exact hS
  have hP : va_P (xD G) vwCl [oModel mA ma (nI (gK g0)) (nI (gN g0)) (gLp g0) (gOp g0) (gRp g0) (gRa g0) (nI (mK (gZ g0))) (mE (gZ g0)) (mM (gZ g0)) (mV (gZ g0)) (nI (mH (gZ g0))) (gFr g0) (gBu g0) (gBs g0), xI G (ma 2) 4 (gLl g0), xI G (ma 3) 4 (gLn g0), xI G (ma 4) 4 (gLh g0), xI G (ma 6) 4 (gOl g0), xI G (ma 7) 4 (gOn g0), xI G (ma 8) 4 (gOh g0), xI G (ma 10) 16 (gDay g0), xZ G (ma 11) 16 (gUrg g0), xI G (ma 12) 64 (gSzs g0), xI G (ma 13) 16 (gWai g0), xI G (ma 14) 16 (gFro g0), xI G (ma 15) 16 (gBto g0), xI G (ma 16) 4 (gRl g0), xI G (ma 17) 4 (gRn g0), xI G (ma 18) 4 (gRh g0), xI G (ma 21) 16 (mP (gZ g0)), xI G (ma 22) 16 (mL (gZ g0)), xZ G (ma 23) 16 (mT (gZ g0)), xI G (ma 24) 16 (mN (gZ g0)), xI G (ma 25) 16 (mX (gZ g0)), xZ G (ma 26) 16 (mB (gZ g0)), xI G (ma 27) 16 (mD (gZ g0)), xZ G (ma 28) 16 (mW (gZ g0)), xI G (ma 29) 16 (mR (gZ g0)), xI G (ma 30) 80 (mS (gZ g0)), xI G (ma 36) 16 (gHp g0), xI G (ma 37) 16 (gHq g0), xI G (ma 41) 4 (gBo g0)] H := by rw [hH]; exact hP
  rw [← hH, ← hlocs]
  clear hH hlocs
  refine lv_aload_n hx hb dX5_column_0 rfl (lv_at hl 0 rfl) ?_
  refine lv_iload_n hx hb dX5_column_1 rfl (lv_at hl 1 rfl) ?_
  refine x_callR (As := [.int k]) (rest := []) (ci := 5) (q0 := 0) ⟨hx, hb, hml, hown, hts⟩ (mX5_isColumn l G mA ma (gK g0) (gN g0) (gLp g0) (gOp g0) (gRp g0) (gRa g0) (nI (mK (gZ g0))) (mE (gZ g0)) (mM (gZ g0)) (mV (gZ g0)) (nI (mH (gZ g0))) (gFr g0) (gBu g0) (gBs g0) k (by first | assumption | omega)) (cwV 1 hts gX5_column_X5_isColumn rfl rfl rfl (by decide +kernel) ⟨Nat.le_of_ble_eq_true rfl, Nat.le_of_ble_eq_true rfl⟩) hK hP hD [0] rfl rfl rfl rfl rfl rfl rfl hl.1 rfl (Nat.le_of_ble_eq_true rfl) dX5_column_2 ⟨Nat.zero_le _, Nat.zero_le _⟩ (fun r hr => ?_)
  subst hr
  refine x_if_eq (P := inC k (nI (gK g0))) (tgt := 38) hx hb dX5_column_5 (by decide) (fun c5 => ?_) (fun c5 => ?_)
  · skip
    refine lv_iconst (v := 0) hx hb dX5_column_38 (by decide) ?_
    have eF : mcoF k x y z g0 = g0 := if_neg (fun h => c5 h.1)
    rw [eF] at hq
    exact hq 0 H locs 39 ls dX5_column_39 rfl ((b2_f (fun h => c5 h.1)).symm) (by skip; exact hP) (by skip; exact hD) hS
  · skip
    refine lv_iload_n hx hb dX5_column_8 rfl (lv_at hl 2 rfl) ?_
    refine lv_iconst (v := 0) hx hb dX5_column_9 (by decide) ?_
    refine lv_bipush (v := 20) hx hb dX5_column_10 (by decide) ?_
    refine x_callS (As := [.int x, .int 0, .int 20]) (rest := []) ⟨hx, hb, hml, hown, hts⟩ (mX5_in l G x 0 20 ) (va_cwS 3 hts gX5_column_X5_in rfl rfl rfl (by decide +kernel) ⟨Nat.le_of_ble_eq_true rfl, Nat.le_of_ble_eq_true rfl⟩) hK rfl hl.1 rfl (Nat.le_of_ble_eq_true rfl) dX5_column_12 ⟨Nat.zero_le _, Nat.zero_le _⟩ (fun r hr => ?_)
    subst hr
    refine x_if_eq (P := wiP x 0 20) (tgt := 38) hx hb dX5_column_15 (by decide) (fun c15 => ?_) (fun c15 => ?_)
    · skip
      refine lv_iconst (v := 0) hx hb dX5_column_38 (by decide) ?_
      have eF : mcoF k x y z g0 = g0 := if_neg (fun h => c15 h.2.1)
      rw [eF] at hq
      exact hq 0 H locs 39 ls dX5_column_39 rfl ((b2_f (fun h => c15 h.2.1)).symm) (by skip; exact hP) (by skip; exact hD) hS
    · skip
      refine lv_iload_n hx hb dX5_column_18 rfl (lv_at hl 3 rfl) ?_
      refine lv_iconst (v := 0) hx hb dX5_column_19 (by decide) ?_
      refine lv_iconst (v := 5) hx hb dX5_column_20 (by decide) ?_
      refine x_callS (As := [.int y, .int 0, .int 5]) (rest := []) ⟨hx, hb, hml, hown, hts⟩ (mX5_in l G y 0 5 ) (va_cwS 3 hts gX5_column_X5_in rfl rfl rfl (by decide +kernel) ⟨Nat.le_of_ble_eq_true rfl, Nat.le_of_ble_eq_true rfl⟩) hK rfl hl.1 rfl (Nat.le_of_ble_eq_true rfl) dX5_column_21 ⟨Nat.zero_le _, Nat.zero_le _⟩ (fun r hr => ?_)
      subst hr
      refine x_if_eq (P := wiP y 0 5) (tgt := 38) hx hb dX5_column_24 (by decide) (fun c24 => ?_) (fun c24 => ?_)
      · skip
        refine lv_iconst (v := 0) hx hb dX5_column_38 (by decide) ?_
        have eF : mcoF k x y z g0 = g0 := if_neg (fun h => c24 h.2.2.1)
        rw [eF] at hq
        exact hq 0 H locs 39 ls dX5_column_39 rfl ((b2_f (fun h => c24 h.2.2.1)).symm) (by skip; exact hP) (by skip; exact hD) hS
      · skip
        refine lv_iload hx hb dX5_column_27 (lv_at hl 4 rfl) ?_
        refine lv_iconst (v := 0) hx hb dX5_column_29 (by decide) ?_
        refine lv_bipush (v := 20) hx hb dX5_column_30 (by decide) ?_
        refine x_callS (As := [.int z, .int 0, .int 20]) (rest := []) ⟨hx, hb, hml, hown, hts⟩ (mX5_in l G z 0 20 ) (va_cwS 3 hts gX5_column_X5_in rfl rfl rfl (by decide +kernel) ⟨Nat.le_of_ble_eq_true rfl, Nat.le_of_ble_eq_true rfl⟩) hK rfl hl.1 rfl (Nat.le_of_ble_eq_true rfl) dX5_column_32 ⟨Nat.zero_le _, Nat.zero_le _⟩ (fun r hr => ?_)
        subst hr
        refine x_if_ne (P := wiP z 0 20) (tgt := 40) hx hb dX5_column_35 (by decide) (fun c35 => ?_) (fun c35 => ?_)
        · skip
          have hv : coQ k x y z (gK g0) := ⟨c5, c15, c24, c35⟩
          have hk := vp_of c5.1 c5.2 (by omega)
          have hkb : k.toNatClampNeg < gK g0 := vp_lt hk
          refine lv_aload_n hx hb dX5_column_40 rfl (lv_at hl 0 rfl) ?_
          refine va_get (D := xD G) (ci := 5) (v := .ref (ma 2)) (C := RX5) (T := TX5) (N := 42) hx hb hts inX5 hown hK hP 0 rfl rfl 2 (by decide) kl13 (fun _ h9 => h9) rfl dX5_column_41 ?_
          refine lv_iload_n hx hb dX5_column_44 rfl (lv_at hl 1 rfl) ?_
          refine x_top (y := nI k.toNatClampNeg) (nI_self hk) ?_
          refine lv_iload_n hx hb dX5_column_45 rfl (lv_at hl 2 rfl) ?_
          refine x_iast (i := k.toNatClampNeg) hx hb hK hP hD hS 1 rfl (by first | omega | assumption) (by omega) dX5_column_46 (fun H locs hP hD hS => ?_)
          have hP : va_P (xD G) vwCl [oModel mA ma (nI (gK g0)) (nI (gN g0)) (gLp g0) (gOp g0) (gRp g0) (gRa g0) (nI (mK (gZ g0))) (mE (gZ g0)) (mM (gZ g0)) (mV (gZ g0)) (nI (mH (gZ g0))) (gFr g0) (gBu g0) (gBs g0), xI G (ma 2) 4 (upd (gLl g0) k.toNatClampNeg x), xI G (ma 3) 4 (gLn g0), xI G (ma 4) 4 (gLh g0), xI G (ma 6) 4 (gOl g0), xI G (ma 7) 4 (gOn g0), xI G (ma 8) 4 (gOh g0), xI G (ma 10) 16 (gDay g0), xZ G (ma 11) 16 (gUrg g0), xI G (ma 12) 64 (gSzs g0), xI G (ma 13) 16 (gWai g0), xI G (ma 14) 16 (gFro g0), xI G (ma 15) 16 (gBto g0), xI G (ma 16) 4 (gRl g0), xI G (ma 17) 4 (gRn g0), xI G (ma 18) 4 (gRh g0), xI G (ma 21) 16 (mP (gZ g0)), xI G (ma 22) 16 (mL (gZ g0)), xZ G (ma 23) 16 (mT (gZ g0)), xI G (ma 24) 16 (mN (gZ g0)), xI G (ma 25) 16 (mX (gZ g0)), xZ G (ma 26) 16 (mB (gZ g0)), xI G (ma 27) 16 (mD (gZ g0)), xZ G (ma 28) 16 (mW (gZ g0)), xI G (ma 29) 16 (mR (gZ g0)), xI G (ma 30) 80 (mS (gZ g0)), xI G (ma 36) 16 (gHp g0), xI G (ma 37) 16 (gHq g0), xI G (ma 41) 4 (gBo g0)] H := hP
          have hD : va_D A [oModel mA ma (nI (gK g0)) (nI (gN g0)) (gLp g0) (gOp g0) (gRp g0) (gRa g0) (nI (mK (gZ g0))) (mE (gZ g0)) (mM (gZ g0)) (mV (gZ g0)) (nI (mH (gZ g0))) (gFr g0) (gBu g0) (gBs g0), xI G (ma 2) 4 (upd (gLl g0) k.toNatClampNeg x), xI G (ma 3) 4 (gLn g0), xI G (ma 4) 4 (gLh g0), xI G (ma 6) 4 (gOl g0), xI G (ma 7) 4 (gOn g0), xI G (ma 8) 4 (gOh g0), xI G (ma 10) 16 (gDay g0), xZ G (ma 11) 16 (gUrg g0), xI G (ma 12) 64 (gSzs g0), xI G (ma 13) 16 (gWai g0), xI G (ma 14) 16 (gFro g0), xI G (ma 15) 16 (gBto g0), xI G (ma 16) 4 (gRl g0), xI G (ma 17) 4 (gRn g0), xI G (ma 18) 4 (gRh g0), xI G (ma 21) 16 (mP (gZ g0)), xI G (ma 22) 16 (mL (gZ g0)), xZ G (ma 23) 16 (mT (gZ g0)), xI G (ma 24) 16 (mN (gZ g0)), xI G (ma 25) 16 (mX (gZ g0)), xZ G (ma 26) 16 (mB (gZ g0)), xI G (ma 27) 16 (mD (gZ g0)), xZ G (ma 28) 16 (mW (gZ g0)), xI G (ma 29) 16 (mR (gZ g0)), xI G (ma 30) 80 (mS (gZ g0)), xI G (ma 36) 16 (gHp g0), xI G (ma 37) 16 (gHq g0), xI G (ma 41) 4 (gBo g0)] := hD
          refine lv_aload_n hx hb dX5_column_47 rfl (lv_at hl 0 rfl) ?_
          refine va_get (D := xD G) (ci := 5) (v := .ref (ma 3)) (C := RX5) (T := TX5) (N := 42) hx hb hts inX5 hown hK hP 0 rfl rfl 3 (by decide) kl17 (fun _ h9 => h9) rfl dX5_column_48 ?_
          refine lv_iload_n hx hb dX5_column_51 rfl (lv_at hl 1 rfl) ?_
          refine x_top (y := nI k.toNatClampNeg) (nI_self hk) ?_
          refine lv_iload_n hx hb dX5_column_52 rfl (lv_at hl 3 rfl) ?_
          refine x_iast (i := k.toNatClampNeg) hx hb hK hP hD hS 2 rfl (by first | omega | assumption) (by omega) dX5_column_53 (fun H locs hP hD hS => ?_)
          have hP : va_P (xD G) vwCl [oModel mA ma (nI (gK g0)) (nI (gN g0)) (gLp g0) (gOp g0) (gRp g0) (gRa g0) (nI (mK (gZ g0))) (mE (gZ g0)) (mM (gZ g0)) (mV (gZ g0)) (nI (mH (gZ g0))) (gFr g0) (gBu g0) (gBs g0), xI G (ma 2) 4 (upd (gLl g0) k.toNatClampNeg x), xI G (ma 3) 4 (upd (gLn g0) k.toNatClampNeg y), xI G (ma 4) 4 (gLh g0), xI G (ma 6) 4 (gOl g0), xI G (ma 7) 4 (gOn g0), xI G (ma 8) 4 (gOh g0), xI G (ma 10) 16 (gDay g0), xZ G (ma 11) 16 (gUrg g0), xI G (ma 12) 64 (gSzs g0), xI G (ma 13) 16 (gWai g0), xI G (ma 14) 16 (gFro g0), xI G (ma 15) 16 (gBto g0), xI G (ma 16) 4 (gRl g0), xI G (ma 17) 4 (gRn g0), xI G (ma 18) 4 (gRh g0), xI G (ma 21) 16 (mP (gZ g0)), xI G (ma 22) 16 (mL (gZ g0)), xZ G (ma 23) 16 (mT (gZ g0)), xI G (ma 24) 16 (mN (gZ g0)), xI G (ma 25) 16 (mX (gZ g0)), xZ G (ma 26) 16 (mB (gZ g0)), xI G (ma 27) 16 (mD (gZ g0)), xZ G (ma 28) 16 (mW (gZ g0)), xI G (ma 29) 16 (mR (gZ g0)), xI G (ma 30) 80 (mS (gZ g0)), xI G (ma 36) 16 (gHp g0), xI G (ma 37) 16 (gHq g0), xI G (ma 41) 4 (gBo g0)] H := hP
          have hD : va_D A [oModel mA ma (nI (gK g0)) (nI (gN g0)) (gLp g0) (gOp g0) (gRp g0) (gRa g0) (nI (mK (gZ g0))) (mE (gZ g0)) (mM (gZ g0)) (mV (gZ g0)) (nI (mH (gZ g0))) (gFr g0) (gBu g0) (gBs g0), xI G (ma 2) 4 (upd (gLl g0) k.toNatClampNeg x), xI G (ma 3) 4 (upd (gLn g0) k.toNatClampNeg y), xI G (ma 4) 4 (gLh g0), xI G (ma 6) 4 (gOl g0), xI G (ma 7) 4 (gOn g0), xI G (ma 8) 4 (gOh g0), xI G (ma 10) 16 (gDay g0), xZ G (ma 11) 16 (gUrg g0), xI G (ma 12) 64 (gSzs g0), xI G (ma 13) 16 (gWai g0), xI G (ma 14) 16 (gFro g0), xI G (ma 15) 16 (gBto g0), xI G (ma 16) 4 (gRl g0), xI G (ma 17) 4 (gRn g0), xI G (ma 18) 4 (gRh g0), xI G (ma 21) 16 (mP (gZ g0)), xI G (ma 22) 16 (mL (gZ g0)), xZ G (ma 23) 16 (mT (gZ g0)), xI G (ma 24) 16 (mN (gZ g0)), xI G (ma 25) 16 (mX (gZ g0)), xZ G (ma 26) 16 (mB (gZ g0)), xI G (ma 27) 16 (mD (gZ g0)), xZ G (ma 28) 16 (mW (gZ g0)), xI G (ma 29) 16 (mR (gZ g0)), xI G (ma 30) 80 (mS (gZ g0)), xI G (ma 36) 16 (gHp g0), xI G (ma 37) 16 (gHq g0), xI G (ma 41) 4 (gBo g0)] := hD
          refine lv_aload_n hx hb dX5_column_54 rfl (lv_at hl 0 rfl) ?_
          refine va_get (D := xD G) (ci := 5) (v := .ref (ma 4)) (C := RX5) (T := TX5) (N := 42) hx hb hts inX5 hown hK hP 0 rfl rfl 4 (by decide) kl20 (fun _ h9 => h9) rfl dX5_column_55 ?_
          refine lv_iload_n hx hb dX5_column_58 rfl (lv_at hl 1 rfl) ?_
          refine x_top (y := nI k.toNatClampNeg) (nI_self hk) ?_
          refine lv_iload hx hb dX5_column_59 (lv_at hl 4 rfl) ?_
          refine x_iast (i := k.toNatClampNeg) hx hb hK hP hD hS 3 rfl (by first | omega | assumption) (by omega) dX5_column_61 (fun H locs hP hD hS => ?_)
          have hP : va_P (xD G) vwCl [oModel mA ma (nI (gK g0)) (nI (gN g0)) (gLp g0) (gOp g0) (gRp g0) (gRa g0) (nI (mK (gZ g0))) (mE (gZ g0)) (mM (gZ g0)) (mV (gZ g0)) (nI (mH (gZ g0))) (gFr g0) (gBu g0) (gBs g0), xI G (ma 2) 4 (upd (gLl g0) k.toNatClampNeg x), xI G (ma 3) 4 (upd (gLn g0) k.toNatClampNeg y), xI G (ma 4) 4 (upd (gLh g0) k.toNatClampNeg z), xI G (ma 6) 4 (gOl g0), xI G (ma 7) 4 (gOn g0), xI G (ma 8) 4 (gOh g0), xI G (ma 10) 16 (gDay g0), xZ G (ma 11) 16 (gUrg g0), xI G (ma 12) 64 (gSzs g0), xI G (ma 13) 16 (gWai g0), xI G (ma 14) 16 (gFro g0), xI G (ma 15) 16 (gBto g0), xI G (ma 16) 4 (gRl g0), xI G (ma 17) 4 (gRn g0), xI G (ma 18) 4 (gRh g0), xI G (ma 21) 16 (mP (gZ g0)), xI G (ma 22) 16 (mL (gZ g0)), xZ G (ma 23) 16 (mT (gZ g0)), xI G (ma 24) 16 (mN (gZ g0)), xI G (ma 25) 16 (mX (gZ g0)), xZ G (ma 26) 16 (mB (gZ g0)), xI G (ma 27) 16 (mD (gZ g0)), xZ G (ma 28) 16 (mW (gZ g0)), xI G (ma 29) 16 (mR (gZ g0)), xI G (ma 30) 80 (mS (gZ g0)), xI G (ma 36) 16 (gHp g0), xI G (ma 37) 16 (gHq g0), xI G (ma 41) 4 (gBo g0)] H := hP
          have hD : va_D A [oModel mA ma (nI (gK g0)) (nI (gN g0)) (gLp g0) (gOp g0) (gRp g0) (gRa g0) (nI (mK (gZ g0))) (mE (gZ g0)) (mM (gZ g0)) (mV (gZ g0)) (nI (mH (gZ g0))) (gFr g0) (gBu g0) (gBs g0), xI G (ma 2) 4 (upd (gLl g0) k.toNatClampNeg x), xI G (ma 3) 4 (upd (gLn g0) k.toNatClampNeg y), xI G (ma 4) 4 (upd (gLh g0) k.toNatClampNeg z), xI G (ma 6) 4 (gOl g0), xI G (ma 7) 4 (gOn g0), xI G (ma 8) 4 (gOh g0), xI G (ma 10) 16 (gDay g0), xZ G (ma 11) 16 (gUrg g0), xI G (ma 12) 64 (gSzs g0), xI G (ma 13) 16 (gWai g0), xI G (ma 14) 16 (gFro g0), xI G (ma 15) 16 (gBto g0), xI G (ma 16) 4 (gRl g0), xI G (ma 17) 4 (gRn g0), xI G (ma 18) 4 (gRh g0), xI G (ma 21) 16 (mP (gZ g0)), xI G (ma 22) 16 (mL (gZ g0)), xZ G (ma 23) 16 (mT (gZ g0)), xI G (ma 24) 16 (mN (gZ g0)), xI G (ma 25) 16 (mX (gZ g0)), xZ G (ma 26) 16 (mB (gZ g0)), xI G (ma 27) 16 (mD (gZ g0)), xZ G (ma 28) 16 (mW (gZ g0)), xI G (ma 29) 16 (mR (gZ g0)), xI G (ma 30) 80 (mS (gZ g0)), xI G (ma 36) 16 (gHp g0), xI G (ma 37) 16 (gHq g0), xI G (ma 41) 4 (gBo g0)] := hD
          refine lv_aload_n hx hb dX5_column_62 rfl (lv_at hl 0 rfl) ?_
          refine lv_iload_n hx hb dX5_column_63 rfl (lv_at hl 1 rfl) ?_
          refine x_top (y := nI k.toNatClampNeg) (nI_self hk) ?_
          refine x_callM (As := [.int (nI k.toNatClampNeg)]) (rest := []) (w2 := [oModel mA ma (nI (gK g0)) (nI (gN g0)) (gLp g0) (gOp g0) (gRp g0) (gRa g0) (nI (mK (gZ g0))) (mE (gZ g0)) (mM (gZ g0)) (mV (gZ g0)) (nI (mH (gZ g0))) (gFr g0) (gBu g0) (gBs g0), xI G (ma 2) 4 (upd (gLl g0) k.toNatClampNeg x), xI G (ma 3) 4 (upd (gLn g0) k.toNatClampNeg y), xI G (ma 4) 4 (upd (gLh g0) k.toNatClampNeg z), xI G (ma 6) 4 (upd (gOl g0) k.toNatClampNeg (-1)), xI G (ma 7) 4 (upd (gOn g0) k.toNatClampNeg (-1)), xI G (ma 8) 4 (upd (gOh g0) k.toNatClampNeg (-1)), xI G (ma 10) 16 (gDay g0), xZ G (ma 11) 16 (gUrg g0), xI G (ma 12) 64 (gSzs g0), xI G (ma 13) 16 (gWai g0), xI G (ma 14) 16 (gFro g0), xI G (ma 15) 16 (gBto g0), xI G (ma 16) 4 (gRl g0), xI G (ma 17) 4 (gRn g0), xI G (ma 18) 4 (gRh g0), xI G (ma 21) 16 (mP (gZ g0)), xI G (ma 22) 16 (mL (gZ g0)), xZ G (ma 23) 16 (mT (gZ g0)), xI G (ma 24) 16 (mN (gZ g0)), xI G (ma 25) 16 (mX (gZ g0)), xZ G (ma 26) 16 (mB (gZ g0)), xI G (ma 27) 16 (mD (gZ g0)), xZ G (ma 28) 16 (mW (gZ g0)), xI G (ma 29) 16 (mR (gZ g0)), xI G (ma 30) 80 (mS (gZ g0)), xI G (ma 36) 16 (gHp g0), xI G (ma 37) 16 (gHq g0), xI G (ma 41) 4 (gBo g0)]) (wr := [xI G (ma 2) 4 (upd (gLl g0) k.toNatClampNeg x), xI G (ma 3) 4 (upd (gLn g0) k.toNatClampNeg y), xI G (ma 4) 4 (upd (gLh g0) k.toNatClampNeg z), xI G (ma 10) 16 (gDay g0), xZ G (ma 11) 16 (gUrg g0), xI G (ma 12) 64 (gSzs g0), xI G (ma 13) 16 (gWai g0), xI G (ma 14) 16 (gFro g0), xI G (ma 15) 16 (gBto g0), xI G (ma 16) 4 (gRl g0), xI G (ma 17) 4 (gRn g0), xI G (ma 18) 4 (gRh g0), xI G (ma 21) 16 (mP (gZ g0)), xI G (ma 22) 16 (mL (gZ g0)), xZ G (ma 23) 16 (mT (gZ g0)), xI G (ma 24) 16 (mN (gZ g0)), xI G (ma 25) 16 (mX (gZ g0)), xZ G (ma 26) 16 (mB (gZ g0)), xI G (ma 27) 16 (mD (gZ g0)), xZ G (ma 28) 16 (mW (gZ g0)), xI G (ma 29) 16 (mR (gZ g0)), xI G (ma 30) 80 (mS (gZ g0)), xI G (ma 36) 16 (gHp g0), xI G (ma 37) 16 (gHq g0), xI G (ma 41) 4 (gBo g0)]) (ci := 5) (q0 := 0) ⟨hx, hb, hml, hown, hts⟩ (mX5_noOther l G mA ma (nI (gK g0)) (nI (gN g0)) (gLp g0) (gOp g0) (gRp g0) (gRa g0) (nI (mK (gZ g0))) (mE (gZ g0)) (mM (gZ g0)) (mV (gZ g0)) (nI (mH (gZ g0))) (gFr g0) (gBu g0) (gBs g0) (gOl g0) (gOn g0) (gOh g0) k.toNatClampNeg (by first | assumption | omega)) (cwV 1 hts gX5_column_X5_noOther rfl rfl rfl (by decide +kernel) ⟨Nat.le_of_ble_eq_true rfl, Nat.le_of_ble_eq_true rfl⟩) hK hP hD hS hA [0, 4, 5, 6] [1, 2, 3, 7, 8, 9, 10, 11, 12, 13, 14, 15, 16, 17, 18, 19, 20, 21, 22, 23, 24, 25, 26, 27, 28] [25, 0, 1, 2, 26, 27, 28, 3, 4, 5, 6, 7, 8, 9, 10, 11, 12, 13, 14, 15, 16, 17, 18, 19, 20, 21, 22, 23, 24] rfl rfl rfl rfl rfl (by decide) rfl rfl rfl rfl rfl rfl rfl hl.1 rfl (Nat.le_of_ble_eq_true rfl) dX5_column_64 ⟨Nat.zero_le _, Nat.zero_le _⟩ (fun H locs hP hD hS => ?_)
          refine lv_aload_n hx hb dX5_column_67 rfl (lv_at hl 0 rfl) ?_
          refine lv_iconst (v := 0) hx hb dX5_column_68 (by decide) ?_
          refine va_put (D := xD G) (ci := 5) (v := .int 0) (ty := .boolean) (C := RX5) (T := TX5) (N := 42) hx hb hts inX5 tyX5 tyX5_ok nmX5 hown hK hP hD hS 0 rfl rfl 38 (by decide) kl116 (fun _ h9 => h9) rfl (by decide +kernel) rfl rfl (Nat.le_of_ble_eq_true rfl) dX5_column_69 (fun H locs hP hD hS => ?_)
          have hP : va_P (xD G) vwCl [oModel mA ma (nI (gK g0)) (nI (gN g0)) (gLp g0) (gOp g0) (gRp g0) (gRa g0) (nI (mK (gZ g0))) (mE (gZ g0)) (mM (gZ g0)) (mV (gZ g0)) (nI (mH (gZ g0))) 0 (gBu g0) (gBs g0), xI G (ma 2) 4 (upd (gLl g0) k.toNatClampNeg x), xI G (ma 3) 4 (upd (gLn g0) k.toNatClampNeg y), xI G (ma 4) 4 (upd (gLh g0) k.toNatClampNeg z), xI G (ma 6) 4 (upd (gOl g0) k.toNatClampNeg (-1)), xI G (ma 7) 4 (upd (gOn g0) k.toNatClampNeg (-1)), xI G (ma 8) 4 (upd (gOh g0) k.toNatClampNeg (-1)), xI G (ma 10) 16 (gDay g0), xZ G (ma 11) 16 (gUrg g0), xI G (ma 12) 64 (gSzs g0), xI G (ma 13) 16 (gWai g0), xI G (ma 14) 16 (gFro g0), xI G (ma 15) 16 (gBto g0), xI G (ma 16) 4 (gRl g0), xI G (ma 17) 4 (gRn g0), xI G (ma 18) 4 (gRh g0), xI G (ma 21) 16 (mP (gZ g0)), xI G (ma 22) 16 (mL (gZ g0)), xZ G (ma 23) 16 (mT (gZ g0)), xI G (ma 24) 16 (mN (gZ g0)), xI G (ma 25) 16 (mX (gZ g0)), xZ G (ma 26) 16 (mB (gZ g0)), xI G (ma 27) 16 (mD (gZ g0)), xZ G (ma 28) 16 (mW (gZ g0)), xI G (ma 29) 16 (mR (gZ g0)), xI G (ma 30) 80 (mS (gZ g0)), xI G (ma 36) 16 (gHp g0), xI G (ma 37) 16 (gHq g0), xI G (ma 41) 4 (gBo g0)] H := hP
          have hD : va_D A [oModel mA ma (nI (gK g0)) (nI (gN g0)) (gLp g0) (gOp g0) (gRp g0) (gRa g0) (nI (mK (gZ g0))) (mE (gZ g0)) (mM (gZ g0)) (mV (gZ g0)) (nI (mH (gZ g0))) 0 (gBu g0) (gBs g0), xI G (ma 2) 4 (upd (gLl g0) k.toNatClampNeg x), xI G (ma 3) 4 (upd (gLn g0) k.toNatClampNeg y), xI G (ma 4) 4 (upd (gLh g0) k.toNatClampNeg z), xI G (ma 6) 4 (upd (gOl g0) k.toNatClampNeg (-1)), xI G (ma 7) 4 (upd (gOn g0) k.toNatClampNeg (-1)), xI G (ma 8) 4 (upd (gOh g0) k.toNatClampNeg (-1)), xI G (ma 10) 16 (gDay g0), xZ G (ma 11) 16 (gUrg g0), xI G (ma 12) 64 (gSzs g0), xI G (ma 13) 16 (gWai g0), xI G (ma 14) 16 (gFro g0), xI G (ma 15) 16 (gBto g0), xI G (ma 16) 4 (gRl g0), xI G (ma 17) 4 (gRn g0), xI G (ma 18) 4 (gRh g0), xI G (ma 21) 16 (mP (gZ g0)), xI G (ma 22) 16 (mL (gZ g0)), xZ G (ma 23) 16 (mT (gZ g0)), xI G (ma 24) 16 (mN (gZ g0)), xI G (ma 25) 16 (mX (gZ g0)), xZ G (ma 26) 16 (mB (gZ g0)), xI G (ma 27) 16 (mD (gZ g0)), xZ G (ma 28) 16 (mW (gZ g0)), xI G (ma 29) 16 (mR (gZ g0)), xI G (ma 30) 80 (mS (gZ g0)), xI G (ma 36) 16 (gHp g0), xI G (ma 37) 16 (gHq g0), xI G (ma 41) 4 (gBo g0)] := hD
          refine lv_iconst (v := 1) hx hb dX5_column_72 (by decide) ?_
          have eF : mcoF k x y z g0 = mcoT k.toNatClampNeg x y z g0 := if_pos hv
          rw [eF] at hq
          exact hq 1 H locs 73 ls dX5_column_73 rfl ((b2_t hv).symm) (by skip; exact hP) (by skip; exact hD) hS
        · skip
          refine lv_iconst (v := 0) hx hb dX5_column_38 (by decide) ?_
          have eF : mcoF k x y z g0 = g0 := if_neg (fun h => c35 h.2.2.2)
          rw [eF] at hq
          exact hq 0 H locs 39 ls dX5_column_39 rfl ((b2_f (fun h => c35 h.2.2.2)).symm) (by skip; exact hP) (by skip; exact hD) hS
set_option maxHeartbeats 4000000 in
set_option maxRecDepth 100000 in
theorem mX5_pace (l : Launch) (G : xG) (mA : Nat) (ma : Nat → Nat) (g0 : MM) (v : Int32)  (hG : GI g0) : xN l yX5_pace wsX5_pace ({ frames := 1, cells := 0, slots := 0, locals := 22 } : Room) [.ref mA, .int v] G [oModel mA ma (nI (gK g0)) (nI (gN g0)) (gLp g0) (gOp g0) (gRp g0) (gRa g0) (nI (mK (gZ g0))) (mE (gZ g0)) (mM (gZ g0)) (mV (gZ g0)) (nI (mH (gZ g0))) (gFr g0) (gBu g0) (gBs g0), xI G (ma 2) 4 (gLl g0), xI G (ma 3) 4 (gLn g0), xI G (ma 4) 4 (gLh g0), xI G (ma 6) 4 (gOl g0), xI G (ma 7) 4 (gOn g0), xI G (ma 8) 4 (gOh g0), xI G (ma 10) 16 (gDay g0), xZ G (ma 11) 16 (gUrg g0), xI G (ma 12) 64 (gSzs g0), xI G (ma 13) 16 (gWai g0), xI G (ma 14) 16 (gFro g0), xI G (ma 15) 16 (gBto g0), xI G (ma 16) 4 (gRl g0), xI G (ma 17) 4 (gRn g0), xI G (ma 18) 4 (gRh g0), xI G (ma 21) 16 (mP (gZ g0)), xI G (ma 22) 16 (mL (gZ g0)), xZ G (ma 23) 16 (mT (gZ g0)), xI G (ma 24) 16 (mN (gZ g0)), xI G (ma 25) 16 (mX (gZ g0)), xZ G (ma 26) 16 (mB (gZ g0)), xI G (ma 27) 16 (mD (gZ g0)), xZ G (ma 28) 16 (mW (gZ g0)), xI G (ma 29) 16 (mR (gZ g0)), xI G (ma 30) 80 (mS (gZ g0)), xI G (ma 36) 16 (gHp g0), xI G (ma 37) 16 (gHq g0), xI G (ma 41) 4 (gBo g0)] [oModel mA ma (nI (gK (mpaF v g0))) (nI (gN (mpaF v g0))) (gLp (mpaF v g0)) (gOp (mpaF v g0)) (gRp (mpaF v g0)) (gRa (mpaF v g0)) (nI (mK (gZ (mpaF v g0)))) (mE (gZ (mpaF v g0))) (mM (gZ (mpaF v g0))) (mV (gZ (mpaF v g0))) (nI (mH (gZ (mpaF v g0)))) (gFr (mpaF v g0)) (gBu (mpaF v g0)) (gBs (mpaF v g0)), xI G (ma 2) 4 (gLl (mpaF v g0)), xI G (ma 3) 4 (gLn (mpaF v g0)), xI G (ma 4) 4 (gLh (mpaF v g0)), xI G (ma 6) 4 (gOl (mpaF v g0)), xI G (ma 7) 4 (gOn (mpaF v g0)), xI G (ma 8) 4 (gOh (mpaF v g0)), xI G (ma 10) 16 (gDay (mpaF v g0)), xZ G (ma 11) 16 (gUrg (mpaF v g0)), xI G (ma 12) 64 (gSzs (mpaF v g0)), xI G (ma 13) 16 (gWai (mpaF v g0)), xI G (ma 14) 16 (gFro (mpaF v g0)), xI G (ma 15) 16 (gBto (mpaF v g0)), xI G (ma 16) 4 (gRl (mpaF v g0)), xI G (ma 17) 4 (gRn (mpaF v g0)), xI G (ma 18) 4 (gRh (mpaF v g0)), xI G (ma 21) 16 (mP (gZ (mpaF v g0))), xI G (ma 22) 16 (mL (gZ (mpaF v g0))), xZ G (ma 23) 16 (mT (gZ (mpaF v g0))), xI G (ma 24) 16 (mN (gZ (mpaF v g0))), xI G (ma 25) 16 (mX (gZ (mpaF v g0))), xZ G (ma 26) 16 (mB (gZ (mpaF v g0))), xI G (ma 27) 16 (mD (gZ (mpaF v g0))), xZ G (ma 28) 16 (mW (gZ (mpaF v g0))), xI G (ma 29) 16 (mR (gZ (mpaF v g0))), xI G (ma 30) 80 (mS (gZ (mpaF v g0))), xI G (ma 36) 16 (gHp (mpaF v g0)), xI G (ma 37) 16 (gHq (mpaF v g0)), xI G (ma 41) 4 (gBo (mpaF v g0))] (b2 (wiP v 1 9)) := by
  refine xN_of (cc := cX5_pace) (maxL := 2) (ty := .boolean) (by decide) rfl (Nat.le_of_ble_eq_true rfl) ?_
  intro p e s m below meth cO ls Q A hx hb hml hown hts hP hK hD hS hA hl hq
  have hown : s.vm.findClass RX5 = some m.cls := hown
  have kl23 := hts (.fieldLink RX5 23 "WorkBoardModel" "pace" "I") (List.mem_of_getElem? (i := 1) rfl)
  have kl116 := hts (.fieldLink RX5 116 "WorkBoardModel" "isFresh" "Z") (List.mem_of_getElem? (i := 2) rfl)
  have inX5 : ∀ w ∈ u_ws RX5 TX5 42, w ∈ wsX5_pace := (fun w h => List.mem_cons_of_mem _ (List.mem_append_right _ h))
  obtain ⟨hn, hnc, hw, hcm⟩ := id hG
  have hl : lv_has ls 2 [(0, .ref mA), (1, .int v)] := hl
  have hD : va_D A [oModel mA ma (nI (gK g0)) (nI (gN g0)) (gLp g0) (gOp g0) (gRp g0) (gRa g0) (nI (mK (gZ g0))) (mE (gZ g0)) (mM (gZ g0)) (mV (gZ g0)) (nI (mH (gZ g0))) (gFr g0) (gBu g0) (gBs g0), xI G (ma 2) 4 (gLl g0), xI G (ma 3) 4 (gLn g0), xI G (ma 4) 4 (gLh g0), xI G (ma 6) 4 (gOl g0), xI G (ma 7) 4 (gOn g0), xI G (ma 8) 4 (gOh g0), xI G (ma 10) 16 (gDay g0), xZ G (ma 11) 16 (gUrg g0), xI G (ma 12) 64 (gSzs g0), xI G (ma 13) 16 (gWai g0), xI G (ma 14) 16 (gFro g0), xI G (ma 15) 16 (gBto g0), xI G (ma 16) 4 (gRl g0), xI G (ma 17) 4 (gRn g0), xI G (ma 18) 4 (gRh g0), xI G (ma 21) 16 (mP (gZ g0)), xI G (ma 22) 16 (mL (gZ g0)), xZ G (ma 23) 16 (mT (gZ g0)), xI G (ma 24) 16 (mN (gZ g0)), xI G (ma 25) 16 (mX (gZ g0)), xZ G (ma 26) 16 (mB (gZ g0)), xI G (ma 27) 16 (mD (gZ g0)), xZ G (ma 28) 16 (mW (gZ g0)), xI G (ma 29) 16 (mR (gZ g0)), xI G (ma 30) 80 (mS (gZ g0)), xI G (ma 36) 16 (gHp g0), xI G (ma 37) 16 (gHq g0), xI G (ma 41) 4 (gBo g0)] := hD
  obtain ⟨H, hH⟩ : ∃ z, z = s.heap := ⟨_, rfl⟩
  obtain ⟨locs, hlocs⟩ : ∃ z : List Loc, z = [] := ⟨_, rfl⟩
  have hS : va_S A s.heap H locs := by rw [hH, hlocs]; exact hS
  have hP : va_P (xD G) vwCl [oModel mA ma (nI (gK g0)) (nI (gN g0)) (gLp g0) (gOp g0) (gRp g0) (gRa g0) (nI (mK (gZ g0))) (mE (gZ g0)) (mM (gZ g0)) (mV (gZ g0)) (nI (mH (gZ g0))) (gFr g0) (gBu g0) (gBs g0), xI G (ma 2) 4 (gLl g0), xI G (ma 3) 4 (gLn g0), xI G (ma 4) 4 (gLh g0), xI G (ma 6) 4 (gOl g0), xI G (ma 7) 4 (gOn g0), xI G (ma 8) 4 (gOh g0), xI G (ma 10) 16 (gDay g0), xZ G (ma 11) 16 (gUrg g0), xI G (ma 12) 64 (gSzs g0), xI G (ma 13) 16 (gWai g0), xI G (ma 14) 16 (gFro g0), xI G (ma 15) 16 (gBto g0), xI G (ma 16) 4 (gRl g0), xI G (ma 17) 4 (gRn g0), xI G (ma 18) 4 (gRh g0), xI G (ma 21) 16 (mP (gZ g0)), xI G (ma 22) 16 (mL (gZ g0)), xZ G (ma 23) 16 (mT (gZ g0)), xI G (ma 24) 16 (mN (gZ g0)), xI G (ma 25) 16 (mX (gZ g0)), xZ G (ma 26) 16 (mB (gZ g0)), xI G (ma 27) 16 (mD (gZ g0)), xZ G (ma 28) 16 (mW (gZ g0)), xI G (ma 29) 16 (mR (gZ g0)), xI G (ma 30) 80 (mS (gZ g0)), xI G (ma 36) 16 (gHp g0), xI G (ma 37) 16 (gHq g0), xI G (ma 41) 4 (gBo g0)] H := by rw [hH]; exact hP
  rw [← hH, ← hlocs]
  clear hH hlocs
  refine lv_iload_n hx hb dX5_pace_0 rfl (lv_at hl 1 rfl) ?_
  refine lv_iconst (v := 1) hx hb dX5_pace_1 (by decide) ?_
  refine lv_bipush (v := 9) hx hb dX5_pace_2 (by decide) ?_
  refine x_callS (As := [.int v, .int 1, .int 9]) (rest := []) ⟨hx, hb, hml, hown, hts⟩ (mX5_in l G v 1 9 ) (va_cwS 3 hts gX5_pace_X5_in rfl rfl rfl (by decide +kernel) ⟨Nat.le_of_ble_eq_true rfl, Nat.le_of_ble_eq_true rfl⟩) hK rfl hl.1 rfl (Nat.le_of_ble_eq_true rfl) dX5_pace_4 ⟨Nat.zero_le _, Nat.zero_le _⟩ (fun r hr => ?_)
  subst hr
  refine x_if_ne (P := wiP v 1 9) (tgt := 12) hx hb dX5_pace_7 (by decide) (fun c7 => ?_) (fun c7 => ?_)
  · skip
    have hv := c7
    refine lv_aload_n hx hb dX5_pace_12 rfl (lv_at hl 0 rfl) ?_
    refine lv_iload_n hx hb dX5_pace_13 rfl (lv_at hl 1 rfl) ?_
    refine va_put (D := xD G) (ci := 5) (v := .int v) (ty := .int) (C := RX5) (T := TX5) (N := 42) hx hb hts inX5 tyX5 tyX5_ok nmX5 hown hK hP hD hS 0 rfl rfl 5 (by decide) kl23 (fun _ h9 => h9) rfl (by decide +kernel) rfl rfl (Nat.le_of_ble_eq_true rfl) dX5_pace_14 (fun H locs hP hD hS => ?_)
    have hP : va_P (xD G) vwCl [oModel mA ma (nI (gK g0)) (nI (gN g0)) v (gOp g0) (gRp g0) (gRa g0) (nI (mK (gZ g0))) (mE (gZ g0)) (mM (gZ g0)) (mV (gZ g0)) (nI (mH (gZ g0))) (gFr g0) (gBu g0) (gBs g0), xI G (ma 2) 4 (gLl g0), xI G (ma 3) 4 (gLn g0), xI G (ma 4) 4 (gLh g0), xI G (ma 6) 4 (gOl g0), xI G (ma 7) 4 (gOn g0), xI G (ma 8) 4 (gOh g0), xI G (ma 10) 16 (gDay g0), xZ G (ma 11) 16 (gUrg g0), xI G (ma 12) 64 (gSzs g0), xI G (ma 13) 16 (gWai g0), xI G (ma 14) 16 (gFro g0), xI G (ma 15) 16 (gBto g0), xI G (ma 16) 4 (gRl g0), xI G (ma 17) 4 (gRn g0), xI G (ma 18) 4 (gRh g0), xI G (ma 21) 16 (mP (gZ g0)), xI G (ma 22) 16 (mL (gZ g0)), xZ G (ma 23) 16 (mT (gZ g0)), xI G (ma 24) 16 (mN (gZ g0)), xI G (ma 25) 16 (mX (gZ g0)), xZ G (ma 26) 16 (mB (gZ g0)), xI G (ma 27) 16 (mD (gZ g0)), xZ G (ma 28) 16 (mW (gZ g0)), xI G (ma 29) 16 (mR (gZ g0)), xI G (ma 30) 80 (mS (gZ g0)), xI G (ma 36) 16 (gHp g0), xI G (ma 37) 16 (gHq g0), xI G (ma 41) 4 (gBo g0)] H := hP
    have hD : va_D A [oModel mA ma (nI (gK g0)) (nI (gN g0)) v (gOp g0) (gRp g0) (gRa g0) (nI (mK (gZ g0))) (mE (gZ g0)) (mM (gZ g0)) (mV (gZ g0)) (nI (mH (gZ g0))) (gFr g0) (gBu g0) (gBs g0), xI G (ma 2) 4 (gLl g0), xI G (ma 3) 4 (gLn g0), xI G (ma 4) 4 (gLh g0), xI G (ma 6) 4 (gOl g0), xI G (ma 7) 4 (gOn g0), xI G (ma 8) 4 (gOh g0), xI G (ma 10) 16 (gDay g0), xZ G (ma 11) 16 (gUrg g0), xI G (ma 12) 64 (gSzs g0), xI G (ma 13) 16 (gWai g0), xI G (ma 14) 16 (gFro g0), xI G (ma 15) 16 (gBto g0), xI G (ma 16) 4 (gRl g0), xI G (ma 17) 4 (gRn g0), xI G (ma 18) 4 (gRh g0), xI G (ma 21) 16 (mP (gZ g0)), xI G (ma 22) 16 (mL (gZ g0)), xZ G (ma 23) 16 (mT (gZ g0)), xI G (ma 24) 16 (mN (gZ g0)), xI G (ma 25) 16 (mX (gZ g0)), xZ G (ma 26) 16 (mB (gZ g0)), xI G (ma 27) 16 (mD (gZ g0)), xZ G (ma 28) 16 (mW (gZ g0)), xI G (ma 29) 16 (mR (gZ g0)), xI G (ma 30) 80 (mS (gZ g0)), xI G (ma 36) 16 (gHp g0), xI G (ma 37) 16 (gHq g0), xI G (ma 41) 4 (gBo g0)] := hD
    refine lv_aload_n hx hb dX5_pace_17 rfl (lv_at hl 0 rfl) ?_
    refine lv_iconst (v := 0) hx hb dX5_pace_18 (by decide) ?_
    refine va_put (D := xD G) (ci := 5) (v := .int 0) (ty := .boolean) (C := RX5) (T := TX5) (N := 42) hx hb hts inX5 tyX5 tyX5_ok nmX5 hown hK hP hD hS 0 rfl rfl 38 (by decide) kl116 (fun _ h9 => h9) rfl (by decide +kernel) rfl rfl (Nat.le_of_ble_eq_true rfl) dX5_pace_19 (fun H locs hP hD hS => ?_)
    have hP : va_P (xD G) vwCl [oModel mA ma (nI (gK g0)) (nI (gN g0)) v (gOp g0) (gRp g0) (gRa g0) (nI (mK (gZ g0))) (mE (gZ g0)) (mM (gZ g0)) (mV (gZ g0)) (nI (mH (gZ g0))) 0 (gBu g0) (gBs g0), xI G (ma 2) 4 (gLl g0), xI G (ma 3) 4 (gLn g0), xI G (ma 4) 4 (gLh g0), xI G (ma 6) 4 (gOl g0), xI G (ma 7) 4 (gOn g0), xI G (ma 8) 4 (gOh g0), xI G (ma 10) 16 (gDay g0), xZ G (ma 11) 16 (gUrg g0), xI G (ma 12) 64 (gSzs g0), xI G (ma 13) 16 (gWai g0), xI G (ma 14) 16 (gFro g0), xI G (ma 15) 16 (gBto g0), xI G (ma 16) 4 (gRl g0), xI G (ma 17) 4 (gRn g0), xI G (ma 18) 4 (gRh g0), xI G (ma 21) 16 (mP (gZ g0)), xI G (ma 22) 16 (mL (gZ g0)), xZ G (ma 23) 16 (mT (gZ g0)), xI G (ma 24) 16 (mN (gZ g0)), xI G (ma 25) 16 (mX (gZ g0)), xZ G (ma 26) 16 (mB (gZ g0)), xI G (ma 27) 16 (mD (gZ g0)), xZ G (ma 28) 16 (mW (gZ g0)), xI G (ma 29) 16 (mR (gZ g0)), xI G (ma 30) 80 (mS (gZ g0)), xI G (ma 36) 16 (gHp g0), xI G (ma 37) 16 (gHq g0), xI G (ma 41) 4 (gBo g0)] H := hP
    have hD : va_D A [oModel mA ma (nI (gK g0)) (nI (gN g0)) v (gOp g0) (gRp g0) (gRa g0) (nI (mK (gZ g0))) (mE (gZ g0)) (mM (gZ g0)) (mV (gZ g0)) (nI (mH (gZ g0))) 0 (gBu g0) (gBs g0), xI G (ma 2) 4 (gLl g0), xI G (ma 3) 4 (gLn g0), xI G (ma 4) 4 (gLh g0), xI G (ma 6) 4 (gOl g0), xI G (ma 7) 4 (gOn g0), xI G (ma 8) 4 (gOh g0), xI G (ma 10) 16 (gDay g0), xZ G (ma 11) 16 (gUrg g0), xI G (ma 12) 64 (gSzs g0), xI G (ma 13) 16 (gWai g0), xI G (ma 14) 16 (gFro g0), xI G (ma 15) 16 (gBto g0), xI G (ma 16) 4 (gRl g0), xI G (ma 17) 4 (gRn g0), xI G (ma 18) 4 (gRh g0), xI G (ma 21) 16 (mP (gZ g0)), xI G (ma 22) 16 (mL (gZ g0)), xZ G (ma 23) 16 (mT (gZ g0)), xI G (ma 24) 16 (mN (gZ g0)), xI G (ma 25) 16 (mX (gZ g0)), xZ G (ma 26) 16 (mB (gZ g0)), xI G (ma 27) 16 (mD (gZ g0)), xZ G (ma 28) 16 (mW (gZ g0)), xI G (ma 29) 16 (mR (gZ g0)), xI G (ma 30) 80 (mS (gZ g0)), xI G (ma 36) 16 (gHp g0), xI G (ma 37) 16 (gHq g0), xI G (ma 41) 4 (gBo g0)] := hD
    refine lv_iconst (v := 1) hx hb dX5_pace_22 (by decide) ?_
    have eF : mpaF v g0 = mpaT v g0 := if_pos hv
    rw [eF] at hq
    exact hq 1 H locs 23 ls dX5_pace_23 rfl ((b2_t hv).symm) (by skip; exact hP) (by skip; exact hD) hS
  · skip
    refine lv_iconst (v := 0) hx hb dX5_pace_10 (by decide) ?_
    have eF : mpaF v g0 = g0 := if_neg (c7)
    rw [eF] at hq
    exact hq 0 H locs 11 ls dX5_pace_11 rfl ((b2_f (c7)).symm) (by skip; exact hP) (by skip; exact hD) hS
set_option maxHeartbeats 4000000 in
set_option maxRecDepth 100000 in
theorem mX5_size (l : Launch) (G : xG) (mA : Nat) (ma : Nat → Nat) (g0 : MM) (w : Int32) (k : Int32) (v : Int32)  (hG : GI g0) : xN l yX5_size wsX5_size ({ frames := 2, cells := 0, slots := 0, locals := 43 } : Room) [.ref mA, .int w, .int k, .int v] G [oModel mA ma (nI (gK g0)) (nI (gN g0)) (gLp g0) (gOp g0) (gRp g0) (gRa g0) (nI (mK (gZ g0))) (mE (gZ g0)) (mM (gZ g0)) (mV (gZ g0)) (nI (mH (gZ g0))) (gFr g0) (gBu g0) (gBs g0), xI G (ma 2) 4 (gLl g0), xI G (ma 3) 4 (gLn g0), xI G (ma 4) 4 (gLh g0), xI G (ma 6) 4 (gOl g0), xI G (ma 7) 4 (gOn g0), xI G (ma 8) 4 (gOh g0), xI G (ma 10) 16 (gDay g0), xZ G (ma 11) 16 (gUrg g0), xI G (ma 12) 64 (gSzs g0), xI G (ma 13) 16 (gWai g0), xI G (ma 14) 16 (gFro g0), xI G (ma 15) 16 (gBto g0), xI G (ma 16) 4 (gRl g0), xI G (ma 17) 4 (gRn g0), xI G (ma 18) 4 (gRh g0), xI G (ma 21) 16 (mP (gZ g0)), xI G (ma 22) 16 (mL (gZ g0)), xZ G (ma 23) 16 (mT (gZ g0)), xI G (ma 24) 16 (mN (gZ g0)), xI G (ma 25) 16 (mX (gZ g0)), xZ G (ma 26) 16 (mB (gZ g0)), xI G (ma 27) 16 (mD (gZ g0)), xZ G (ma 28) 16 (mW (gZ g0)), xI G (ma 29) 16 (mR (gZ g0)), xI G (ma 30) 80 (mS (gZ g0)), xI G (ma 36) 16 (gHp g0), xI G (ma 37) 16 (gHq g0), xI G (ma 41) 4 (gBo g0)] [oModel mA ma (nI (gK (mszF w k v g0))) (nI (gN (mszF w k v g0))) (gLp (mszF w k v g0)) (gOp (mszF w k v g0)) (gRp (mszF w k v g0)) (gRa (mszF w k v g0)) (nI (mK (gZ (mszF w k v g0)))) (mE (gZ (mszF w k v g0))) (mM (gZ (mszF w k v g0))) (mV (gZ (mszF w k v g0))) (nI (mH (gZ (mszF w k v g0)))) (gFr (mszF w k v g0)) (gBu (mszF w k v g0)) (gBs (mszF w k v g0)), xI G (ma 2) 4 (gLl (mszF w k v g0)), xI G (ma 3) 4 (gLn (mszF w k v g0)), xI G (ma 4) 4 (gLh (mszF w k v g0)), xI G (ma 6) 4 (gOl (mszF w k v g0)), xI G (ma 7) 4 (gOn (mszF w k v g0)), xI G (ma 8) 4 (gOh (mszF w k v g0)), xI G (ma 10) 16 (gDay (mszF w k v g0)), xZ G (ma 11) 16 (gUrg (mszF w k v g0)), xI G (ma 12) 64 (gSzs (mszF w k v g0)), xI G (ma 13) 16 (gWai (mszF w k v g0)), xI G (ma 14) 16 (gFro (mszF w k v g0)), xI G (ma 15) 16 (gBto (mszF w k v g0)), xI G (ma 16) 4 (gRl (mszF w k v g0)), xI G (ma 17) 4 (gRn (mszF w k v g0)), xI G (ma 18) 4 (gRh (mszF w k v g0)), xI G (ma 21) 16 (mP (gZ (mszF w k v g0))), xI G (ma 22) 16 (mL (gZ (mszF w k v g0))), xZ G (ma 23) 16 (mT (gZ (mszF w k v g0))), xI G (ma 24) 16 (mN (gZ (mszF w k v g0))), xI G (ma 25) 16 (mX (gZ (mszF w k v g0))), xZ G (ma 26) 16 (mB (gZ (mszF w k v g0))), xI G (ma 27) 16 (mD (gZ (mszF w k v g0))), xZ G (ma 28) 16 (mW (gZ (mszF w k v g0))), xI G (ma 29) 16 (mR (gZ (mszF w k v g0))), xI G (ma 30) 80 (mS (gZ (mszF w k v g0))), xI G (ma 36) 16 (gHp (mszF w k v g0)), xI G (ma 37) 16 (gHq (mszF w k v g0)), xI G (ma 41) 4 (gBo (mszF w k v g0))] (b2 (szQ w k v (gN g0) (gK g0))) := by
  refine xN_of (cc := cX5_size) (maxL := 4) (ty := .boolean) (by decide) rfl (Nat.le_of_ble_eq_true rfl) ?_
  intro p e s m below meth cO ls Q A hx hb hml hown hts hP hK hD hS hA hl hq
  have hown : s.vm.findClass RX5 = some m.cls := hown
  have kl45 := hts (.fieldLink RX5 45 "WorkBoardModel" "size" "[I") (List.mem_of_getElem? (i := 1) rfl)
  have kl116 := hts (.fieldLink RX5 116 "WorkBoardModel" "isFresh" "Z") (List.mem_of_getElem? (i := 2) rfl)
  have inX5 : ∀ w ∈ u_ws RX5 TX5 42, w ∈ wsX5_size := (fun w h => List.mem_cons_of_mem _ (List.mem_append_right _ h))
  obtain ⟨hn, hnc, hw, hcm⟩ := id hG
  have hl : lv_has ls 4 [(0, .ref mA), (1, .int w), (2, .int k), (3, .int v)] := hl
  have hD : va_D A [oModel mA ma (nI (gK g0)) (nI (gN g0)) (gLp g0) (gOp g0) (gRp g0) (gRa g0) (nI (mK (gZ g0))) (mE (gZ g0)) (mM (gZ g0)) (mV (gZ g0)) (nI (mH (gZ g0))) (gFr g0) (gBu g0) (gBs g0), xI G (ma 2) 4 (gLl g0), xI G (ma 3) 4 (gLn g0), xI G (ma 4) 4 (gLh g0), xI G (ma 6) 4 (gOl g0), xI G (ma 7) 4 (gOn g0), xI G (ma 8) 4 (gOh g0), xI G (ma 10) 16 (gDay g0), xZ G (ma 11) 16 (gUrg g0), xI G (ma 12) 64 (gSzs g0), xI G (ma 13) 16 (gWai g0), xI G (ma 14) 16 (gFro g0), xI G (ma 15) 16 (gBto g0), xI G (ma 16) 4 (gRl g0), xI G (ma 17) 4 (gRn g0), xI G (ma 18) 4 (gRh g0), xI G (ma 21) 16 (mP (gZ g0)), xI G (ma 22) 16 (mL (gZ g0)), xZ G (ma 23) 16 (mT (gZ g0)), xI G (ma 24) 16 (mN (gZ g0)), xI G (ma 25) 16 (mX (gZ g0)), xZ G (ma 26) 16 (mB (gZ g0)), xI G (ma 27) 16 (mD (gZ g0)), xZ G (ma 28) 16 (mW (gZ g0)), xI G (ma 29) 16 (mR (gZ g0)), xI G (ma 30) 80 (mS (gZ g0)), xI G (ma 36) 16 (gHp g0), xI G (ma 37) 16 (gHq g0), xI G (ma 41) 4 (gBo g0)] := hD
  obtain ⟨H, hH⟩ : ∃ z, z = s.heap := ⟨_, rfl⟩
  obtain ⟨locs, hlocs⟩ : ∃ z : List Loc, z = [] := ⟨_, rfl⟩
  have hS : va_S A s.heap H locs := by rw [hH, hlocs]; exact hS
  have hP : va_P (xD G) vwCl [oModel mA ma (nI (gK g0)) (nI (gN g0)) (gLp g0) (gOp g0) (gRp g0) (gRa g0) (nI (mK (gZ g0))) (mE (gZ g0)) (mM (gZ g0)) (mV (gZ g0)) (nI (mH (gZ g0))) (gFr g0) (gBu g0) (gBs g0), xI G (ma 2) 4 (gLl g0), xI G (ma 3) 4 (gLn g0), xI G (ma 4) 4 (gLh g0), xI G (ma 6) 4 (gOl g0), xI G (ma 7) 4 (gOn g0), xI G (ma 8) 4 (gOh g0), xI G (ma 10) 16 (gDay g0), xZ G (ma 11) 16 (gUrg g0), xI G (ma 12) 64 (gSzs g0), xI G (ma 13) 16 (gWai g0), xI G (ma 14) 16 (gFro g0), xI G (ma 15) 16 (gBto g0), xI G (ma 16) 4 (gRl g0), xI G (ma 17) 4 (gRn g0), xI G (ma 18) 4 (gRh g0), xI G (ma 21) 16 (mP (gZ g0)), xI G (ma 22) 16 (mL (gZ g0)), xZ G (ma 23) 16 (mT (gZ g0)), xI G (ma 24) 16 (mN (gZ g0)), xI G (ma 25) 16 (mX (gZ g0)), xZ G (ma 26) 16 (mB (gZ g0)), xI G (ma 27) 16 (mD (gZ g0)), xZ G (ma 28) 16 (mW (gZ g0)), xI G (ma 29) 16 (mR (gZ g0)), xI G (ma 30) 80 (mS (gZ g0)), xI G (ma 36) 16 (gHp g0), xI G (ma 37) 16 (gHq g0), xI G (ma 41) 4 (gBo g0)] H := by rw [hH]; exact hP
  rw [← hH, ← hlocs]
  clear hH hlocs
  refine lv_aload_n hx hb dX5_size_0 rfl (lv_at hl 0 rfl) ?_
  refine lv_iload_n hx hb dX5_size_1 rfl (lv_at hl 1 rfl) ?_
  refine x_callR (As := [.int w]) (rest := []) (ci := 5) (q0 := 0) ⟨hx, hb, hml, hown, hts⟩ (mX5_isCard l G mA ma (nI (gK g0)) (gN g0) (gLp g0) (gOp g0) (gRp g0) (gRa g0) (nI (mK (gZ g0))) (mE (gZ g0)) (mM (gZ g0)) (mV (gZ g0)) (nI (mH (gZ g0))) (gFr g0) (gBu g0) (gBs g0) w (by first | assumption | omega)) (cwV 1 hts gX5_size_X5_isCard rfl rfl rfl (by decide +kernel) ⟨Nat.le_of_ble_eq_true rfl, Nat.le_of_ble_eq_true rfl⟩) hK hP hD [0] rfl rfl rfl rfl rfl rfl rfl hl.1 rfl (Nat.le_of_ble_eq_true rfl) dX5_size_2 ⟨Nat.zero_le _, Nat.zero_le _⟩ (fun r hr => ?_)
  subst hr
  refine x_if_eq (P := inC w (nI (gN g0))) (tgt := 26) hx hb dX5_size_5 (by decide) (fun c5 => ?_) (fun c5 => ?_)
  · skip
    refine lv_iconst (v := 0) hx hb dX5_size_26 (by decide) ?_
    have eF : mszF w k v g0 = g0 := if_neg (fun h => c5 h.1)
    rw [eF] at hq
    exact hq 0 H locs 27 ls dX5_size_27 rfl ((b2_f (fun h => c5 h.1)).symm) (by skip; exact hP) (by skip; exact hD) hS
  · skip
    refine lv_aload_n hx hb dX5_size_8 rfl (lv_at hl 0 rfl) ?_
    refine lv_iload_n hx hb dX5_size_9 rfl (lv_at hl 2 rfl) ?_
    refine x_callR (As := [.int k]) (rest := []) (ci := 5) (q0 := 0) ⟨hx, hb, hml, hown, hts⟩ (mX5_isColumn l G mA ma (gK g0) (gN g0) (gLp g0) (gOp g0) (gRp g0) (gRa g0) (nI (mK (gZ g0))) (mE (gZ g0)) (mM (gZ g0)) (mV (gZ g0)) (nI (mH (gZ g0))) (gFr g0) (gBu g0) (gBs g0) k (by first | assumption | omega)) (cwV 1 hts gX5_size_X5_isColumn rfl rfl rfl (by decide +kernel) ⟨Nat.le_of_ble_eq_true rfl, Nat.le_of_ble_eq_true rfl⟩) hK hP hD [0] rfl rfl rfl rfl rfl rfl rfl hl.1 rfl (Nat.le_of_ble_eq_true rfl) dX5_size_10 ⟨Nat.zero_le _, Nat.zero_le _⟩ (fun r hr => ?_)
    subst hr
    refine x_if_eq (P := inC k (nI (gK g0))) (tgt := 26) hx hb dX5_size_13 (by decide) (fun c13 => ?_) (fun c13 => ?_)
    · skip
      refine lv_iconst (v := 0) hx hb dX5_size_26 (by decide) ?_
      have eF : mszF w k v g0 = g0 := if_neg (fun h => c13 h.2.1)
      rw [eF] at hq
      exact hq 0 H locs 27 ls dX5_size_27 rfl ((b2_f (fun h => c13 h.2.1)).symm) (by skip; exact hP) (by skip; exact hD) hS
    · skip
      refine lv_iload_n hx hb dX5_size_16 rfl (lv_at hl 3 rfl) ?_
      refine lv_iconst (v := 0) hx hb dX5_size_17 (by decide) ?_
      refine lv_bipush (v := 9) hx hb dX5_size_18 (by decide) ?_
      refine x_callS (As := [.int v, .int 0, .int 9]) (rest := []) ⟨hx, hb, hml, hown, hts⟩ (mX5_in l G v 0 9 ) (va_cwS 3 hts gX5_size_X5_in rfl rfl rfl (by decide +kernel) ⟨Nat.le_of_ble_eq_true rfl, Nat.le_of_ble_eq_true rfl⟩) hK rfl hl.1 rfl (Nat.le_of_ble_eq_true rfl) dX5_size_20 ⟨Nat.zero_le _, Nat.zero_le _⟩ (fun r hr => ?_)
      subst hr
      refine x_if_ne (P := wiP v 0 9) (tgt := 28) hx hb dX5_size_23 (by decide) (fun c23 => ?_) (fun c23 => ?_)
      · skip
        have hv : szQ w k v (gN g0) (gK g0) := ⟨c5, c13, c23⟩
        have hwx := vp_of c5.1 c5.2 (by omega)
        have hwxb : w.toNatClampNeg < gN g0 := vp_lt hwx
        have hk := vp_of c13.1 c13.2 (by omega)
        have hkb : k.toNatClampNeg < gK g0 := vp_lt hk
        refine lv_aload_n hx hb dX5_size_28 rfl (lv_at hl 0 rfl) ?_
        refine va_get (D := xD G) (ci := 5) (v := .ref (ma 12)) (C := RX5) (T := TX5) (N := 42) hx hb hts inX5 hown hK hP 0 rfl rfl 12 (by decide) kl45 (fun _ h9 => h9) rfl dX5_size_29 ?_
        refine lv_iconst (v := 4) hx hb dX5_size_32 (by decide) ?_
        refine lv_iload_n hx hb dX5_size_33 rfl (lv_at hl 1 rfl) ?_
        refine x_top (y := nI w.toNatClampNeg) (nI_self hwx) ?_
        refine lv_imul hx hb dX5_size_34 ?_
        refine x_top (y := nI (4 * w.toNatClampNeg)) (pk_mul 4 w.toNatClampNeg) ?_
        refine lv_iload_n hx hb dX5_size_35 rfl (lv_at hl 2 rfl) ?_
        refine x_top (y := nI k.toNatClampNeg) (nI_self hk) ?_
        refine lv_iadd hx hb dX5_size_36 ?_
        refine x_top (y := nI ((4 * w.toNatClampNeg) + k.toNatClampNeg)) (nI_add (4 * w.toNatClampNeg) k.toNatClampNeg) ?_
        refine lv_iload_n hx hb dX5_size_37 rfl (lv_at hl 3 rfl) ?_
        refine x_iast (i := (4 * w.toNatClampNeg) + k.toNatClampNeg) hx hb hK hP hD hS 9 rfl (by first | omega | assumption) (by omega) dX5_size_38 (fun H locs hP hD hS => ?_)
        have hP : va_P (xD G) vwCl [oModel mA ma (nI (gK g0)) (nI (gN g0)) (gLp g0) (gOp g0) (gRp g0) (gRa g0) (nI (mK (gZ g0))) (mE (gZ g0)) (mM (gZ g0)) (mV (gZ g0)) (nI (mH (gZ g0))) (gFr g0) (gBu g0) (gBs g0), xI G (ma 2) 4 (gLl g0), xI G (ma 3) 4 (gLn g0), xI G (ma 4) 4 (gLh g0), xI G (ma 6) 4 (gOl g0), xI G (ma 7) 4 (gOn g0), xI G (ma 8) 4 (gOh g0), xI G (ma 10) 16 (gDay g0), xZ G (ma 11) 16 (gUrg g0), xI G (ma 12) 64 (upd (gSzs g0) ((4 * w.toNatClampNeg) + k.toNatClampNeg) v), xI G (ma 13) 16 (gWai g0), xI G (ma 14) 16 (gFro g0), xI G (ma 15) 16 (gBto g0), xI G (ma 16) 4 (gRl g0), xI G (ma 17) 4 (gRn g0), xI G (ma 18) 4 (gRh g0), xI G (ma 21) 16 (mP (gZ g0)), xI G (ma 22) 16 (mL (gZ g0)), xZ G (ma 23) 16 (mT (gZ g0)), xI G (ma 24) 16 (mN (gZ g0)), xI G (ma 25) 16 (mX (gZ g0)), xZ G (ma 26) 16 (mB (gZ g0)), xI G (ma 27) 16 (mD (gZ g0)), xZ G (ma 28) 16 (mW (gZ g0)), xI G (ma 29) 16 (mR (gZ g0)), xI G (ma 30) 80 (mS (gZ g0)), xI G (ma 36) 16 (gHp g0), xI G (ma 37) 16 (gHq g0), xI G (ma 41) 4 (gBo g0)] H := hP
        have hD : va_D A [oModel mA ma (nI (gK g0)) (nI (gN g0)) (gLp g0) (gOp g0) (gRp g0) (gRa g0) (nI (mK (gZ g0))) (mE (gZ g0)) (mM (gZ g0)) (mV (gZ g0)) (nI (mH (gZ g0))) (gFr g0) (gBu g0) (gBs g0), xI G (ma 2) 4 (gLl g0), xI G (ma 3) 4 (gLn g0), xI G (ma 4) 4 (gLh g0), xI G (ma 6) 4 (gOl g0), xI G (ma 7) 4 (gOn g0), xI G (ma 8) 4 (gOh g0), xI G (ma 10) 16 (gDay g0), xZ G (ma 11) 16 (gUrg g0), xI G (ma 12) 64 (upd (gSzs g0) ((4 * w.toNatClampNeg) + k.toNatClampNeg) v), xI G (ma 13) 16 (gWai g0), xI G (ma 14) 16 (gFro g0), xI G (ma 15) 16 (gBto g0), xI G (ma 16) 4 (gRl g0), xI G (ma 17) 4 (gRn g0), xI G (ma 18) 4 (gRh g0), xI G (ma 21) 16 (mP (gZ g0)), xI G (ma 22) 16 (mL (gZ g0)), xZ G (ma 23) 16 (mT (gZ g0)), xI G (ma 24) 16 (mN (gZ g0)), xI G (ma 25) 16 (mX (gZ g0)), xZ G (ma 26) 16 (mB (gZ g0)), xI G (ma 27) 16 (mD (gZ g0)), xZ G (ma 28) 16 (mW (gZ g0)), xI G (ma 29) 16 (mR (gZ g0)), xI G (ma 30) 80 (mS (gZ g0)), xI G (ma 36) 16 (gHp g0), xI G (ma 37) 16 (gHq g0), xI G (ma 41) 4 (gBo g0)] := hD
        refine lv_aload_n hx hb dX5_size_39 rfl (lv_at hl 0 rfl) ?_
        refine lv_iconst (v := 0) hx hb dX5_size_40 (by decide) ?_
        refine va_put (D := xD G) (ci := 5) (v := .int 0) (ty := .boolean) (C := RX5) (T := TX5) (N := 42) hx hb hts inX5 tyX5 tyX5_ok nmX5 hown hK hP hD hS 0 rfl rfl 38 (by decide) kl116 (fun _ h9 => h9) rfl (by decide +kernel) rfl rfl (Nat.le_of_ble_eq_true rfl) dX5_size_41 (fun H locs hP hD hS => ?_)
        have hP : va_P (xD G) vwCl [oModel mA ma (nI (gK g0)) (nI (gN g0)) (gLp g0) (gOp g0) (gRp g0) (gRa g0) (nI (mK (gZ g0))) (mE (gZ g0)) (mM (gZ g0)) (mV (gZ g0)) (nI (mH (gZ g0))) 0 (gBu g0) (gBs g0), xI G (ma 2) 4 (gLl g0), xI G (ma 3) 4 (gLn g0), xI G (ma 4) 4 (gLh g0), xI G (ma 6) 4 (gOl g0), xI G (ma 7) 4 (gOn g0), xI G (ma 8) 4 (gOh g0), xI G (ma 10) 16 (gDay g0), xZ G (ma 11) 16 (gUrg g0), xI G (ma 12) 64 (upd (gSzs g0) ((4 * w.toNatClampNeg) + k.toNatClampNeg) v), xI G (ma 13) 16 (gWai g0), xI G (ma 14) 16 (gFro g0), xI G (ma 15) 16 (gBto g0), xI G (ma 16) 4 (gRl g0), xI G (ma 17) 4 (gRn g0), xI G (ma 18) 4 (gRh g0), xI G (ma 21) 16 (mP (gZ g0)), xI G (ma 22) 16 (mL (gZ g0)), xZ G (ma 23) 16 (mT (gZ g0)), xI G (ma 24) 16 (mN (gZ g0)), xI G (ma 25) 16 (mX (gZ g0)), xZ G (ma 26) 16 (mB (gZ g0)), xI G (ma 27) 16 (mD (gZ g0)), xZ G (ma 28) 16 (mW (gZ g0)), xI G (ma 29) 16 (mR (gZ g0)), xI G (ma 30) 80 (mS (gZ g0)), xI G (ma 36) 16 (gHp g0), xI G (ma 37) 16 (gHq g0), xI G (ma 41) 4 (gBo g0)] H := hP
        have hD : va_D A [oModel mA ma (nI (gK g0)) (nI (gN g0)) (gLp g0) (gOp g0) (gRp g0) (gRa g0) (nI (mK (gZ g0))) (mE (gZ g0)) (mM (gZ g0)) (mV (gZ g0)) (nI (mH (gZ g0))) 0 (gBu g0) (gBs g0), xI G (ma 2) 4 (gLl g0), xI G (ma 3) 4 (gLn g0), xI G (ma 4) 4 (gLh g0), xI G (ma 6) 4 (gOl g0), xI G (ma 7) 4 (gOn g0), xI G (ma 8) 4 (gOh g0), xI G (ma 10) 16 (gDay g0), xZ G (ma 11) 16 (gUrg g0), xI G (ma 12) 64 (upd (gSzs g0) ((4 * w.toNatClampNeg) + k.toNatClampNeg) v), xI G (ma 13) 16 (gWai g0), xI G (ma 14) 16 (gFro g0), xI G (ma 15) 16 (gBto g0), xI G (ma 16) 4 (gRl g0), xI G (ma 17) 4 (gRn g0), xI G (ma 18) 4 (gRh g0), xI G (ma 21) 16 (mP (gZ g0)), xI G (ma 22) 16 (mL (gZ g0)), xZ G (ma 23) 16 (mT (gZ g0)), xI G (ma 24) 16 (mN (gZ g0)), xI G (ma 25) 16 (mX (gZ g0)), xZ G (ma 26) 16 (mB (gZ g0)), xI G (ma 27) 16 (mD (gZ g0)), xZ G (ma 28) 16 (mW (gZ g0)), xI G (ma 29) 16 (mR (gZ g0)), xI G (ma 30) 80 (mS (gZ g0)), xI G (ma 36) 16 (gHp g0), xI G (ma 37) 16 (gHq g0), xI G (ma 41) 4 (gBo g0)] := hD
        refine lv_iconst (v := 1) hx hb dX5_size_44 (by decide) ?_
        have eF : mszF w k v g0 = mszT w.toNatClampNeg k.toNatClampNeg v g0 := if_pos hv
        rw [eF] at hq
        exact hq 1 H locs 45 ls dX5_size_45 rfl ((b2_t hv).symm) (by skip; exact hP) (by skip; exact hD) hS
      · skip
        refine lv_iconst (v := 0) hx hb dX5_size_26 (by decide) ?_
        have eF : mszF w k v g0 = g0 := if_neg (fun h => c23 h.2.2)
        rw [eF] at hq
        exact hq 0 H locs 27 ls dX5_size_27 rfl ((b2_f (fun h => c23 h.2.2)).symm) (by skip; exact hP) (by skip; exact hD) hS
set_option maxHeartbeats 4000000 in
set_option maxRecDepth 100000 in
theorem mX5_waits (l : Launch) (G : xG) (mA : Nat) (ma : Nat → Nat) (g0 : MM) (w : Int32) (v : Int32)  (hG : GI g0) : xN l yX5_waits wsX5_waits ({ frames := 2, cells := 0, slots := 0, locals := 43 } : Room) [.ref mA, .int w, .int v] G [oModel mA ma (nI (gK g0)) (nI (gN g0)) (gLp g0) (gOp g0) (gRp g0) (gRa g0) (nI (mK (gZ g0))) (mE (gZ g0)) (mM (gZ g0)) (mV (gZ g0)) (nI (mH (gZ g0))) (gFr g0) (gBu g0) (gBs g0), xI G (ma 2) 4 (gLl g0), xI G (ma 3) 4 (gLn g0), xI G (ma 4) 4 (gLh g0), xI G (ma 6) 4 (gOl g0), xI G (ma 7) 4 (gOn g0), xI G (ma 8) 4 (gOh g0), xI G (ma 10) 16 (gDay g0), xZ G (ma 11) 16 (gUrg g0), xI G (ma 12) 64 (gSzs g0), xI G (ma 13) 16 (gWai g0), xI G (ma 14) 16 (gFro g0), xI G (ma 15) 16 (gBto g0), xI G (ma 16) 4 (gRl g0), xI G (ma 17) 4 (gRn g0), xI G (ma 18) 4 (gRh g0), xI G (ma 21) 16 (mP (gZ g0)), xI G (ma 22) 16 (mL (gZ g0)), xZ G (ma 23) 16 (mT (gZ g0)), xI G (ma 24) 16 (mN (gZ g0)), xI G (ma 25) 16 (mX (gZ g0)), xZ G (ma 26) 16 (mB (gZ g0)), xI G (ma 27) 16 (mD (gZ g0)), xZ G (ma 28) 16 (mW (gZ g0)), xI G (ma 29) 16 (mR (gZ g0)), xI G (ma 30) 80 (mS (gZ g0)), xI G (ma 36) 16 (gHp g0), xI G (ma 37) 16 (gHq g0), xI G (ma 41) 4 (gBo g0)] [oModel mA ma (nI (gK (mwaF w v g0))) (nI (gN (mwaF w v g0))) (gLp (mwaF w v g0)) (gOp (mwaF w v g0)) (gRp (mwaF w v g0)) (gRa (mwaF w v g0)) (nI (mK (gZ (mwaF w v g0)))) (mE (gZ (mwaF w v g0))) (mM (gZ (mwaF w v g0))) (mV (gZ (mwaF w v g0))) (nI (mH (gZ (mwaF w v g0)))) (gFr (mwaF w v g0)) (gBu (mwaF w v g0)) (gBs (mwaF w v g0)), xI G (ma 2) 4 (gLl (mwaF w v g0)), xI G (ma 3) 4 (gLn (mwaF w v g0)), xI G (ma 4) 4 (gLh (mwaF w v g0)), xI G (ma 6) 4 (gOl (mwaF w v g0)), xI G (ma 7) 4 (gOn (mwaF w v g0)), xI G (ma 8) 4 (gOh (mwaF w v g0)), xI G (ma 10) 16 (gDay (mwaF w v g0)), xZ G (ma 11) 16 (gUrg (mwaF w v g0)), xI G (ma 12) 64 (gSzs (mwaF w v g0)), xI G (ma 13) 16 (gWai (mwaF w v g0)), xI G (ma 14) 16 (gFro (mwaF w v g0)), xI G (ma 15) 16 (gBto (mwaF w v g0)), xI G (ma 16) 4 (gRl (mwaF w v g0)), xI G (ma 17) 4 (gRn (mwaF w v g0)), xI G (ma 18) 4 (gRh (mwaF w v g0)), xI G (ma 21) 16 (mP (gZ (mwaF w v g0))), xI G (ma 22) 16 (mL (gZ (mwaF w v g0))), xZ G (ma 23) 16 (mT (gZ (mwaF w v g0))), xI G (ma 24) 16 (mN (gZ (mwaF w v g0))), xI G (ma 25) 16 (mX (gZ (mwaF w v g0))), xZ G (ma 26) 16 (mB (gZ (mwaF w v g0))), xI G (ma 27) 16 (mD (gZ (mwaF w v g0))), xZ G (ma 28) 16 (mW (gZ (mwaF w v g0))), xI G (ma 29) 16 (mR (gZ (mwaF w v g0))), xI G (ma 30) 80 (mS (gZ (mwaF w v g0))), xI G (ma 36) 16 (gHp (mwaF w v g0)), xI G (ma 37) 16 (gHq (mwaF w v g0)), xI G (ma 41) 4 (gBo (mwaF w v g0))] (b2 (waQ w v (gN g0))) := by
  refine xN_of (cc := cX5_waits) (maxL := 3) (ty := .boolean) (by decide) rfl (Nat.le_of_ble_eq_true rfl) ?_
  intro p e s m below meth cO ls Q A hx hb hml hown hts hP hK hD hS hA hl hq
  have hown : s.vm.findClass RX5 = some m.cls := hown
  have kl48 := hts (.fieldLink RX5 48 "WorkBoardModel" "waitsFor" "[I") (List.mem_of_getElem? (i := 1) rfl)
  have kl116 := hts (.fieldLink RX5 116 "WorkBoardModel" "isFresh" "Z") (List.mem_of_getElem? (i := 2) rfl)
  have inX5 : ∀ w ∈ u_ws RX5 TX5 42, w ∈ wsX5_waits := (fun w h => List.mem_cons_of_mem _ (List.mem_append_right _ h))
  obtain ⟨hn, hnc, hw, hcm⟩ := id hG
  have hl : lv_has ls 3 [(0, .ref mA), (1, .int w), (2, .int v)] := hl
  have hD : va_D A [oModel mA ma (nI (gK g0)) (nI (gN g0)) (gLp g0) (gOp g0) (gRp g0) (gRa g0) (nI (mK (gZ g0))) (mE (gZ g0)) (mM (gZ g0)) (mV (gZ g0)) (nI (mH (gZ g0))) (gFr g0) (gBu g0) (gBs g0), xI G (ma 2) 4 (gLl g0), xI G (ma 3) 4 (gLn g0), xI G (ma 4) 4 (gLh g0), xI G (ma 6) 4 (gOl g0), xI G (ma 7) 4 (gOn g0), xI G (ma 8) 4 (gOh g0), xI G (ma 10) 16 (gDay g0), xZ G (ma 11) 16 (gUrg g0), xI G (ma 12) 64 (gSzs g0), xI G (ma 13) 16 (gWai g0), xI G (ma 14) 16 (gFro g0), xI G (ma 15) 16 (gBto g0), xI G (ma 16) 4 (gRl g0), xI G (ma 17) 4 (gRn g0), xI G (ma 18) 4 (gRh g0), xI G (ma 21) 16 (mP (gZ g0)), xI G (ma 22) 16 (mL (gZ g0)), xZ G (ma 23) 16 (mT (gZ g0)), xI G (ma 24) 16 (mN (gZ g0)), xI G (ma 25) 16 (mX (gZ g0)), xZ G (ma 26) 16 (mB (gZ g0)), xI G (ma 27) 16 (mD (gZ g0)), xZ G (ma 28) 16 (mW (gZ g0)), xI G (ma 29) 16 (mR (gZ g0)), xI G (ma 30) 80 (mS (gZ g0)), xI G (ma 36) 16 (gHp g0), xI G (ma 37) 16 (gHq g0), xI G (ma 41) 4 (gBo g0)] := hD
  obtain ⟨H, hH⟩ : ∃ z, z = s.heap := ⟨_, rfl⟩
  obtain ⟨locs, hlocs⟩ : ∃ z : List Loc, z = [] := ⟨_, rfl⟩
  have hS : va_S A s.heap H locs := by rw [hH, hlocs]; exact hS
  have hP : va_P (xD G) vwCl [oModel mA ma (nI (gK g0)) (nI (gN g0)) (gLp g0) (gOp g0) (gRp g0) (gRa g0) (nI (mK (gZ g0))) (mE (gZ g0)) (mM (gZ g0)) (mV (gZ g0)) (nI (mH (gZ g0))) (gFr g0) (gBu g0) (gBs g0), xI G (ma 2) 4 (gLl g0), xI G (ma 3) 4 (gLn g0), xI G (ma 4) 4 (gLh g0), xI G (ma 6) 4 (gOl g0), xI G (ma 7) 4 (gOn g0), xI G (ma 8) 4 (gOh g0), xI G (ma 10) 16 (gDay g0), xZ G (ma 11) 16 (gUrg g0), xI G (ma 12) 64 (gSzs g0), xI G (ma 13) 16 (gWai g0), xI G (ma 14) 16 (gFro g0), xI G (ma 15) 16 (gBto g0), xI G (ma 16) 4 (gRl g0), xI G (ma 17) 4 (gRn g0), xI G (ma 18) 4 (gRh g0), xI G (ma 21) 16 (mP (gZ g0)), xI G (ma 22) 16 (mL (gZ g0)), xZ G (ma 23) 16 (mT (gZ g0)), xI G (ma 24) 16 (mN (gZ g0)), xI G (ma 25) 16 (mX (gZ g0)), xZ G (ma 26) 16 (mB (gZ g0)), xI G (ma 27) 16 (mD (gZ g0)), xZ G (ma 28) 16 (mW (gZ g0)), xI G (ma 29) 16 (mR (gZ g0)), xI G (ma 30) 80 (mS (gZ g0)), xI G (ma 36) 16 (gHp g0), xI G (ma 37) 16 (gHq g0), xI G (ma 41) 4 (gBo g0)] H := by rw [hH]; exact hP
  rw [← hH, ← hlocs]
  clear hH hlocs
  refine lv_aload_n hx hb dX5_waits_0 rfl (lv_at hl 0 rfl) ?_
  refine lv_iload_n hx hb dX5_waits_1 rfl (lv_at hl 1 rfl) ?_
  refine x_callR (As := [.int w]) (rest := []) (ci := 5) (q0 := 0) ⟨hx, hb, hml, hown, hts⟩ (mX5_isCard l G mA ma (nI (gK g0)) (gN g0) (gLp g0) (gOp g0) (gRp g0) (gRa g0) (nI (mK (gZ g0))) (mE (gZ g0)) (mM (gZ g0)) (mV (gZ g0)) (nI (mH (gZ g0))) (gFr g0) (gBu g0) (gBs g0) w (by first | assumption | omega)) (cwV 1 hts gX5_waits_X5_isCard rfl rfl rfl (by decide +kernel) ⟨Nat.le_of_ble_eq_true rfl, Nat.le_of_ble_eq_true rfl⟩) hK hP hD [0] rfl rfl rfl rfl rfl rfl rfl hl.1 rfl (Nat.le_of_ble_eq_true rfl) dX5_waits_2 ⟨Nat.zero_le _, Nat.zero_le _⟩ (fun r hr => ?_)
  subst hr
  refine x_if_eq (P := inC w (nI (gN g0))) (tgt := 19) hx hb dX5_waits_5 (by decide) (fun c5 => ?_) (fun c5 => ?_)
  · skip
    refine lv_iconst (v := 0) hx hb dX5_waits_19 (by decide) ?_
    have eF : mwaF w v g0 = g0 := if_neg (fun h => c5 h.1)
    rw [eF] at hq
    exact hq 0 H locs 20 ls dX5_waits_20 rfl ((b2_f (fun h => c5 h.1)).symm) (by skip; exact hP) (by skip; exact hD) hS
  · skip
    refine lv_iload_n hx hb dX5_waits_8 rfl (lv_at hl 2 rfl) ?_
    refine lv_iconst (v := (-1)) hx hb dX5_waits_9 (by decide) ?_
    refine lv_iload_n hx hb dX5_waits_10 rfl (lv_at hl 1 rfl) ?_
    refine lv_iconst (v := 1) hx hb dX5_waits_11 (by decide) ?_
    refine lv_isub hx hb dX5_waits_12 ?_
    refine x_callS (As := [.int v, .int (-1), .int (w - 1)]) (rest := []) ⟨hx, hb, hml, hown, hts⟩ (mX5_in l G v (-1) (w - 1) ) (va_cwS 3 hts gX5_waits_X5_in rfl rfl rfl (by decide +kernel) ⟨Nat.le_of_ble_eq_true rfl, Nat.le_of_ble_eq_true rfl⟩) hK rfl hl.1 rfl (Nat.le_of_ble_eq_true rfl) dX5_waits_13 ⟨Nat.zero_le _, Nat.zero_le _⟩ (fun r hr => ?_)
    subst hr
    refine x_if_ne (P := wiP v (-1) (w - 1)) (tgt := 21) hx hb dX5_waits_16 (by decide) (fun c16 => ?_) (fun c16 => ?_)
    · skip
      have hv : waQ w v (gN g0) := ⟨c5, c16⟩
      have hwx := vp_of c5.1 c5.2 (by omega)
      have hwxb : w.toNatClampNeg < gN g0 := vp_lt hwx
      refine lv_aload_n hx hb dX5_waits_21 rfl (lv_at hl 0 rfl) ?_
      refine va_get (D := xD G) (ci := 5) (v := .ref (ma 13)) (C := RX5) (T := TX5) (N := 42) hx hb hts inX5 hown hK hP 0 rfl rfl 13 (by decide) kl48 (fun _ h9 => h9) rfl dX5_waits_22 ?_
      refine lv_iload_n hx hb dX5_waits_25 rfl (lv_at hl 1 rfl) ?_
      refine x_top (y := nI w.toNatClampNeg) (nI_self hwx) ?_
      refine lv_iload_n hx hb dX5_waits_26 rfl (lv_at hl 2 rfl) ?_
      refine x_iast (i := w.toNatClampNeg) hx hb hK hP hD hS 10 rfl (by first | omega | assumption) (by omega) dX5_waits_27 (fun H locs hP hD hS => ?_)
      have hP : va_P (xD G) vwCl [oModel mA ma (nI (gK g0)) (nI (gN g0)) (gLp g0) (gOp g0) (gRp g0) (gRa g0) (nI (mK (gZ g0))) (mE (gZ g0)) (mM (gZ g0)) (mV (gZ g0)) (nI (mH (gZ g0))) (gFr g0) (gBu g0) (gBs g0), xI G (ma 2) 4 (gLl g0), xI G (ma 3) 4 (gLn g0), xI G (ma 4) 4 (gLh g0), xI G (ma 6) 4 (gOl g0), xI G (ma 7) 4 (gOn g0), xI G (ma 8) 4 (gOh g0), xI G (ma 10) 16 (gDay g0), xZ G (ma 11) 16 (gUrg g0), xI G (ma 12) 64 (gSzs g0), xI G (ma 13) 16 (upd (gWai g0) w.toNatClampNeg v), xI G (ma 14) 16 (gFro g0), xI G (ma 15) 16 (gBto g0), xI G (ma 16) 4 (gRl g0), xI G (ma 17) 4 (gRn g0), xI G (ma 18) 4 (gRh g0), xI G (ma 21) 16 (mP (gZ g0)), xI G (ma 22) 16 (mL (gZ g0)), xZ G (ma 23) 16 (mT (gZ g0)), xI G (ma 24) 16 (mN (gZ g0)), xI G (ma 25) 16 (mX (gZ g0)), xZ G (ma 26) 16 (mB (gZ g0)), xI G (ma 27) 16 (mD (gZ g0)), xZ G (ma 28) 16 (mW (gZ g0)), xI G (ma 29) 16 (mR (gZ g0)), xI G (ma 30) 80 (mS (gZ g0)), xI G (ma 36) 16 (gHp g0), xI G (ma 37) 16 (gHq g0), xI G (ma 41) 4 (gBo g0)] H := hP
      have hD : va_D A [oModel mA ma (nI (gK g0)) (nI (gN g0)) (gLp g0) (gOp g0) (gRp g0) (gRa g0) (nI (mK (gZ g0))) (mE (gZ g0)) (mM (gZ g0)) (mV (gZ g0)) (nI (mH (gZ g0))) (gFr g0) (gBu g0) (gBs g0), xI G (ma 2) 4 (gLl g0), xI G (ma 3) 4 (gLn g0), xI G (ma 4) 4 (gLh g0), xI G (ma 6) 4 (gOl g0), xI G (ma 7) 4 (gOn g0), xI G (ma 8) 4 (gOh g0), xI G (ma 10) 16 (gDay g0), xZ G (ma 11) 16 (gUrg g0), xI G (ma 12) 64 (gSzs g0), xI G (ma 13) 16 (upd (gWai g0) w.toNatClampNeg v), xI G (ma 14) 16 (gFro g0), xI G (ma 15) 16 (gBto g0), xI G (ma 16) 4 (gRl g0), xI G (ma 17) 4 (gRn g0), xI G (ma 18) 4 (gRh g0), xI G (ma 21) 16 (mP (gZ g0)), xI G (ma 22) 16 (mL (gZ g0)), xZ G (ma 23) 16 (mT (gZ g0)), xI G (ma 24) 16 (mN (gZ g0)), xI G (ma 25) 16 (mX (gZ g0)), xZ G (ma 26) 16 (mB (gZ g0)), xI G (ma 27) 16 (mD (gZ g0)), xZ G (ma 28) 16 (mW (gZ g0)), xI G (ma 29) 16 (mR (gZ g0)), xI G (ma 30) 80 (mS (gZ g0)), xI G (ma 36) 16 (gHp g0), xI G (ma 37) 16 (gHq g0), xI G (ma 41) 4 (gBo g0)] := hD
      refine lv_aload_n hx hb dX5_waits_28 rfl (lv_at hl 0 rfl) ?_
      refine lv_iconst (v := 0) hx hb dX5_waits_29 (by decide) ?_
      refine va_put (D := xD G) (ci := 5) (v := .int 0) (ty := .boolean) (C := RX5) (T := TX5) (N := 42) hx hb hts inX5 tyX5 tyX5_ok nmX5 hown hK hP hD hS 0 rfl rfl 38 (by decide) kl116 (fun _ h9 => h9) rfl (by decide +kernel) rfl rfl (Nat.le_of_ble_eq_true rfl) dX5_waits_30 (fun H locs hP hD hS => ?_)
      have hP : va_P (xD G) vwCl [oModel mA ma (nI (gK g0)) (nI (gN g0)) (gLp g0) (gOp g0) (gRp g0) (gRa g0) (nI (mK (gZ g0))) (mE (gZ g0)) (mM (gZ g0)) (mV (gZ g0)) (nI (mH (gZ g0))) 0 (gBu g0) (gBs g0), xI G (ma 2) 4 (gLl g0), xI G (ma 3) 4 (gLn g0), xI G (ma 4) 4 (gLh g0), xI G (ma 6) 4 (gOl g0), xI G (ma 7) 4 (gOn g0), xI G (ma 8) 4 (gOh g0), xI G (ma 10) 16 (gDay g0), xZ G (ma 11) 16 (gUrg g0), xI G (ma 12) 64 (gSzs g0), xI G (ma 13) 16 (upd (gWai g0) w.toNatClampNeg v), xI G (ma 14) 16 (gFro g0), xI G (ma 15) 16 (gBto g0), xI G (ma 16) 4 (gRl g0), xI G (ma 17) 4 (gRn g0), xI G (ma 18) 4 (gRh g0), xI G (ma 21) 16 (mP (gZ g0)), xI G (ma 22) 16 (mL (gZ g0)), xZ G (ma 23) 16 (mT (gZ g0)), xI G (ma 24) 16 (mN (gZ g0)), xI G (ma 25) 16 (mX (gZ g0)), xZ G (ma 26) 16 (mB (gZ g0)), xI G (ma 27) 16 (mD (gZ g0)), xZ G (ma 28) 16 (mW (gZ g0)), xI G (ma 29) 16 (mR (gZ g0)), xI G (ma 30) 80 (mS (gZ g0)), xI G (ma 36) 16 (gHp g0), xI G (ma 37) 16 (gHq g0), xI G (ma 41) 4 (gBo g0)] H := hP
      have hD : va_D A [oModel mA ma (nI (gK g0)) (nI (gN g0)) (gLp g0) (gOp g0) (gRp g0) (gRa g0) (nI (mK (gZ g0))) (mE (gZ g0)) (mM (gZ g0)) (mV (gZ g0)) (nI (mH (gZ g0))) 0 (gBu g0) (gBs g0), xI G (ma 2) 4 (gLl g0), xI G (ma 3) 4 (gLn g0), xI G (ma 4) 4 (gLh g0), xI G (ma 6) 4 (gOl g0), xI G (ma 7) 4 (gOn g0), xI G (ma 8) 4 (gOh g0), xI G (ma 10) 16 (gDay g0), xZ G (ma 11) 16 (gUrg g0), xI G (ma 12) 64 (gSzs g0), xI G (ma 13) 16 (upd (gWai g0) w.toNatClampNeg v), xI G (ma 14) 16 (gFro g0), xI G (ma 15) 16 (gBto g0), xI G (ma 16) 4 (gRl g0), xI G (ma 17) 4 (gRn g0), xI G (ma 18) 4 (gRh g0), xI G (ma 21) 16 (mP (gZ g0)), xI G (ma 22) 16 (mL (gZ g0)), xZ G (ma 23) 16 (mT (gZ g0)), xI G (ma 24) 16 (mN (gZ g0)), xI G (ma 25) 16 (mX (gZ g0)), xZ G (ma 26) 16 (mB (gZ g0)), xI G (ma 27) 16 (mD (gZ g0)), xZ G (ma 28) 16 (mW (gZ g0)), xI G (ma 29) 16 (mR (gZ g0)), xI G (ma 30) 80 (mS (gZ g0)), xI G (ma 36) 16 (gHp g0), xI G (ma 37) 16 (gHq g0), xI G (ma 41) 4 (gBo g0)] := hD
      refine lv_iconst (v := 1) hx hb dX5_waits_33 (by decide) ?_
      have eF : mwaF w v g0 = mwaT w.toNatClampNeg v g0 := if_pos hv
      rw [eF] at hq
      exact hq 1 H locs 34 ls dX5_waits_34 rfl ((b2_t hv).symm) (by skip; exact hP) (by skip; exact hD) hS
    · skip
      refine lv_iconst (v := 0) hx hb dX5_waits_19 (by decide) ?_
      have eF : mwaF w v g0 = g0 := if_neg (fun h => c16 h.2)
      rw [eF] at hq
      exact hq 0 H locs 20 ls dX5_waits_20 rfl ((b2_f (fun h => c16 h.2)).symm) (by skip; exact hP) (by skip; exact hD) hS
set_option maxHeartbeats 4000000 in
set_option maxRecDepth 100000 in
theorem mX5_back (l : Launch) (G : xG) (mA : Nat) (ma : Nat → Nat) (g0 : MM) (w : Int32) (rr : Int32) (qq : Int32)  (hG : GI g0) : xN l yX5_back wsX5_back ({ frames := 2, cells := 0, slots := 0, locals := 43 } : Room) [.ref mA, .int w, .int rr, .int qq] G [oModel mA ma (nI (gK g0)) (nI (gN g0)) (gLp g0) (gOp g0) (gRp g0) (gRa g0) (nI (mK (gZ g0))) (mE (gZ g0)) (mM (gZ g0)) (mV (gZ g0)) (nI (mH (gZ g0))) (gFr g0) (gBu g0) (gBs g0), xI G (ma 2) 4 (gLl g0), xI G (ma 3) 4 (gLn g0), xI G (ma 4) 4 (gLh g0), xI G (ma 6) 4 (gOl g0), xI G (ma 7) 4 (gOn g0), xI G (ma 8) 4 (gOh g0), xI G (ma 10) 16 (gDay g0), xZ G (ma 11) 16 (gUrg g0), xI G (ma 12) 64 (gSzs g0), xI G (ma 13) 16 (gWai g0), xI G (ma 14) 16 (gFro g0), xI G (ma 15) 16 (gBto g0), xI G (ma 16) 4 (gRl g0), xI G (ma 17) 4 (gRn g0), xI G (ma 18) 4 (gRh g0), xI G (ma 21) 16 (mP (gZ g0)), xI G (ma 22) 16 (mL (gZ g0)), xZ G (ma 23) 16 (mT (gZ g0)), xI G (ma 24) 16 (mN (gZ g0)), xI G (ma 25) 16 (mX (gZ g0)), xZ G (ma 26) 16 (mB (gZ g0)), xI G (ma 27) 16 (mD (gZ g0)), xZ G (ma 28) 16 (mW (gZ g0)), xI G (ma 29) 16 (mR (gZ g0)), xI G (ma 30) 80 (mS (gZ g0)), xI G (ma 36) 16 (gHp g0), xI G (ma 37) 16 (gHq g0), xI G (ma 41) 4 (gBo g0)] [oModel mA ma (nI (gK (mbaF w rr qq g0))) (nI (gN (mbaF w rr qq g0))) (gLp (mbaF w rr qq g0)) (gOp (mbaF w rr qq g0)) (gRp (mbaF w rr qq g0)) (gRa (mbaF w rr qq g0)) (nI (mK (gZ (mbaF w rr qq g0)))) (mE (gZ (mbaF w rr qq g0))) (mM (gZ (mbaF w rr qq g0))) (mV (gZ (mbaF w rr qq g0))) (nI (mH (gZ (mbaF w rr qq g0)))) (gFr (mbaF w rr qq g0)) (gBu (mbaF w rr qq g0)) (gBs (mbaF w rr qq g0)), xI G (ma 2) 4 (gLl (mbaF w rr qq g0)), xI G (ma 3) 4 (gLn (mbaF w rr qq g0)), xI G (ma 4) 4 (gLh (mbaF w rr qq g0)), xI G (ma 6) 4 (gOl (mbaF w rr qq g0)), xI G (ma 7) 4 (gOn (mbaF w rr qq g0)), xI G (ma 8) 4 (gOh (mbaF w rr qq g0)), xI G (ma 10) 16 (gDay (mbaF w rr qq g0)), xZ G (ma 11) 16 (gUrg (mbaF w rr qq g0)), xI G (ma 12) 64 (gSzs (mbaF w rr qq g0)), xI G (ma 13) 16 (gWai (mbaF w rr qq g0)), xI G (ma 14) 16 (gFro (mbaF w rr qq g0)), xI G (ma 15) 16 (gBto (mbaF w rr qq g0)), xI G (ma 16) 4 (gRl (mbaF w rr qq g0)), xI G (ma 17) 4 (gRn (mbaF w rr qq g0)), xI G (ma 18) 4 (gRh (mbaF w rr qq g0)), xI G (ma 21) 16 (mP (gZ (mbaF w rr qq g0))), xI G (ma 22) 16 (mL (gZ (mbaF w rr qq g0))), xZ G (ma 23) 16 (mT (gZ (mbaF w rr qq g0))), xI G (ma 24) 16 (mN (gZ (mbaF w rr qq g0))), xI G (ma 25) 16 (mX (gZ (mbaF w rr qq g0))), xZ G (ma 26) 16 (mB (gZ (mbaF w rr qq g0))), xI G (ma 27) 16 (mD (gZ (mbaF w rr qq g0))), xZ G (ma 28) 16 (mW (gZ (mbaF w rr qq g0))), xI G (ma 29) 16 (mR (gZ (mbaF w rr qq g0))), xI G (ma 30) 80 (mS (gZ (mbaF w rr qq g0))), xI G (ma 36) 16 (gHp (mbaF w rr qq g0)), xI G (ma 37) 16 (gHq (mbaF w rr qq g0)), xI G (ma 41) 4 (gBo (mbaF w rr qq g0))] (b2 (baQ w rr qq (gN g0) (gK g0))) := by
  refine xN_of (cc := cX5_back) (maxL := 4) (ty := .boolean) (by decide) rfl (Nat.le_of_ble_eq_true rfl) ?_
  intro p e s m below meth cO ls Q A hx hb hml hown hts hP hK hD hS hA hl hq
  have hown : s.vm.findClass RX5 = some m.cls := hown
  have kl51 := hts (.fieldLink RX5 51 "WorkBoardModel" "backFrom" "[I") (List.mem_of_getElem? (i := 1) rfl)
  have kl54 := hts (.fieldLink RX5 54 "WorkBoardModel" "backTo" "[I") (List.mem_of_getElem? (i := 2) rfl)
  have kl116 := hts (.fieldLink RX5 116 "WorkBoardModel" "isFresh" "Z") (List.mem_of_getElem? (i := 3) rfl)
  have inX5 : ∀ w ∈ u_ws RX5 TX5 42, w ∈ wsX5_back := (fun w h => List.mem_cons_of_mem _ (List.mem_append_right _ h))
  obtain ⟨hn, hnc, hw, hcm⟩ := id hG
  have hl : lv_has ls 4 [(0, .ref mA), (1, .int w), (2, .int rr), (3, .int qq)] := hl
  have hD : va_D A [oModel mA ma (nI (gK g0)) (nI (gN g0)) (gLp g0) (gOp g0) (gRp g0) (gRa g0) (nI (mK (gZ g0))) (mE (gZ g0)) (mM (gZ g0)) (mV (gZ g0)) (nI (mH (gZ g0))) (gFr g0) (gBu g0) (gBs g0), xI G (ma 2) 4 (gLl g0), xI G (ma 3) 4 (gLn g0), xI G (ma 4) 4 (gLh g0), xI G (ma 6) 4 (gOl g0), xI G (ma 7) 4 (gOn g0), xI G (ma 8) 4 (gOh g0), xI G (ma 10) 16 (gDay g0), xZ G (ma 11) 16 (gUrg g0), xI G (ma 12) 64 (gSzs g0), xI G (ma 13) 16 (gWai g0), xI G (ma 14) 16 (gFro g0), xI G (ma 15) 16 (gBto g0), xI G (ma 16) 4 (gRl g0), xI G (ma 17) 4 (gRn g0), xI G (ma 18) 4 (gRh g0), xI G (ma 21) 16 (mP (gZ g0)), xI G (ma 22) 16 (mL (gZ g0)), xZ G (ma 23) 16 (mT (gZ g0)), xI G (ma 24) 16 (mN (gZ g0)), xI G (ma 25) 16 (mX (gZ g0)), xZ G (ma 26) 16 (mB (gZ g0)), xI G (ma 27) 16 (mD (gZ g0)), xZ G (ma 28) 16 (mW (gZ g0)), xI G (ma 29) 16 (mR (gZ g0)), xI G (ma 30) 80 (mS (gZ g0)), xI G (ma 36) 16 (gHp g0), xI G (ma 37) 16 (gHq g0), xI G (ma 41) 4 (gBo g0)] := hD
  obtain ⟨H, hH⟩ : ∃ z, z = s.heap := ⟨_, rfl⟩
  obtain ⟨locs, hlocs⟩ : ∃ z : List Loc, z = [] := ⟨_, rfl⟩
  have hS : va_S A s.heap H locs := by rw [hH, hlocs]; exact hS
  have hP : va_P (xD G) vwCl [oModel mA ma (nI (gK g0)) (nI (gN g0)) (gLp g0) (gOp g0) (gRp g0) (gRa g0) (nI (mK (gZ g0))) (mE (gZ g0)) (mM (gZ g0)) (mV (gZ g0)) (nI (mH (gZ g0))) (gFr g0) (gBu g0) (gBs g0), xI G (ma 2) 4 (gLl g0), xI G (ma 3) 4 (gLn g0), xI G (ma 4) 4 (gLh g0), xI G (ma 6) 4 (gOl g0), xI G (ma 7) 4 (gOn g0), xI G (ma 8) 4 (gOh g0), xI G (ma 10) 16 (gDay g0), xZ G (ma 11) 16 (gUrg g0), xI G (ma 12) 64 (gSzs g0), xI G (ma 13) 16 (gWai g0), xI G (ma 14) 16 (gFro g0), xI G (ma 15) 16 (gBto g0), xI G (ma 16) 4 (gRl g0), xI G (ma 17) 4 (gRn g0), xI G (ma 18) 4 (gRh g0), xI G (ma 21) 16 (mP (gZ g0)), xI G (ma 22) 16 (mL (gZ g0)), xZ G (ma 23) 16 (mT (gZ g0)), xI G (ma 24) 16 (mN (gZ g0)), xI G (ma 25) 16 (mX (gZ g0)), xZ G (ma 26) 16 (mB (gZ g0)), xI G (ma 27) 16 (mD (gZ g0)), xZ G (ma 28) 16 (mW (gZ g0)), xI G (ma 29) 16 (mR (gZ g0)), xI G (ma 30) 80 (mS (gZ g0)), xI G (ma 36) 16 (gHp g0), xI G (ma 37) 16 (gHq g0), xI G (ma 41) 4 (gBo g0)] H := by rw [hH]; exact hP
  rw [← hH, ← hlocs]
  clear hH hlocs
  refine lv_aload_n hx hb dX5_back_0 rfl (lv_at hl 0 rfl) ?_
  refine lv_iload_n hx hb dX5_back_1 rfl (lv_at hl 1 rfl) ?_
  refine x_callR (As := [.int w]) (rest := []) (ci := 5) (q0 := 0) ⟨hx, hb, hml, hown, hts⟩ (mX5_isCard l G mA ma (nI (gK g0)) (gN g0) (gLp g0) (gOp g0) (gRp g0) (gRa g0) (nI (mK (gZ g0))) (mE (gZ g0)) (mM (gZ g0)) (mV (gZ g0)) (nI (mH (gZ g0))) (gFr g0) (gBu g0) (gBs g0) w (by first | assumption | omega)) (cwV 1 hts gX5_back_X5_isCard rfl rfl rfl (by decide +kernel) ⟨Nat.le_of_ble_eq_true rfl, Nat.le_of_ble_eq_true rfl⟩) hK hP hD [0] rfl rfl rfl rfl rfl rfl rfl hl.1 rfl (Nat.le_of_ble_eq_true rfl) dX5_back_2 ⟨Nat.zero_le _, Nat.zero_le _⟩ (fun r hr => ?_)
  subst hr
  refine x_if_eq (P := inC w (nI (gN g0))) (tgt := 32) hx hb dX5_back_5 (by decide) (fun c5 => ?_) (fun c5 => ?_)
  · skip
    refine lv_iconst (v := 0) hx hb dX5_back_32 (by decide) ?_
    have eF : mbaF w rr qq g0 = g0 := if_neg (fun h => c5 h.1)
    rw [eF] at hq
    exact hq 0 H locs 33 ls dX5_back_33 rfl ((b2_f (fun h => c5 h.1)).symm) (by skip; exact hP) (by skip; exact hD) hS
  · skip
    have hwx := vp_of c5.1 c5.2 (by omega)
    have hwxb : w.toNatClampNeg < gN g0 := vp_lt hwx
    refine lv_iload_n hx hb dX5_back_8 rfl (lv_at hl 2 rfl) ?_
    refine lv_iconst (v := (-1)) hx hb dX5_back_9 (by decide) ?_
    refine lv_icmp_eq (x := rr) (y := (-1)) (tgt := 34) hx hb dX5_back_10 (by decide) (fun c10 => ?_) (fun c10 => ?_)
    · skip
      have hv : baQ w rr qq (gN g0) (gK g0) := ⟨c5, Or.inl c10⟩
      have eQ : (if rr = -1 then (-1 : Int32) else qq) = -1 := if_pos c10
      refine lv_aload_n hx hb dX5_back_34 rfl (lv_at hl 0 rfl) ?_
      refine va_get (D := xD G) (ci := 5) (v := .ref (ma 14)) (C := RX5) (T := TX5) (N := 42) hx hb hts inX5 hown hK hP 0 rfl rfl 14 (by decide) kl51 (fun _ h9 => h9) rfl dX5_back_35 ?_
      refine lv_iload_n hx hb dX5_back_38 rfl (lv_at hl 1 rfl) ?_
      refine x_top (y := nI w.toNatClampNeg) (nI_self hwx) ?_
      refine lv_iload_n hx hb dX5_back_39 rfl (lv_at hl 2 rfl) ?_
      refine x_iast (i := w.toNatClampNeg) hx hb hK hP hD hS 11 rfl (by first | omega | assumption) (by omega) dX5_back_40 (fun H locs hP hD hS => ?_)
      have hP : va_P (xD G) vwCl [oModel mA ma (nI (gK g0)) (nI (gN g0)) (gLp g0) (gOp g0) (gRp g0) (gRa g0) (nI (mK (gZ g0))) (mE (gZ g0)) (mM (gZ g0)) (mV (gZ g0)) (nI (mH (gZ g0))) (gFr g0) (gBu g0) (gBs g0), xI G (ma 2) 4 (gLl g0), xI G (ma 3) 4 (gLn g0), xI G (ma 4) 4 (gLh g0), xI G (ma 6) 4 (gOl g0), xI G (ma 7) 4 (gOn g0), xI G (ma 8) 4 (gOh g0), xI G (ma 10) 16 (gDay g0), xZ G (ma 11) 16 (gUrg g0), xI G (ma 12) 64 (gSzs g0), xI G (ma 13) 16 (gWai g0), xI G (ma 14) 16 (upd (gFro g0) w.toNatClampNeg rr), xI G (ma 15) 16 (gBto g0), xI G (ma 16) 4 (gRl g0), xI G (ma 17) 4 (gRn g0), xI G (ma 18) 4 (gRh g0), xI G (ma 21) 16 (mP (gZ g0)), xI G (ma 22) 16 (mL (gZ g0)), xZ G (ma 23) 16 (mT (gZ g0)), xI G (ma 24) 16 (mN (gZ g0)), xI G (ma 25) 16 (mX (gZ g0)), xZ G (ma 26) 16 (mB (gZ g0)), xI G (ma 27) 16 (mD (gZ g0)), xZ G (ma 28) 16 (mW (gZ g0)), xI G (ma 29) 16 (mR (gZ g0)), xI G (ma 30) 80 (mS (gZ g0)), xI G (ma 36) 16 (gHp g0), xI G (ma 37) 16 (gHq g0), xI G (ma 41) 4 (gBo g0)] H := hP
      have hD : va_D A [oModel mA ma (nI (gK g0)) (nI (gN g0)) (gLp g0) (gOp g0) (gRp g0) (gRa g0) (nI (mK (gZ g0))) (mE (gZ g0)) (mM (gZ g0)) (mV (gZ g0)) (nI (mH (gZ g0))) (gFr g0) (gBu g0) (gBs g0), xI G (ma 2) 4 (gLl g0), xI G (ma 3) 4 (gLn g0), xI G (ma 4) 4 (gLh g0), xI G (ma 6) 4 (gOl g0), xI G (ma 7) 4 (gOn g0), xI G (ma 8) 4 (gOh g0), xI G (ma 10) 16 (gDay g0), xZ G (ma 11) 16 (gUrg g0), xI G (ma 12) 64 (gSzs g0), xI G (ma 13) 16 (gWai g0), xI G (ma 14) 16 (upd (gFro g0) w.toNatClampNeg rr), xI G (ma 15) 16 (gBto g0), xI G (ma 16) 4 (gRl g0), xI G (ma 17) 4 (gRn g0), xI G (ma 18) 4 (gRh g0), xI G (ma 21) 16 (mP (gZ g0)), xI G (ma 22) 16 (mL (gZ g0)), xZ G (ma 23) 16 (mT (gZ g0)), xI G (ma 24) 16 (mN (gZ g0)), xI G (ma 25) 16 (mX (gZ g0)), xZ G (ma 26) 16 (mB (gZ g0)), xI G (ma 27) 16 (mD (gZ g0)), xZ G (ma 28) 16 (mW (gZ g0)), xI G (ma 29) 16 (mR (gZ g0)), xI G (ma 30) 80 (mS (gZ g0)), xI G (ma 36) 16 (gHp g0), xI G (ma 37) 16 (gHq g0), xI G (ma 41) 4 (gBo g0)] := hD
      refine lv_aload_n hx hb dX5_back_41 rfl (lv_at hl 0 rfl) ?_
      refine va_get (D := xD G) (ci := 5) (v := .ref (ma 15)) (C := RX5) (T := TX5) (N := 42) hx hb hts inX5 hown hK hP 0 rfl rfl 15 (by decide) kl54 (fun _ h9 => h9) rfl dX5_back_42 ?_
      refine lv_iload_n hx hb dX5_back_45 rfl (lv_at hl 1 rfl) ?_
      refine x_top (y := nI w.toNatClampNeg) (nI_self hwx) ?_
      refine lv_iload_n hx hb dX5_back_46 rfl (lv_at hl 2 rfl) ?_
      refine lv_iconst (v := (-1)) hx hb dX5_back_47 (by decide) ?_
      refine lv_icmp_ne (x := rr) (y := (-1)) (tgt := 55) hx hb dX5_back_48 (by decide) (fun c48 => ?_) (fun c48 => ?_)
      · skip
        exact absurd c10 c48
      · skip
        refine lv_iconst (v := (-1)) hx hb dX5_back_51 (by decide) ?_
        refine lv_goto (tgt := 56) hx hb dX5_back_52 (by decide) ?_
        refine x_top (y := if rr = -1 then (-1 : Int32) else qq) eQ.symm ?_
        refine x_iast (i := w.toNatClampNeg) hx hb hK hP hD hS 12 rfl (by first | omega | assumption) (by omega) dX5_back_56 (fun H locs hP hD hS => ?_)
        have hP : va_P (xD G) vwCl [oModel mA ma (nI (gK g0)) (nI (gN g0)) (gLp g0) (gOp g0) (gRp g0) (gRa g0) (nI (mK (gZ g0))) (mE (gZ g0)) (mM (gZ g0)) (mV (gZ g0)) (nI (mH (gZ g0))) (gFr g0) (gBu g0) (gBs g0), xI G (ma 2) 4 (gLl g0), xI G (ma 3) 4 (gLn g0), xI G (ma 4) 4 (gLh g0), xI G (ma 6) 4 (gOl g0), xI G (ma 7) 4 (gOn g0), xI G (ma 8) 4 (gOh g0), xI G (ma 10) 16 (gDay g0), xZ G (ma 11) 16 (gUrg g0), xI G (ma 12) 64 (gSzs g0), xI G (ma 13) 16 (gWai g0), xI G (ma 14) 16 (upd (gFro g0) w.toNatClampNeg rr), xI G (ma 15) 16 (upd (gBto g0) w.toNatClampNeg (if rr = -1 then (-1 : Int32) else qq)), xI G (ma 16) 4 (gRl g0), xI G (ma 17) 4 (gRn g0), xI G (ma 18) 4 (gRh g0), xI G (ma 21) 16 (mP (gZ g0)), xI G (ma 22) 16 (mL (gZ g0)), xZ G (ma 23) 16 (mT (gZ g0)), xI G (ma 24) 16 (mN (gZ g0)), xI G (ma 25) 16 (mX (gZ g0)), xZ G (ma 26) 16 (mB (gZ g0)), xI G (ma 27) 16 (mD (gZ g0)), xZ G (ma 28) 16 (mW (gZ g0)), xI G (ma 29) 16 (mR (gZ g0)), xI G (ma 30) 80 (mS (gZ g0)), xI G (ma 36) 16 (gHp g0), xI G (ma 37) 16 (gHq g0), xI G (ma 41) 4 (gBo g0)] H := hP
        have hD : va_D A [oModel mA ma (nI (gK g0)) (nI (gN g0)) (gLp g0) (gOp g0) (gRp g0) (gRa g0) (nI (mK (gZ g0))) (mE (gZ g0)) (mM (gZ g0)) (mV (gZ g0)) (nI (mH (gZ g0))) (gFr g0) (gBu g0) (gBs g0), xI G (ma 2) 4 (gLl g0), xI G (ma 3) 4 (gLn g0), xI G (ma 4) 4 (gLh g0), xI G (ma 6) 4 (gOl g0), xI G (ma 7) 4 (gOn g0), xI G (ma 8) 4 (gOh g0), xI G (ma 10) 16 (gDay g0), xZ G (ma 11) 16 (gUrg g0), xI G (ma 12) 64 (gSzs g0), xI G (ma 13) 16 (gWai g0), xI G (ma 14) 16 (upd (gFro g0) w.toNatClampNeg rr), xI G (ma 15) 16 (upd (gBto g0) w.toNatClampNeg (if rr = -1 then (-1 : Int32) else qq)), xI G (ma 16) 4 (gRl g0), xI G (ma 17) 4 (gRn g0), xI G (ma 18) 4 (gRh g0), xI G (ma 21) 16 (mP (gZ g0)), xI G (ma 22) 16 (mL (gZ g0)), xZ G (ma 23) 16 (mT (gZ g0)), xI G (ma 24) 16 (mN (gZ g0)), xI G (ma 25) 16 (mX (gZ g0)), xZ G (ma 26) 16 (mB (gZ g0)), xI G (ma 27) 16 (mD (gZ g0)), xZ G (ma 28) 16 (mW (gZ g0)), xI G (ma 29) 16 (mR (gZ g0)), xI G (ma 30) 80 (mS (gZ g0)), xI G (ma 36) 16 (gHp g0), xI G (ma 37) 16 (gHq g0), xI G (ma 41) 4 (gBo g0)] := hD
        refine lv_aload_n hx hb dX5_back_57 rfl (lv_at hl 0 rfl) ?_
        refine lv_iconst (v := 0) hx hb dX5_back_58 (by decide) ?_
        refine va_put (D := xD G) (ci := 5) (v := .int 0) (ty := .boolean) (C := RX5) (T := TX5) (N := 42) hx hb hts inX5 tyX5 tyX5_ok nmX5 hown hK hP hD hS 0 rfl rfl 38 (by decide) kl116 (fun _ h9 => h9) rfl (by decide +kernel) rfl rfl (Nat.le_of_ble_eq_true rfl) dX5_back_59 (fun H locs hP hD hS => ?_)
        have hP : va_P (xD G) vwCl [oModel mA ma (nI (gK g0)) (nI (gN g0)) (gLp g0) (gOp g0) (gRp g0) (gRa g0) (nI (mK (gZ g0))) (mE (gZ g0)) (mM (gZ g0)) (mV (gZ g0)) (nI (mH (gZ g0))) 0 (gBu g0) (gBs g0), xI G (ma 2) 4 (gLl g0), xI G (ma 3) 4 (gLn g0), xI G (ma 4) 4 (gLh g0), xI G (ma 6) 4 (gOl g0), xI G (ma 7) 4 (gOn g0), xI G (ma 8) 4 (gOh g0), xI G (ma 10) 16 (gDay g0), xZ G (ma 11) 16 (gUrg g0), xI G (ma 12) 64 (gSzs g0), xI G (ma 13) 16 (gWai g0), xI G (ma 14) 16 (upd (gFro g0) w.toNatClampNeg rr), xI G (ma 15) 16 (upd (gBto g0) w.toNatClampNeg (if rr = -1 then (-1 : Int32) else qq)), xI G (ma 16) 4 (gRl g0), xI G (ma 17) 4 (gRn g0), xI G (ma 18) 4 (gRh g0), xI G (ma 21) 16 (mP (gZ g0)), xI G (ma 22) 16 (mL (gZ g0)), xZ G (ma 23) 16 (mT (gZ g0)), xI G (ma 24) 16 (mN (gZ g0)), xI G (ma 25) 16 (mX (gZ g0)), xZ G (ma 26) 16 (mB (gZ g0)), xI G (ma 27) 16 (mD (gZ g0)), xZ G (ma 28) 16 (mW (gZ g0)), xI G (ma 29) 16 (mR (gZ g0)), xI G (ma 30) 80 (mS (gZ g0)), xI G (ma 36) 16 (gHp g0), xI G (ma 37) 16 (gHq g0), xI G (ma 41) 4 (gBo g0)] H := hP
        have hD : va_D A [oModel mA ma (nI (gK g0)) (nI (gN g0)) (gLp g0) (gOp g0) (gRp g0) (gRa g0) (nI (mK (gZ g0))) (mE (gZ g0)) (mM (gZ g0)) (mV (gZ g0)) (nI (mH (gZ g0))) 0 (gBu g0) (gBs g0), xI G (ma 2) 4 (gLl g0), xI G (ma 3) 4 (gLn g0), xI G (ma 4) 4 (gLh g0), xI G (ma 6) 4 (gOl g0), xI G (ma 7) 4 (gOn g0), xI G (ma 8) 4 (gOh g0), xI G (ma 10) 16 (gDay g0), xZ G (ma 11) 16 (gUrg g0), xI G (ma 12) 64 (gSzs g0), xI G (ma 13) 16 (gWai g0), xI G (ma 14) 16 (upd (gFro g0) w.toNatClampNeg rr), xI G (ma 15) 16 (upd (gBto g0) w.toNatClampNeg (if rr = -1 then (-1 : Int32) else qq)), xI G (ma 16) 4 (gRl g0), xI G (ma 17) 4 (gRn g0), xI G (ma 18) 4 (gRh g0), xI G (ma 21) 16 (mP (gZ g0)), xI G (ma 22) 16 (mL (gZ g0)), xZ G (ma 23) 16 (mT (gZ g0)), xI G (ma 24) 16 (mN (gZ g0)), xI G (ma 25) 16 (mX (gZ g0)), xZ G (ma 26) 16 (mB (gZ g0)), xI G (ma 27) 16 (mD (gZ g0)), xZ G (ma 28) 16 (mW (gZ g0)), xI G (ma 29) 16 (mR (gZ g0)), xI G (ma 30) 80 (mS (gZ g0)), xI G (ma 36) 16 (gHp g0), xI G (ma 37) 16 (gHq g0), xI G (ma 41) 4 (gBo g0)] := hD
        refine lv_iconst (v := 1) hx hb dX5_back_62 (by decide) ?_
        have eF : mbaF w rr qq g0 = mbaT w.toNatClampNeg rr qq g0 := if_pos hv
        rw [eF] at hq
        exact hq 1 H locs 63 ls dX5_back_63 rfl ((b2_t hv).symm) (by skip; exact hP) (by skip; exact hD) hS
    · skip
      refine lv_aload_n hx hb dX5_back_13 rfl (lv_at hl 0 rfl) ?_
      refine lv_iload_n hx hb dX5_back_14 rfl (lv_at hl 2 rfl) ?_
      refine x_callR (As := [.int rr]) (rest := []) (ci := 5) (q0 := 0) ⟨hx, hb, hml, hown, hts⟩ (mX5_isColumn l G mA ma (gK g0) (gN g0) (gLp g0) (gOp g0) (gRp g0) (gRa g0) (nI (mK (gZ g0))) (mE (gZ g0)) (mM (gZ g0)) (mV (gZ g0)) (nI (mH (gZ g0))) (gFr g0) (gBu g0) (gBs g0) rr (by first | assumption | omega)) (cwV 1 hts gX5_back_X5_isColumn rfl rfl rfl (by decide +kernel) ⟨Nat.le_of_ble_eq_true rfl, Nat.le_of_ble_eq_true rfl⟩) hK hP hD [0] rfl rfl rfl rfl rfl rfl rfl hl.1 rfl (Nat.le_of_ble_eq_true rfl) dX5_back_15 ⟨Nat.zero_le _, Nat.zero_le _⟩ (fun r hr => ?_)
      subst hr
      refine x_if_eq (P := inC rr (nI (gK g0))) (tgt := 32) hx hb dX5_back_18 (by decide) (fun c18 => ?_) (fun c18 => ?_)
      · skip
        refine lv_iconst (v := 0) hx hb dX5_back_32 (by decide) ?_
        have eF : mbaF w rr qq g0 = g0 := if_neg (fun h => h.2.elim c10 (fun z => c18 z.1))
        rw [eF] at hq
        exact hq 0 H locs 33 ls dX5_back_33 rfl ((b2_f (fun h => h.2.elim c10 (fun z => c18 z.1))).symm) (by skip; exact hP) (by skip; exact hD) hS
      · skip
        refine lv_iload_n hx hb dX5_back_21 rfl (lv_at hl 3 rfl) ?_
        refine lv_iconst (v := 0) hx hb dX5_back_22 (by decide) ?_
        refine lv_iload_n hx hb dX5_back_23 rfl (lv_at hl 2 rfl) ?_
        refine lv_iconst (v := 1) hx hb dX5_back_24 (by decide) ?_
        refine lv_isub hx hb dX5_back_25 ?_
        refine x_callS (As := [.int qq, .int 0, .int (rr - 1)]) (rest := []) ⟨hx, hb, hml, hown, hts⟩ (mX5_in l G qq 0 (rr - 1) ) (va_cwS 3 hts gX5_back_X5_in rfl rfl rfl (by decide +kernel) ⟨Nat.le_of_ble_eq_true rfl, Nat.le_of_ble_eq_true rfl⟩) hK rfl hl.1 rfl (Nat.le_of_ble_eq_true rfl) dX5_back_26 ⟨Nat.zero_le _, Nat.zero_le _⟩ (fun r hr => ?_)
        subst hr
        refine x_if_ne (P := wiP qq 0 (rr - 1)) (tgt := 34) hx hb dX5_back_29 (by decide) (fun c29 => ?_) (fun c29 => ?_)
        · skip
          have hv : baQ w rr qq (gN g0) (gK g0) := ⟨c5, Or.inr ⟨c18, c29⟩⟩
          have eQ : (if rr = -1 then (-1 : Int32) else qq) = qq := if_neg c10
          refine lv_aload_n hx hb dX5_back_34 rfl (lv_at hl 0 rfl) ?_
          refine va_get (D := xD G) (ci := 5) (v := .ref (ma 14)) (C := RX5) (T := TX5) (N := 42) hx hb hts inX5 hown hK hP 0 rfl rfl 14 (by decide) kl51 (fun _ h9 => h9) rfl dX5_back_35 ?_
          refine lv_iload_n hx hb dX5_back_38 rfl (lv_at hl 1 rfl) ?_
          refine x_top (y := nI w.toNatClampNeg) (nI_self hwx) ?_
          refine lv_iload_n hx hb dX5_back_39 rfl (lv_at hl 2 rfl) ?_
          refine x_iast (i := w.toNatClampNeg) hx hb hK hP hD hS 11 rfl (by first | omega | assumption) (by omega) dX5_back_40 (fun H locs hP hD hS => ?_)
          have hP : va_P (xD G) vwCl [oModel mA ma (nI (gK g0)) (nI (gN g0)) (gLp g0) (gOp g0) (gRp g0) (gRa g0) (nI (mK (gZ g0))) (mE (gZ g0)) (mM (gZ g0)) (mV (gZ g0)) (nI (mH (gZ g0))) (gFr g0) (gBu g0) (gBs g0), xI G (ma 2) 4 (gLl g0), xI G (ma 3) 4 (gLn g0), xI G (ma 4) 4 (gLh g0), xI G (ma 6) 4 (gOl g0), xI G (ma 7) 4 (gOn g0), xI G (ma 8) 4 (gOh g0), xI G (ma 10) 16 (gDay g0), xZ G (ma 11) 16 (gUrg g0), xI G (ma 12) 64 (gSzs g0), xI G (ma 13) 16 (gWai g0), xI G (ma 14) 16 (upd (gFro g0) w.toNatClampNeg rr), xI G (ma 15) 16 (gBto g0), xI G (ma 16) 4 (gRl g0), xI G (ma 17) 4 (gRn g0), xI G (ma 18) 4 (gRh g0), xI G (ma 21) 16 (mP (gZ g0)), xI G (ma 22) 16 (mL (gZ g0)), xZ G (ma 23) 16 (mT (gZ g0)), xI G (ma 24) 16 (mN (gZ g0)), xI G (ma 25) 16 (mX (gZ g0)), xZ G (ma 26) 16 (mB (gZ g0)), xI G (ma 27) 16 (mD (gZ g0)), xZ G (ma 28) 16 (mW (gZ g0)), xI G (ma 29) 16 (mR (gZ g0)), xI G (ma 30) 80 (mS (gZ g0)), xI G (ma 36) 16 (gHp g0), xI G (ma 37) 16 (gHq g0), xI G (ma 41) 4 (gBo g0)] H := hP
          have hD : va_D A [oModel mA ma (nI (gK g0)) (nI (gN g0)) (gLp g0) (gOp g0) (gRp g0) (gRa g0) (nI (mK (gZ g0))) (mE (gZ g0)) (mM (gZ g0)) (mV (gZ g0)) (nI (mH (gZ g0))) (gFr g0) (gBu g0) (gBs g0), xI G (ma 2) 4 (gLl g0), xI G (ma 3) 4 (gLn g0), xI G (ma 4) 4 (gLh g0), xI G (ma 6) 4 (gOl g0), xI G (ma 7) 4 (gOn g0), xI G (ma 8) 4 (gOh g0), xI G (ma 10) 16 (gDay g0), xZ G (ma 11) 16 (gUrg g0), xI G (ma 12) 64 (gSzs g0), xI G (ma 13) 16 (gWai g0), xI G (ma 14) 16 (upd (gFro g0) w.toNatClampNeg rr), xI G (ma 15) 16 (gBto g0), xI G (ma 16) 4 (gRl g0), xI G (ma 17) 4 (gRn g0), xI G (ma 18) 4 (gRh g0), xI G (ma 21) 16 (mP (gZ g0)), xI G (ma 22) 16 (mL (gZ g0)), xZ G (ma 23) 16 (mT (gZ g0)), xI G (ma 24) 16 (mN (gZ g0)), xI G (ma 25) 16 (mX (gZ g0)), xZ G (ma 26) 16 (mB (gZ g0)), xI G (ma 27) 16 (mD (gZ g0)), xZ G (ma 28) 16 (mW (gZ g0)), xI G (ma 29) 16 (mR (gZ g0)), xI G (ma 30) 80 (mS (gZ g0)), xI G (ma 36) 16 (gHp g0), xI G (ma 37) 16 (gHq g0), xI G (ma 41) 4 (gBo g0)] := hD
          refine lv_aload_n hx hb dX5_back_41 rfl (lv_at hl 0 rfl) ?_
          refine va_get (D := xD G) (ci := 5) (v := .ref (ma 15)) (C := RX5) (T := TX5) (N := 42) hx hb hts inX5 hown hK hP 0 rfl rfl 15 (by decide) kl54 (fun _ h9 => h9) rfl dX5_back_42 ?_
          refine lv_iload_n hx hb dX5_back_45 rfl (lv_at hl 1 rfl) ?_
          refine x_top (y := nI w.toNatClampNeg) (nI_self hwx) ?_
          refine lv_iload_n hx hb dX5_back_46 rfl (lv_at hl 2 rfl) ?_
          refine lv_iconst (v := (-1)) hx hb dX5_back_47 (by decide) ?_
          refine lv_icmp_ne (x := rr) (y := (-1)) (tgt := 55) hx hb dX5_back_48 (by decide) (fun c48 => ?_) (fun c48 => ?_)
          · skip
            refine lv_iload_n hx hb dX5_back_55 rfl (lv_at hl 3 rfl) ?_
            refine x_top (y := if rr = -1 then (-1 : Int32) else qq) eQ.symm ?_
            refine x_iast (i := w.toNatClampNeg) hx hb hK hP hD hS 12 rfl (by first | omega | assumption) (by omega) dX5_back_56 (fun H locs hP hD hS => ?_)
            have hP : va_P (xD G) vwCl [oModel mA ma (nI (gK g0)) (nI (gN g0)) (gLp g0) (gOp g0) (gRp g0) (gRa g0) (nI (mK (gZ g0))) (mE (gZ g0)) (mM (gZ g0)) (mV (gZ g0)) (nI (mH (gZ g0))) (gFr g0) (gBu g0) (gBs g0), xI G (ma 2) 4 (gLl g0), xI G (ma 3) 4 (gLn g0), xI G (ma 4) 4 (gLh g0), xI G (ma 6) 4 (gOl g0), xI G (ma 7) 4 (gOn g0), xI G (ma 8) 4 (gOh g0), xI G (ma 10) 16 (gDay g0), xZ G (ma 11) 16 (gUrg g0), xI G (ma 12) 64 (gSzs g0), xI G (ma 13) 16 (gWai g0), xI G (ma 14) 16 (upd (gFro g0) w.toNatClampNeg rr), xI G (ma 15) 16 (upd (gBto g0) w.toNatClampNeg (if rr = -1 then (-1 : Int32) else qq)), xI G (ma 16) 4 (gRl g0), xI G (ma 17) 4 (gRn g0), xI G (ma 18) 4 (gRh g0), xI G (ma 21) 16 (mP (gZ g0)), xI G (ma 22) 16 (mL (gZ g0)), xZ G (ma 23) 16 (mT (gZ g0)), xI G (ma 24) 16 (mN (gZ g0)), xI G (ma 25) 16 (mX (gZ g0)), xZ G (ma 26) 16 (mB (gZ g0)), xI G (ma 27) 16 (mD (gZ g0)), xZ G (ma 28) 16 (mW (gZ g0)), xI G (ma 29) 16 (mR (gZ g0)), xI G (ma 30) 80 (mS (gZ g0)), xI G (ma 36) 16 (gHp g0), xI G (ma 37) 16 (gHq g0), xI G (ma 41) 4 (gBo g0)] H := hP
            have hD : va_D A [oModel mA ma (nI (gK g0)) (nI (gN g0)) (gLp g0) (gOp g0) (gRp g0) (gRa g0) (nI (mK (gZ g0))) (mE (gZ g0)) (mM (gZ g0)) (mV (gZ g0)) (nI (mH (gZ g0))) (gFr g0) (gBu g0) (gBs g0), xI G (ma 2) 4 (gLl g0), xI G (ma 3) 4 (gLn g0), xI G (ma 4) 4 (gLh g0), xI G (ma 6) 4 (gOl g0), xI G (ma 7) 4 (gOn g0), xI G (ma 8) 4 (gOh g0), xI G (ma 10) 16 (gDay g0), xZ G (ma 11) 16 (gUrg g0), xI G (ma 12) 64 (gSzs g0), xI G (ma 13) 16 (gWai g0), xI G (ma 14) 16 (upd (gFro g0) w.toNatClampNeg rr), xI G (ma 15) 16 (upd (gBto g0) w.toNatClampNeg (if rr = -1 then (-1 : Int32) else qq)), xI G (ma 16) 4 (gRl g0), xI G (ma 17) 4 (gRn g0), xI G (ma 18) 4 (gRh g0), xI G (ma 21) 16 (mP (gZ g0)), xI G (ma 22) 16 (mL (gZ g0)), xZ G (ma 23) 16 (mT (gZ g0)), xI G (ma 24) 16 (mN (gZ g0)), xI G (ma 25) 16 (mX (gZ g0)), xZ G (ma 26) 16 (mB (gZ g0)), xI G (ma 27) 16 (mD (gZ g0)), xZ G (ma 28) 16 (mW (gZ g0)), xI G (ma 29) 16 (mR (gZ g0)), xI G (ma 30) 80 (mS (gZ g0)), xI G (ma 36) 16 (gHp g0), xI G (ma 37) 16 (gHq g0), xI G (ma 41) 4 (gBo g0)] := hD
            refine lv_aload_n hx hb dX5_back_57 rfl (lv_at hl 0 rfl) ?_
            refine lv_iconst (v := 0) hx hb dX5_back_58 (by decide) ?_
            refine va_put (D := xD G) (ci := 5) (v := .int 0) (ty := .boolean) (C := RX5) (T := TX5) (N := 42) hx hb hts inX5 tyX5 tyX5_ok nmX5 hown hK hP hD hS 0 rfl rfl 38 (by decide) kl116 (fun _ h9 => h9) rfl (by decide +kernel) rfl rfl (Nat.le_of_ble_eq_true rfl) dX5_back_59 (fun H locs hP hD hS => ?_)
            have hP : va_P (xD G) vwCl [oModel mA ma (nI (gK g0)) (nI (gN g0)) (gLp g0) (gOp g0) (gRp g0) (gRa g0) (nI (mK (gZ g0))) (mE (gZ g0)) (mM (gZ g0)) (mV (gZ g0)) (nI (mH (gZ g0))) 0 (gBu g0) (gBs g0), xI G (ma 2) 4 (gLl g0), xI G (ma 3) 4 (gLn g0), xI G (ma 4) 4 (gLh g0), xI G (ma 6) 4 (gOl g0), xI G (ma 7) 4 (gOn g0), xI G (ma 8) 4 (gOh g0), xI G (ma 10) 16 (gDay g0), xZ G (ma 11) 16 (gUrg g0), xI G (ma 12) 64 (gSzs g0), xI G (ma 13) 16 (gWai g0), xI G (ma 14) 16 (upd (gFro g0) w.toNatClampNeg rr), xI G (ma 15) 16 (upd (gBto g0) w.toNatClampNeg (if rr = -1 then (-1 : Int32) else qq)), xI G (ma 16) 4 (gRl g0), xI G (ma 17) 4 (gRn g0), xI G (ma 18) 4 (gRh g0), xI G (ma 21) 16 (mP (gZ g0)), xI G (ma 22) 16 (mL (gZ g0)), xZ G (ma 23) 16 (mT (gZ g0)), xI G (ma 24) 16 (mN (gZ g0)), xI G (ma 25) 16 (mX (gZ g0)), xZ G (ma 26) 16 (mB (gZ g0)), xI G (ma 27) 16 (mD (gZ g0)), xZ G (ma 28) 16 (mW (gZ g0)), xI G (ma 29) 16 (mR (gZ g0)), xI G (ma 30) 80 (mS (gZ g0)), xI G (ma 36) 16 (gHp g0), xI G (ma 37) 16 (gHq g0), xI G (ma 41) 4 (gBo g0)] H := hP
            have hD : va_D A [oModel mA ma (nI (gK g0)) (nI (gN g0)) (gLp g0) (gOp g0) (gRp g0) (gRa g0) (nI (mK (gZ g0))) (mE (gZ g0)) (mM (gZ g0)) (mV (gZ g0)) (nI (mH (gZ g0))) 0 (gBu g0) (gBs g0), xI G (ma 2) 4 (gLl g0), xI G (ma 3) 4 (gLn g0), xI G (ma 4) 4 (gLh g0), xI G (ma 6) 4 (gOl g0), xI G (ma 7) 4 (gOn g0), xI G (ma 8) 4 (gOh g0), xI G (ma 10) 16 (gDay g0), xZ G (ma 11) 16 (gUrg g0), xI G (ma 12) 64 (gSzs g0), xI G (ma 13) 16 (gWai g0), xI G (ma 14) 16 (upd (gFro g0) w.toNatClampNeg rr), xI G (ma 15) 16 (upd (gBto g0) w.toNatClampNeg (if rr = -1 then (-1 : Int32) else qq)), xI G (ma 16) 4 (gRl g0), xI G (ma 17) 4 (gRn g0), xI G (ma 18) 4 (gRh g0), xI G (ma 21) 16 (mP (gZ g0)), xI G (ma 22) 16 (mL (gZ g0)), xZ G (ma 23) 16 (mT (gZ g0)), xI G (ma 24) 16 (mN (gZ g0)), xI G (ma 25) 16 (mX (gZ g0)), xZ G (ma 26) 16 (mB (gZ g0)), xI G (ma 27) 16 (mD (gZ g0)), xZ G (ma 28) 16 (mW (gZ g0)), xI G (ma 29) 16 (mR (gZ g0)), xI G (ma 30) 80 (mS (gZ g0)), xI G (ma 36) 16 (gHp g0), xI G (ma 37) 16 (gHq g0), xI G (ma 41) 4 (gBo g0)] := hD
            refine lv_iconst (v := 1) hx hb dX5_back_62 (by decide) ?_
            have eF : mbaF w rr qq g0 = mbaT w.toNatClampNeg rr qq g0 := if_pos hv
            rw [eF] at hq
            exact hq 1 H locs 63 ls dX5_back_63 rfl ((b2_t hv).symm) (by skip; exact hP) (by skip; exact hD) hS
          · skip
            exact absurd c48 c10
        · skip
          refine lv_iconst (v := 0) hx hb dX5_back_32 (by decide) ?_
          have eF : mbaF w rr qq g0 = g0 := if_neg (fun h => h.2.elim c10 (fun z => c29 z.2))
          rw [eF] at hq
          exact hq 0 H locs 33 ls dX5_back_33 rfl ((b2_f (fun h => h.2.elim c10 (fun z => c29 z.2))).symm) (by skip; exact hP) (by skip; exact hD) hS
set_option maxHeartbeats 4000000 in
set_option maxRecDepth 100000 in
theorem mX5_other (l : Launch) (G : xG) (mA : Nat) (ma : Nat → Nat) (g0 : MM) (what : Int32) (k : Int32) (v : Int32)  (hG : GI g0) : xN l yX5_other wsX5_other ({ frames := 2, cells := 0, slots := 0, locals := 43 } : Room) [.ref mA, .int what, .int k, .int v] G [oModel mA ma (nI (gK g0)) (nI (gN g0)) (gLp g0) (gOp g0) (gRp g0) (gRa g0) (nI (mK (gZ g0))) (mE (gZ g0)) (mM (gZ g0)) (mV (gZ g0)) (nI (mH (gZ g0))) (gFr g0) (gBu g0) (gBs g0), xI G (ma 2) 4 (gLl g0), xI G (ma 3) 4 (gLn g0), xI G (ma 4) 4 (gLh g0), xI G (ma 6) 4 (gOl g0), xI G (ma 7) 4 (gOn g0), xI G (ma 8) 4 (gOh g0), xI G (ma 10) 16 (gDay g0), xZ G (ma 11) 16 (gUrg g0), xI G (ma 12) 64 (gSzs g0), xI G (ma 13) 16 (gWai g0), xI G (ma 14) 16 (gFro g0), xI G (ma 15) 16 (gBto g0), xI G (ma 16) 4 (gRl g0), xI G (ma 17) 4 (gRn g0), xI G (ma 18) 4 (gRh g0), xI G (ma 21) 16 (mP (gZ g0)), xI G (ma 22) 16 (mL (gZ g0)), xZ G (ma 23) 16 (mT (gZ g0)), xI G (ma 24) 16 (mN (gZ g0)), xI G (ma 25) 16 (mX (gZ g0)), xZ G (ma 26) 16 (mB (gZ g0)), xI G (ma 27) 16 (mD (gZ g0)), xZ G (ma 28) 16 (mW (gZ g0)), xI G (ma 29) 16 (mR (gZ g0)), xI G (ma 30) 80 (mS (gZ g0)), xI G (ma 36) 16 (gHp g0), xI G (ma 37) 16 (gHq g0), xI G (ma 41) 4 (gBo g0)] [oModel mA ma (nI (gK (motF what k v g0))) (nI (gN (motF what k v g0))) (gLp (motF what k v g0)) (gOp (motF what k v g0)) (gRp (motF what k v g0)) (gRa (motF what k v g0)) (nI (mK (gZ (motF what k v g0)))) (mE (gZ (motF what k v g0))) (mM (gZ (motF what k v g0))) (mV (gZ (motF what k v g0))) (nI (mH (gZ (motF what k v g0)))) (gFr (motF what k v g0)) (gBu (motF what k v g0)) (gBs (motF what k v g0)), xI G (ma 2) 4 (gLl (motF what k v g0)), xI G (ma 3) 4 (gLn (motF what k v g0)), xI G (ma 4) 4 (gLh (motF what k v g0)), xI G (ma 6) 4 (gOl (motF what k v g0)), xI G (ma 7) 4 (gOn (motF what k v g0)), xI G (ma 8) 4 (gOh (motF what k v g0)), xI G (ma 10) 16 (gDay (motF what k v g0)), xZ G (ma 11) 16 (gUrg (motF what k v g0)), xI G (ma 12) 64 (gSzs (motF what k v g0)), xI G (ma 13) 16 (gWai (motF what k v g0)), xI G (ma 14) 16 (gFro (motF what k v g0)), xI G (ma 15) 16 (gBto (motF what k v g0)), xI G (ma 16) 4 (gRl (motF what k v g0)), xI G (ma 17) 4 (gRn (motF what k v g0)), xI G (ma 18) 4 (gRh (motF what k v g0)), xI G (ma 21) 16 (mP (gZ (motF what k v g0))), xI G (ma 22) 16 (mL (gZ (motF what k v g0))), xZ G (ma 23) 16 (mT (gZ (motF what k v g0))), xI G (ma 24) 16 (mN (gZ (motF what k v g0))), xI G (ma 25) 16 (mX (gZ (motF what k v g0))), xZ G (ma 26) 16 (mB (gZ (motF what k v g0))), xI G (ma 27) 16 (mD (gZ (motF what k v g0))), xZ G (ma 28) 16 (mW (gZ (motF what k v g0))), xI G (ma 29) 16 (mR (gZ (motF what k v g0))), xI G (ma 30) 80 (mS (gZ (motF what k v g0))), xI G (ma 36) 16 (gHp (motF what k v g0)), xI G (ma 37) 16 (gHq (motF what k v g0)), xI G (ma 41) 4 (gBo (motF what k v g0))] (b2 (moP what k v (gK g0))) := by
  refine xN_of (cc := cX5_other) (maxL := 4) (ty := .boolean) (by decide) rfl (Nat.le_of_ble_eq_true rfl) ?_
  intro p e s m below meth cO ls Q A hx hb hml hown hts hP hK hD hS hA hl hq
  have hown : s.vm.findClass RX5 = some m.cls := hown
  have kl26 := hts (.fieldLink RX5 26 "WorkBoardModel" "otherLimit" "[I") (List.mem_of_getElem? (i := 1) rfl)
  have kl29 := hts (.fieldLink RX5 29 "WorkBoardModel" "otherLane" "[I") (List.mem_of_getElem? (i := 2) rfl)
  have kl32 := hts (.fieldLink RX5 32 "WorkBoardModel" "otherHands" "[I") (List.mem_of_getElem? (i := 3) rfl)
  have kl35 := hts (.fieldLink RX5 35 "WorkBoardModel" "otherPace" "I") (List.mem_of_getElem? (i := 4) rfl)
  have inX5 : ∀ w ∈ u_ws RX5 TX5 42, w ∈ wsX5_other := (fun w h => List.mem_cons_of_mem _ (List.mem_append_right _ h))
  obtain ⟨hn, hnc, hw, hcm⟩ := id hG
  have hl : lv_has ls 4 [(0, .ref mA), (1, .int what), (2, .int k), (3, .int v)] := hl
  have hD : va_D A [oModel mA ma (nI (gK g0)) (nI (gN g0)) (gLp g0) (gOp g0) (gRp g0) (gRa g0) (nI (mK (gZ g0))) (mE (gZ g0)) (mM (gZ g0)) (mV (gZ g0)) (nI (mH (gZ g0))) (gFr g0) (gBu g0) (gBs g0), xI G (ma 2) 4 (gLl g0), xI G (ma 3) 4 (gLn g0), xI G (ma 4) 4 (gLh g0), xI G (ma 6) 4 (gOl g0), xI G (ma 7) 4 (gOn g0), xI G (ma 8) 4 (gOh g0), xI G (ma 10) 16 (gDay g0), xZ G (ma 11) 16 (gUrg g0), xI G (ma 12) 64 (gSzs g0), xI G (ma 13) 16 (gWai g0), xI G (ma 14) 16 (gFro g0), xI G (ma 15) 16 (gBto g0), xI G (ma 16) 4 (gRl g0), xI G (ma 17) 4 (gRn g0), xI G (ma 18) 4 (gRh g0), xI G (ma 21) 16 (mP (gZ g0)), xI G (ma 22) 16 (mL (gZ g0)), xZ G (ma 23) 16 (mT (gZ g0)), xI G (ma 24) 16 (mN (gZ g0)), xI G (ma 25) 16 (mX (gZ g0)), xZ G (ma 26) 16 (mB (gZ g0)), xI G (ma 27) 16 (mD (gZ g0)), xZ G (ma 28) 16 (mW (gZ g0)), xI G (ma 29) 16 (mR (gZ g0)), xI G (ma 30) 80 (mS (gZ g0)), xI G (ma 36) 16 (gHp g0), xI G (ma 37) 16 (gHq g0), xI G (ma 41) 4 (gBo g0)] := hD
  obtain ⟨H, hH⟩ : ∃ z, z = s.heap := ⟨_, rfl⟩
  obtain ⟨locs, hlocs⟩ : ∃ z : List Loc, z = [] := ⟨_, rfl⟩
  have hS : va_S A s.heap H locs := by rw [hH, hlocs]; exact hS
  have hP : va_P (xD G) vwCl [oModel mA ma (nI (gK g0)) (nI (gN g0)) (gLp g0) (gOp g0) (gRp g0) (gRa g0) (nI (mK (gZ g0))) (mE (gZ g0)) (mM (gZ g0)) (mV (gZ g0)) (nI (mH (gZ g0))) (gFr g0) (gBu g0) (gBs g0), xI G (ma 2) 4 (gLl g0), xI G (ma 3) 4 (gLn g0), xI G (ma 4) 4 (gLh g0), xI G (ma 6) 4 (gOl g0), xI G (ma 7) 4 (gOn g0), xI G (ma 8) 4 (gOh g0), xI G (ma 10) 16 (gDay g0), xZ G (ma 11) 16 (gUrg g0), xI G (ma 12) 64 (gSzs g0), xI G (ma 13) 16 (gWai g0), xI G (ma 14) 16 (gFro g0), xI G (ma 15) 16 (gBto g0), xI G (ma 16) 4 (gRl g0), xI G (ma 17) 4 (gRn g0), xI G (ma 18) 4 (gRh g0), xI G (ma 21) 16 (mP (gZ g0)), xI G (ma 22) 16 (mL (gZ g0)), xZ G (ma 23) 16 (mT (gZ g0)), xI G (ma 24) 16 (mN (gZ g0)), xI G (ma 25) 16 (mX (gZ g0)), xZ G (ma 26) 16 (mB (gZ g0)), xI G (ma 27) 16 (mD (gZ g0)), xZ G (ma 28) 16 (mW (gZ g0)), xI G (ma 29) 16 (mR (gZ g0)), xI G (ma 30) 80 (mS (gZ g0)), xI G (ma 36) 16 (gHp g0), xI G (ma 37) 16 (gHq g0), xI G (ma 41) 4 (gBo g0)] H := by rw [hH]; exact hP
  rw [← hH, ← hlocs]
  clear hH hlocs
  rcases ot_c what with hw5 | hw5 | hw5 | hw5 | hw5
  · skip
    have h0 : what = 0 := hw5
    have h1 : ¬ what = 1 := by rw [hw5]; decide
    have h2 : ¬ what = 2 := by rw [hw5]; decide
    have h3 : ¬ what = 3 := by rw [hw5]; decide
    have hge : ¬ 3 ≤ what := by rw [hw5]; decide
    have hin : wiP what 0 3 := by rw [hw5]; decide
    refine lv_iload_n hx hb dX5_other_0 rfl (lv_at hl 1 rfl) ?_
    refine lv_iconst (v := 0) hx hb dX5_other_1 (by decide) ?_
    refine lv_iconst (v := 3) hx hb dX5_other_2 (by decide) ?_
    refine x_callS (As := [.int what, .int 0, .int 3]) (rest := []) ⟨hx, hb, hml, hown, hts⟩ (mX5_in l G what 0 3 ) (va_cwS 3 hts gX5_other_X5_in rfl rfl rfl (by decide +kernel) ⟨Nat.le_of_ble_eq_true rfl, Nat.le_of_ble_eq_true rfl⟩) hK rfl hl.1 rfl (Nat.le_of_ble_eq_true rfl) dX5_other_3 ⟨Nat.zero_le _, Nat.zero_le _⟩ (fun r hr => ?_)
    subst hr
    refine x_if_eq (P := wiP what 0 3) (tgt := 22) hx hb dX5_other_6 (by decide) (fun c6 => ?_) (fun c6 => ?_)
    · skip
      exact absurd hin c6
    · skip
      refine lv_iload_n hx hb dX5_other_9 rfl (lv_at hl 1 rfl) ?_
      refine lv_iconst (v := 3) hx hb dX5_other_10 (by decide) ?_
      refine lv_icmp_ge (x := what) (y := 3) (tgt := 24) hx hb dX5_other_11 (by decide) (fun c11 => ?_) (fun c11 => ?_)
      · skip
        exact absurd c11 hge
      · skip
        refine lv_aload_n hx hb dX5_other_14 rfl (lv_at hl 0 rfl) ?_
        refine lv_iload_n hx hb dX5_other_15 rfl (lv_at hl 2 rfl) ?_
        refine x_callR (As := [.int k]) (rest := []) (ci := 5) (q0 := 0) ⟨hx, hb, hml, hown, hts⟩ (mX5_isColumn l G mA ma (gK g0) (gN g0) (gLp g0) (gOp g0) (gRp g0) (gRa g0) (nI (mK (gZ g0))) (mE (gZ g0)) (mM (gZ g0)) (mV (gZ g0)) (nI (mH (gZ g0))) (gFr g0) (gBu g0) (gBs g0) k (by first | assumption | omega)) (cwV 1 hts gX5_other_X5_isColumn rfl rfl rfl (by decide +kernel) ⟨Nat.le_of_ble_eq_true rfl, Nat.le_of_ble_eq_true rfl⟩) hK hP hD [0] rfl rfl rfl rfl rfl rfl rfl hl.1 rfl (Nat.le_of_ble_eq_true rfl) dX5_other_16 ⟨Nat.zero_le _, Nat.zero_le _⟩ (fun r hr => ?_)
        subst hr
        refine x_if_ne (P := inC k (nI (gK g0))) (tgt := 24) hx hb dX5_other_19 (by decide) (fun c19 => ?_) (fun c19 => ?_)
        · skip
          refine lv_iload_n hx hb dX5_other_24 rfl (lv_at hl 3 rfl) ?_
          refine lv_iconst (v := (-1)) hx hb dX5_other_25 (by decide) ?_
          refine lv_icmp_eq (x := v) (y := (-1)) (tgt := 69) hx hb dX5_other_26 (by decide) (fun c26 => ?_) (fun c26 => ?_)
          · skip
            have hv : moP what k v (gK g0) := Or.inl ⟨h0, c19, by rw [c26]; decide⟩
            have hk := vp_of c19.1 c19.2 (by omega)
            have hkb : k.toNatClampNeg < gK g0 := vp_lt hk
            refine lv_iload_n hx hb dX5_other_69 rfl (lv_at hl 1 rfl) ?_
            by_cases w70_0 : what = 0
            · skip
              refine lv_tableIn (off := 26) (tgt := 96) hx hb dX5_other_70 (by rw [w70_0]; decide) (by rw [w70_0]; decide) (by rw [w70_0]; rfl) (by decide) ?_
              refine lv_aload_n hx hb dX5_other_96 rfl (lv_at hl 0 rfl) ?_
              refine va_get (D := xD G) (ci := 5) (v := .ref (ma 6)) (C := RX5) (T := TX5) (N := 42) hx hb hts inX5 hown hK hP 0 rfl rfl 6 (by decide) kl26 (fun _ h9 => h9) rfl dX5_other_97 ?_
              refine lv_iload_n hx hb dX5_other_100 rfl (lv_at hl 2 rfl) ?_
              refine x_top (y := nI k.toNatClampNeg) (nI_self hk) ?_
              refine lv_iload_n hx hb dX5_other_101 rfl (lv_at hl 3 rfl) ?_
              refine x_iast (i := k.toNatClampNeg) hx hb hK hP hD hS 4 rfl (by first | omega | assumption) (by omega) dX5_other_102 (fun H locs hP hD hS => ?_)
              have hP : va_P (xD G) vwCl [oModel mA ma (nI (gK g0)) (nI (gN g0)) (gLp g0) (gOp g0) (gRp g0) (gRa g0) (nI (mK (gZ g0))) (mE (gZ g0)) (mM (gZ g0)) (mV (gZ g0)) (nI (mH (gZ g0))) (gFr g0) (gBu g0) (gBs g0), xI G (ma 2) 4 (gLl g0), xI G (ma 3) 4 (gLn g0), xI G (ma 4) 4 (gLh g0), xI G (ma 6) 4 (upd (gOl g0) k.toNatClampNeg v), xI G (ma 7) 4 (gOn g0), xI G (ma 8) 4 (gOh g0), xI G (ma 10) 16 (gDay g0), xZ G (ma 11) 16 (gUrg g0), xI G (ma 12) 64 (gSzs g0), xI G (ma 13) 16 (gWai g0), xI G (ma 14) 16 (gFro g0), xI G (ma 15) 16 (gBto g0), xI G (ma 16) 4 (gRl g0), xI G (ma 17) 4 (gRn g0), xI G (ma 18) 4 (gRh g0), xI G (ma 21) 16 (mP (gZ g0)), xI G (ma 22) 16 (mL (gZ g0)), xZ G (ma 23) 16 (mT (gZ g0)), xI G (ma 24) 16 (mN (gZ g0)), xI G (ma 25) 16 (mX (gZ g0)), xZ G (ma 26) 16 (mB (gZ g0)), xI G (ma 27) 16 (mD (gZ g0)), xZ G (ma 28) 16 (mW (gZ g0)), xI G (ma 29) 16 (mR (gZ g0)), xI G (ma 30) 80 (mS (gZ g0)), xI G (ma 36) 16 (gHp g0), xI G (ma 37) 16 (gHq g0), xI G (ma 41) 4 (gBo g0)] H := hP
              have hD : va_D A [oModel mA ma (nI (gK g0)) (nI (gN g0)) (gLp g0) (gOp g0) (gRp g0) (gRa g0) (nI (mK (gZ g0))) (mE (gZ g0)) (mM (gZ g0)) (mV (gZ g0)) (nI (mH (gZ g0))) (gFr g0) (gBu g0) (gBs g0), xI G (ma 2) 4 (gLl g0), xI G (ma 3) 4 (gLn g0), xI G (ma 4) 4 (gLh g0), xI G (ma 6) 4 (upd (gOl g0) k.toNatClampNeg v), xI G (ma 7) 4 (gOn g0), xI G (ma 8) 4 (gOh g0), xI G (ma 10) 16 (gDay g0), xZ G (ma 11) 16 (gUrg g0), xI G (ma 12) 64 (gSzs g0), xI G (ma 13) 16 (gWai g0), xI G (ma 14) 16 (gFro g0), xI G (ma 15) 16 (gBto g0), xI G (ma 16) 4 (gRl g0), xI G (ma 17) 4 (gRn g0), xI G (ma 18) 4 (gRh g0), xI G (ma 21) 16 (mP (gZ g0)), xI G (ma 22) 16 (mL (gZ g0)), xZ G (ma 23) 16 (mT (gZ g0)), xI G (ma 24) 16 (mN (gZ g0)), xI G (ma 25) 16 (mX (gZ g0)), xZ G (ma 26) 16 (mB (gZ g0)), xI G (ma 27) 16 (mD (gZ g0)), xZ G (ma 28) 16 (mW (gZ g0)), xI G (ma 29) 16 (mR (gZ g0)), xI G (ma 30) 80 (mS (gZ g0)), xI G (ma 36) 16 (gHp g0), xI G (ma 37) 16 (gHq g0), xI G (ma 41) 4 (gBo g0)] := hD
              refine lv_goto (tgt := 131) hx hb dX5_other_103 (by decide) ?_
              refine lv_iconst (v := 1) hx hb dX5_other_131 (by decide) ?_
              have eF : motF what k v g0 = mo0 k.toNatClampNeg v g0 := (if_pos hv).trans (if_pos h0)
              rw [eF] at hq
              exact hq 1 H locs 132 ls dX5_other_132 rfl ((b2_t hv).symm) (by skip; exact hP) (by skip; exact hD) hS
            exact absurd h0 w70_0
          · skip
            refine lv_iload_n hx hb dX5_other_29 rfl (lv_at hl 3 rfl) ?_
            refine lv_iload_n hx hb dX5_other_30 rfl (lv_at hl 1 rfl) ?_
            refine lv_iconst (v := 3) hx hb dX5_other_31 (by decide) ?_
            refine lv_icmp_ne (x := what) (y := 3) (tgt := 39) hx hb dX5_other_32 (by decide) (fun c32 => ?_) (fun c32 => ?_)
            · skip
              refine lv_iconst (v := 0) hx hb dX5_other_39 (by decide) ?_
              refine lv_iload_n hx hb dX5_other_40 rfl (lv_at hl 1 rfl) ?_
              refine lv_iconst (v := 1) hx hb dX5_other_41 (by decide) ?_
              refine lv_icmp_ne (x := what) (y := 1) (tgt := 49) hx hb dX5_other_42 (by decide) (fun c42 => ?_) (fun c42 => ?_)
              · skip
                refine lv_iload_n hx hb dX5_other_49 rfl (lv_at hl 1 rfl) ?_
                refine lv_iconst (v := 3) hx hb dX5_other_50 (by decide) ?_
                refine lv_icmp_ne (x := what) (y := 3) (tgt := 59) hx hb dX5_other_51 (by decide) (fun c51 => ?_) (fun c51 => ?_)
                · skip
                  refine lv_bipush (v := 20) hx hb dX5_other_59 (by decide) ?_
                  refine x_callS (As := [.int v, .int 0, .int 20]) (rest := []) ⟨hx, hb, hml, hown, hts⟩ (mX5_in l G v 0 20 ) (va_cwS 3 hts gX5_other_X5_in rfl rfl rfl (by decide +kernel) ⟨Nat.le_of_ble_eq_true rfl, Nat.le_of_ble_eq_true rfl⟩) hK rfl hl.1 rfl (Nat.le_of_ble_eq_true rfl) dX5_other_61 ⟨Nat.zero_le _, Nat.zero_le _⟩ (fun r hr => ?_)
                  subst hr
                  refine x_if_ne (P := wiP v 0 20) (tgt := 69) hx hb dX5_other_64 (by decide) (fun c64 => ?_) (fun c64 => ?_)
                  · skip
                    have hv : moP what k v (gK g0) := Or.inl ⟨h0, c19, (wi_m1 c26).mpr c64⟩
                    have hk := vp_of c19.1 c19.2 (by omega)
                    have hkb : k.toNatClampNeg < gK g0 := vp_lt hk
                    refine lv_iload_n hx hb dX5_other_69 rfl (lv_at hl 1 rfl) ?_
                    by_cases w70_0 : what = 0
                    · skip
                      refine lv_tableIn (off := 26) (tgt := 96) hx hb dX5_other_70 (by rw [w70_0]; decide) (by rw [w70_0]; decide) (by rw [w70_0]; rfl) (by decide) ?_
                      refine lv_aload_n hx hb dX5_other_96 rfl (lv_at hl 0 rfl) ?_
                      refine va_get (D := xD G) (ci := 5) (v := .ref (ma 6)) (C := RX5) (T := TX5) (N := 42) hx hb hts inX5 hown hK hP 0 rfl rfl 6 (by decide) kl26 (fun _ h9 => h9) rfl dX5_other_97 ?_
                      refine lv_iload_n hx hb dX5_other_100 rfl (lv_at hl 2 rfl) ?_
                      refine x_top (y := nI k.toNatClampNeg) (nI_self hk) ?_
                      refine lv_iload_n hx hb dX5_other_101 rfl (lv_at hl 3 rfl) ?_
                      refine x_iast (i := k.toNatClampNeg) hx hb hK hP hD hS 4 rfl (by first | omega | assumption) (by omega) dX5_other_102 (fun H locs hP hD hS => ?_)
                      have hP : va_P (xD G) vwCl [oModel mA ma (nI (gK g0)) (nI (gN g0)) (gLp g0) (gOp g0) (gRp g0) (gRa g0) (nI (mK (gZ g0))) (mE (gZ g0)) (mM (gZ g0)) (mV (gZ g0)) (nI (mH (gZ g0))) (gFr g0) (gBu g0) (gBs g0), xI G (ma 2) 4 (gLl g0), xI G (ma 3) 4 (gLn g0), xI G (ma 4) 4 (gLh g0), xI G (ma 6) 4 (upd (gOl g0) k.toNatClampNeg v), xI G (ma 7) 4 (gOn g0), xI G (ma 8) 4 (gOh g0), xI G (ma 10) 16 (gDay g0), xZ G (ma 11) 16 (gUrg g0), xI G (ma 12) 64 (gSzs g0), xI G (ma 13) 16 (gWai g0), xI G (ma 14) 16 (gFro g0), xI G (ma 15) 16 (gBto g0), xI G (ma 16) 4 (gRl g0), xI G (ma 17) 4 (gRn g0), xI G (ma 18) 4 (gRh g0), xI G (ma 21) 16 (mP (gZ g0)), xI G (ma 22) 16 (mL (gZ g0)), xZ G (ma 23) 16 (mT (gZ g0)), xI G (ma 24) 16 (mN (gZ g0)), xI G (ma 25) 16 (mX (gZ g0)), xZ G (ma 26) 16 (mB (gZ g0)), xI G (ma 27) 16 (mD (gZ g0)), xZ G (ma 28) 16 (mW (gZ g0)), xI G (ma 29) 16 (mR (gZ g0)), xI G (ma 30) 80 (mS (gZ g0)), xI G (ma 36) 16 (gHp g0), xI G (ma 37) 16 (gHq g0), xI G (ma 41) 4 (gBo g0)] H := hP
                      have hD : va_D A [oModel mA ma (nI (gK g0)) (nI (gN g0)) (gLp g0) (gOp g0) (gRp g0) (gRa g0) (nI (mK (gZ g0))) (mE (gZ g0)) (mM (gZ g0)) (mV (gZ g0)) (nI (mH (gZ g0))) (gFr g0) (gBu g0) (gBs g0), xI G (ma 2) 4 (gLl g0), xI G (ma 3) 4 (gLn g0), xI G (ma 4) 4 (gLh g0), xI G (ma 6) 4 (upd (gOl g0) k.toNatClampNeg v), xI G (ma 7) 4 (gOn g0), xI G (ma 8) 4 (gOh g0), xI G (ma 10) 16 (gDay g0), xZ G (ma 11) 16 (gUrg g0), xI G (ma 12) 64 (gSzs g0), xI G (ma 13) 16 (gWai g0), xI G (ma 14) 16 (gFro g0), xI G (ma 15) 16 (gBto g0), xI G (ma 16) 4 (gRl g0), xI G (ma 17) 4 (gRn g0), xI G (ma 18) 4 (gRh g0), xI G (ma 21) 16 (mP (gZ g0)), xI G (ma 22) 16 (mL (gZ g0)), xZ G (ma 23) 16 (mT (gZ g0)), xI G (ma 24) 16 (mN (gZ g0)), xI G (ma 25) 16 (mX (gZ g0)), xZ G (ma 26) 16 (mB (gZ g0)), xI G (ma 27) 16 (mD (gZ g0)), xZ G (ma 28) 16 (mW (gZ g0)), xI G (ma 29) 16 (mR (gZ g0)), xI G (ma 30) 80 (mS (gZ g0)), xI G (ma 36) 16 (gHp g0), xI G (ma 37) 16 (gHq g0), xI G (ma 41) 4 (gBo g0)] := hD
                      refine lv_goto (tgt := 131) hx hb dX5_other_103 (by decide) ?_
                      refine lv_iconst (v := 1) hx hb dX5_other_131 (by decide) ?_
                      have eF : motF what k v g0 = mo0 k.toNatClampNeg v g0 := (if_pos hv).trans (if_pos h0)
                      rw [eF] at hq
                      exact hq 1 H locs 132 ls dX5_other_132 rfl ((b2_t hv).symm) (by skip; exact hP) (by skip; exact hD) hS
                    exact absurd h0 w70_0
                  · skip
                    refine lv_iconst (v := 0) hx hb dX5_other_67 (by decide) ?_
                    have eF : motF what k v g0 = g0 := if_neg (b2_z.mp ((b2_f (fun h => by rcases h with h | h | h | h; exact c64 ((wi_m1 c26).mp h.2.2); exact absurd (h0.symm.trans h.1) (by decide); exact absurd (h0.symm.trans h.1) (by decide); exact absurd (h0.symm.trans h.1) (by decide))).symm).symm)
                    rw [eF] at hq
                    exact hq 0 H locs 68 ls dX5_other_68 rfl ((b2_f (fun h => by rcases h with h | h | h | h; exact c64 ((wi_m1 c26).mp h.2.2); exact absurd (h0.symm.trans h.1) (by decide); exact absurd (h0.symm.trans h.1) (by decide); exact absurd (h0.symm.trans h.1) (by decide))).symm) (by skip; exact hP) (by skip; exact hD) hS
                · skip
                  exact absurd c51 h3
              · skip
                exact absurd c42 h1
            · skip
              exact absurd c32 h3
        · skip
          refine lv_iconst (v := 0) hx hb dX5_other_22 (by decide) ?_
          have eF : motF what k v g0 = g0 := if_neg (b2_z.mp ((b2_f (fun h => by rcases h with h | h | h | h; exact c19 h.2.1; exact absurd (h0.symm.trans h.1) (by decide); exact absurd (h0.symm.trans h.1) (by decide); exact absurd (h0.symm.trans h.1) (by decide))).symm).symm)
          rw [eF] at hq
          exact hq 0 H locs 23 ls dX5_other_23 rfl ((b2_f (fun h => by rcases h with h | h | h | h; exact c19 h.2.1; exact absurd (h0.symm.trans h.1) (by decide); exact absurd (h0.symm.trans h.1) (by decide); exact absurd (h0.symm.trans h.1) (by decide))).symm) (by skip; exact hP) (by skip; exact hD) hS
  · skip
    have h0 : ¬ what = 0 := by rw [hw5]; decide
    have h1 : what = 1 := hw5
    have h2 : ¬ what = 2 := by rw [hw5]; decide
    have h3 : ¬ what = 3 := by rw [hw5]; decide
    have hge : ¬ 3 ≤ what := by rw [hw5]; decide
    have hin : wiP what 0 3 := by rw [hw5]; decide
    refine lv_iload_n hx hb dX5_other_0 rfl (lv_at hl 1 rfl) ?_
    refine lv_iconst (v := 0) hx hb dX5_other_1 (by decide) ?_
    refine lv_iconst (v := 3) hx hb dX5_other_2 (by decide) ?_
    refine x_callS (As := [.int what, .int 0, .int 3]) (rest := []) ⟨hx, hb, hml, hown, hts⟩ (mX5_in l G what 0 3 ) (va_cwS 3 hts gX5_other_X5_in rfl rfl rfl (by decide +kernel) ⟨Nat.le_of_ble_eq_true rfl, Nat.le_of_ble_eq_true rfl⟩) hK rfl hl.1 rfl (Nat.le_of_ble_eq_true rfl) dX5_other_3 ⟨Nat.zero_le _, Nat.zero_le _⟩ (fun r hr => ?_)
    subst hr
    refine x_if_eq (P := wiP what 0 3) (tgt := 22) hx hb dX5_other_6 (by decide) (fun c6 => ?_) (fun c6 => ?_)
    · skip
      exact absurd hin c6
    · skip
      refine lv_iload_n hx hb dX5_other_9 rfl (lv_at hl 1 rfl) ?_
      refine lv_iconst (v := 3) hx hb dX5_other_10 (by decide) ?_
      refine lv_icmp_ge (x := what) (y := 3) (tgt := 24) hx hb dX5_other_11 (by decide) (fun c11 => ?_) (fun c11 => ?_)
      · skip
        exact absurd c11 hge
      · skip
        refine lv_aload_n hx hb dX5_other_14 rfl (lv_at hl 0 rfl) ?_
        refine lv_iload_n hx hb dX5_other_15 rfl (lv_at hl 2 rfl) ?_
        refine x_callR (As := [.int k]) (rest := []) (ci := 5) (q0 := 0) ⟨hx, hb, hml, hown, hts⟩ (mX5_isColumn l G mA ma (gK g0) (gN g0) (gLp g0) (gOp g0) (gRp g0) (gRa g0) (nI (mK (gZ g0))) (mE (gZ g0)) (mM (gZ g0)) (mV (gZ g0)) (nI (mH (gZ g0))) (gFr g0) (gBu g0) (gBs g0) k (by first | assumption | omega)) (cwV 1 hts gX5_other_X5_isColumn rfl rfl rfl (by decide +kernel) ⟨Nat.le_of_ble_eq_true rfl, Nat.le_of_ble_eq_true rfl⟩) hK hP hD [0] rfl rfl rfl rfl rfl rfl rfl hl.1 rfl (Nat.le_of_ble_eq_true rfl) dX5_other_16 ⟨Nat.zero_le _, Nat.zero_le _⟩ (fun r hr => ?_)
        subst hr
        refine x_if_ne (P := inC k (nI (gK g0))) (tgt := 24) hx hb dX5_other_19 (by decide) (fun c19 => ?_) (fun c19 => ?_)
        · skip
          refine lv_iload_n hx hb dX5_other_24 rfl (lv_at hl 3 rfl) ?_
          refine lv_iconst (v := (-1)) hx hb dX5_other_25 (by decide) ?_
          refine lv_icmp_eq (x := v) (y := (-1)) (tgt := 69) hx hb dX5_other_26 (by decide) (fun c26 => ?_) (fun c26 => ?_)
          · skip
            have hv : moP what k v (gK g0) := Or.inr (Or.inl ⟨h1, c19, by rw [c26]; decide⟩)
            have hk := vp_of c19.1 c19.2 (by omega)
            have hkb : k.toNatClampNeg < gK g0 := vp_lt hk
            refine lv_iload_n hx hb dX5_other_69 rfl (lv_at hl 1 rfl) ?_
            by_cases w70_0 : what = 0
            · exact absurd w70_0 h0
            by_cases w70_1 : what = 1
            · skip
              refine lv_tableIn (off := 36) (tgt := 106) hx hb dX5_other_70 (by rw [w70_1]; decide) (by rw [w70_1]; decide) (by rw [w70_1]; rfl) (by decide) ?_
              refine lv_aload_n hx hb dX5_other_106 rfl (lv_at hl 0 rfl) ?_
              refine va_get (D := xD G) (ci := 5) (v := .ref (ma 7)) (C := RX5) (T := TX5) (N := 42) hx hb hts inX5 hown hK hP 0 rfl rfl 7 (by decide) kl29 (fun _ h9 => h9) rfl dX5_other_107 ?_
              refine lv_iload_n hx hb dX5_other_110 rfl (lv_at hl 2 rfl) ?_
              refine x_top (y := nI k.toNatClampNeg) (nI_self hk) ?_
              refine lv_iload_n hx hb dX5_other_111 rfl (lv_at hl 3 rfl) ?_
              refine x_iast (i := k.toNatClampNeg) hx hb hK hP hD hS 5 rfl (by first | omega | assumption) (by omega) dX5_other_112 (fun H locs hP hD hS => ?_)
              have hP : va_P (xD G) vwCl [oModel mA ma (nI (gK g0)) (nI (gN g0)) (gLp g0) (gOp g0) (gRp g0) (gRa g0) (nI (mK (gZ g0))) (mE (gZ g0)) (mM (gZ g0)) (mV (gZ g0)) (nI (mH (gZ g0))) (gFr g0) (gBu g0) (gBs g0), xI G (ma 2) 4 (gLl g0), xI G (ma 3) 4 (gLn g0), xI G (ma 4) 4 (gLh g0), xI G (ma 6) 4 (gOl g0), xI G (ma 7) 4 (upd (gOn g0) k.toNatClampNeg v), xI G (ma 8) 4 (gOh g0), xI G (ma 10) 16 (gDay g0), xZ G (ma 11) 16 (gUrg g0), xI G (ma 12) 64 (gSzs g0), xI G (ma 13) 16 (gWai g0), xI G (ma 14) 16 (gFro g0), xI G (ma 15) 16 (gBto g0), xI G (ma 16) 4 (gRl g0), xI G (ma 17) 4 (gRn g0), xI G (ma 18) 4 (gRh g0), xI G (ma 21) 16 (mP (gZ g0)), xI G (ma 22) 16 (mL (gZ g0)), xZ G (ma 23) 16 (mT (gZ g0)), xI G (ma 24) 16 (mN (gZ g0)), xI G (ma 25) 16 (mX (gZ g0)), xZ G (ma 26) 16 (mB (gZ g0)), xI G (ma 27) 16 (mD (gZ g0)), xZ G (ma 28) 16 (mW (gZ g0)), xI G (ma 29) 16 (mR (gZ g0)), xI G (ma 30) 80 (mS (gZ g0)), xI G (ma 36) 16 (gHp g0), xI G (ma 37) 16 (gHq g0), xI G (ma 41) 4 (gBo g0)] H := hP
              have hD : va_D A [oModel mA ma (nI (gK g0)) (nI (gN g0)) (gLp g0) (gOp g0) (gRp g0) (gRa g0) (nI (mK (gZ g0))) (mE (gZ g0)) (mM (gZ g0)) (mV (gZ g0)) (nI (mH (gZ g0))) (gFr g0) (gBu g0) (gBs g0), xI G (ma 2) 4 (gLl g0), xI G (ma 3) 4 (gLn g0), xI G (ma 4) 4 (gLh g0), xI G (ma 6) 4 (gOl g0), xI G (ma 7) 4 (upd (gOn g0) k.toNatClampNeg v), xI G (ma 8) 4 (gOh g0), xI G (ma 10) 16 (gDay g0), xZ G (ma 11) 16 (gUrg g0), xI G (ma 12) 64 (gSzs g0), xI G (ma 13) 16 (gWai g0), xI G (ma 14) 16 (gFro g0), xI G (ma 15) 16 (gBto g0), xI G (ma 16) 4 (gRl g0), xI G (ma 17) 4 (gRn g0), xI G (ma 18) 4 (gRh g0), xI G (ma 21) 16 (mP (gZ g0)), xI G (ma 22) 16 (mL (gZ g0)), xZ G (ma 23) 16 (mT (gZ g0)), xI G (ma 24) 16 (mN (gZ g0)), xI G (ma 25) 16 (mX (gZ g0)), xZ G (ma 26) 16 (mB (gZ g0)), xI G (ma 27) 16 (mD (gZ g0)), xZ G (ma 28) 16 (mW (gZ g0)), xI G (ma 29) 16 (mR (gZ g0)), xI G (ma 30) 80 (mS (gZ g0)), xI G (ma 36) 16 (gHp g0), xI G (ma 37) 16 (gHq g0), xI G (ma 41) 4 (gBo g0)] := hD
              refine lv_goto (tgt := 131) hx hb dX5_other_113 (by decide) ?_
              refine lv_iconst (v := 1) hx hb dX5_other_131 (by decide) ?_
              have eF : motF what k v g0 = mo1 k.toNatClampNeg v g0 := (if_pos hv).trans ((if_neg h0).trans (if_pos h1))
              rw [eF] at hq
              exact hq 1 H locs 132 ls dX5_other_132 rfl ((b2_t hv).symm) (by skip; exact hP) (by skip; exact hD) hS
            exact absurd h1 w70_1
          · skip
            refine lv_iload_n hx hb dX5_other_29 rfl (lv_at hl 3 rfl) ?_
            refine lv_iload_n hx hb dX5_other_30 rfl (lv_at hl 1 rfl) ?_
            refine lv_iconst (v := 3) hx hb dX5_other_31 (by decide) ?_
            refine lv_icmp_ne (x := what) (y := 3) (tgt := 39) hx hb dX5_other_32 (by decide) (fun c32 => ?_) (fun c32 => ?_)
            · skip
              refine lv_iconst (v := 0) hx hb dX5_other_39 (by decide) ?_
              refine lv_iload_n hx hb dX5_other_40 rfl (lv_at hl 1 rfl) ?_
              refine lv_iconst (v := 1) hx hb dX5_other_41 (by decide) ?_
              refine lv_icmp_ne (x := what) (y := 1) (tgt := 49) hx hb dX5_other_42 (by decide) (fun c42 => ?_) (fun c42 => ?_)
              · skip
                exact absurd h1 c42
              · skip
                refine lv_iconst (v := 5) hx hb dX5_other_45 (by decide) ?_
                refine lv_goto (tgt := 61) hx hb dX5_other_46 (by decide) ?_
                refine x_callS (As := [.int v, .int 0, .int 5]) (rest := []) ⟨hx, hb, hml, hown, hts⟩ (mX5_in l G v 0 5 ) (va_cwS 3 hts gX5_other_X5_in rfl rfl rfl (by decide +kernel) ⟨Nat.le_of_ble_eq_true rfl, Nat.le_of_ble_eq_true rfl⟩) hK rfl hl.1 rfl (Nat.le_of_ble_eq_true rfl) dX5_other_61 ⟨Nat.zero_le _, Nat.zero_le _⟩ (fun r hr => ?_)
                subst hr
                refine x_if_ne (P := wiP v 0 5) (tgt := 69) hx hb dX5_other_64 (by decide) (fun c64 => ?_) (fun c64 => ?_)
                · skip
                  have hv : moP what k v (gK g0) := Or.inr (Or.inl ⟨h1, c19, (wi_m1 c26).mpr c64⟩)
                  have hk := vp_of c19.1 c19.2 (by omega)
                  have hkb : k.toNatClampNeg < gK g0 := vp_lt hk
                  refine lv_iload_n hx hb dX5_other_69 rfl (lv_at hl 1 rfl) ?_
                  by_cases w70_0 : what = 0
                  · exact absurd w70_0 h0
                  by_cases w70_1 : what = 1
                  · skip
                    refine lv_tableIn (off := 36) (tgt := 106) hx hb dX5_other_70 (by rw [w70_1]; decide) (by rw [w70_1]; decide) (by rw [w70_1]; rfl) (by decide) ?_
                    refine lv_aload_n hx hb dX5_other_106 rfl (lv_at hl 0 rfl) ?_
                    refine va_get (D := xD G) (ci := 5) (v := .ref (ma 7)) (C := RX5) (T := TX5) (N := 42) hx hb hts inX5 hown hK hP 0 rfl rfl 7 (by decide) kl29 (fun _ h9 => h9) rfl dX5_other_107 ?_
                    refine lv_iload_n hx hb dX5_other_110 rfl (lv_at hl 2 rfl) ?_
                    refine x_top (y := nI k.toNatClampNeg) (nI_self hk) ?_
                    refine lv_iload_n hx hb dX5_other_111 rfl (lv_at hl 3 rfl) ?_
                    refine x_iast (i := k.toNatClampNeg) hx hb hK hP hD hS 5 rfl (by first | omega | assumption) (by omega) dX5_other_112 (fun H locs hP hD hS => ?_)
                    have hP : va_P (xD G) vwCl [oModel mA ma (nI (gK g0)) (nI (gN g0)) (gLp g0) (gOp g0) (gRp g0) (gRa g0) (nI (mK (gZ g0))) (mE (gZ g0)) (mM (gZ g0)) (mV (gZ g0)) (nI (mH (gZ g0))) (gFr g0) (gBu g0) (gBs g0), xI G (ma 2) 4 (gLl g0), xI G (ma 3) 4 (gLn g0), xI G (ma 4) 4 (gLh g0), xI G (ma 6) 4 (gOl g0), xI G (ma 7) 4 (upd (gOn g0) k.toNatClampNeg v), xI G (ma 8) 4 (gOh g0), xI G (ma 10) 16 (gDay g0), xZ G (ma 11) 16 (gUrg g0), xI G (ma 12) 64 (gSzs g0), xI G (ma 13) 16 (gWai g0), xI G (ma 14) 16 (gFro g0), xI G (ma 15) 16 (gBto g0), xI G (ma 16) 4 (gRl g0), xI G (ma 17) 4 (gRn g0), xI G (ma 18) 4 (gRh g0), xI G (ma 21) 16 (mP (gZ g0)), xI G (ma 22) 16 (mL (gZ g0)), xZ G (ma 23) 16 (mT (gZ g0)), xI G (ma 24) 16 (mN (gZ g0)), xI G (ma 25) 16 (mX (gZ g0)), xZ G (ma 26) 16 (mB (gZ g0)), xI G (ma 27) 16 (mD (gZ g0)), xZ G (ma 28) 16 (mW (gZ g0)), xI G (ma 29) 16 (mR (gZ g0)), xI G (ma 30) 80 (mS (gZ g0)), xI G (ma 36) 16 (gHp g0), xI G (ma 37) 16 (gHq g0), xI G (ma 41) 4 (gBo g0)] H := hP
                    have hD : va_D A [oModel mA ma (nI (gK g0)) (nI (gN g0)) (gLp g0) (gOp g0) (gRp g0) (gRa g0) (nI (mK (gZ g0))) (mE (gZ g0)) (mM (gZ g0)) (mV (gZ g0)) (nI (mH (gZ g0))) (gFr g0) (gBu g0) (gBs g0), xI G (ma 2) 4 (gLl g0), xI G (ma 3) 4 (gLn g0), xI G (ma 4) 4 (gLh g0), xI G (ma 6) 4 (gOl g0), xI G (ma 7) 4 (upd (gOn g0) k.toNatClampNeg v), xI G (ma 8) 4 (gOh g0), xI G (ma 10) 16 (gDay g0), xZ G (ma 11) 16 (gUrg g0), xI G (ma 12) 64 (gSzs g0), xI G (ma 13) 16 (gWai g0), xI G (ma 14) 16 (gFro g0), xI G (ma 15) 16 (gBto g0), xI G (ma 16) 4 (gRl g0), xI G (ma 17) 4 (gRn g0), xI G (ma 18) 4 (gRh g0), xI G (ma 21) 16 (mP (gZ g0)), xI G (ma 22) 16 (mL (gZ g0)), xZ G (ma 23) 16 (mT (gZ g0)), xI G (ma 24) 16 (mN (gZ g0)), xI G (ma 25) 16 (mX (gZ g0)), xZ G (ma 26) 16 (mB (gZ g0)), xI G (ma 27) 16 (mD (gZ g0)), xZ G (ma 28) 16 (mW (gZ g0)), xI G (ma 29) 16 (mR (gZ g0)), xI G (ma 30) 80 (mS (gZ g0)), xI G (ma 36) 16 (gHp g0), xI G (ma 37) 16 (gHq g0), xI G (ma 41) 4 (gBo g0)] := hD
                    refine lv_goto (tgt := 131) hx hb dX5_other_113 (by decide) ?_
                    refine lv_iconst (v := 1) hx hb dX5_other_131 (by decide) ?_
                    have eF : motF what k v g0 = mo1 k.toNatClampNeg v g0 := (if_pos hv).trans ((if_neg h0).trans (if_pos h1))
                    rw [eF] at hq
                    exact hq 1 H locs 132 ls dX5_other_132 rfl ((b2_t hv).symm) (by skip; exact hP) (by skip; exact hD) hS
                  exact absurd h1 w70_1
                · skip
                  refine lv_iconst (v := 0) hx hb dX5_other_67 (by decide) ?_
                  have eF : motF what k v g0 = g0 := if_neg (b2_z.mp ((b2_f (fun h => by rcases h with h | h | h | h; exact absurd (h1.symm.trans h.1) (by decide); exact c64 ((wi_m1 c26).mp h.2.2); exact absurd (h1.symm.trans h.1) (by decide); exact absurd (h1.symm.trans h.1) (by decide))).symm).symm)
                  rw [eF] at hq
                  exact hq 0 H locs 68 ls dX5_other_68 rfl ((b2_f (fun h => by rcases h with h | h | h | h; exact absurd (h1.symm.trans h.1) (by decide); exact c64 ((wi_m1 c26).mp h.2.2); exact absurd (h1.symm.trans h.1) (by decide); exact absurd (h1.symm.trans h.1) (by decide))).symm) (by skip; exact hP) (by skip; exact hD) hS
            · skip
              exact absurd c32 h3
        · skip
          refine lv_iconst (v := 0) hx hb dX5_other_22 (by decide) ?_
          have eF : motF what k v g0 = g0 := if_neg (b2_z.mp ((b2_f (fun h => by rcases h with h | h | h | h; exact absurd (h1.symm.trans h.1) (by decide); exact c19 h.2.1; exact absurd (h1.symm.trans h.1) (by decide); exact absurd (h1.symm.trans h.1) (by decide))).symm).symm)
          rw [eF] at hq
          exact hq 0 H locs 23 ls dX5_other_23 rfl ((b2_f (fun h => by rcases h with h | h | h | h; exact absurd (h1.symm.trans h.1) (by decide); exact c19 h.2.1; exact absurd (h1.symm.trans h.1) (by decide); exact absurd (h1.symm.trans h.1) (by decide))).symm) (by skip; exact hP) (by skip; exact hD) hS
  · skip
    have h0 : ¬ what = 0 := by rw [hw5]; decide
    have h1 : ¬ what = 1 := by rw [hw5]; decide
    have h2 : what = 2 := hw5
    have h3 : ¬ what = 3 := by rw [hw5]; decide
    have hge : ¬ 3 ≤ what := by rw [hw5]; decide
    have hin : wiP what 0 3 := by rw [hw5]; decide
    refine lv_iload_n hx hb dX5_other_0 rfl (lv_at hl 1 rfl) ?_
    refine lv_iconst (v := 0) hx hb dX5_other_1 (by decide) ?_
    refine lv_iconst (v := 3) hx hb dX5_other_2 (by decide) ?_
    refine x_callS (As := [.int what, .int 0, .int 3]) (rest := []) ⟨hx, hb, hml, hown, hts⟩ (mX5_in l G what 0 3 ) (va_cwS 3 hts gX5_other_X5_in rfl rfl rfl (by decide +kernel) ⟨Nat.le_of_ble_eq_true rfl, Nat.le_of_ble_eq_true rfl⟩) hK rfl hl.1 rfl (Nat.le_of_ble_eq_true rfl) dX5_other_3 ⟨Nat.zero_le _, Nat.zero_le _⟩ (fun r hr => ?_)
    subst hr
    refine x_if_eq (P := wiP what 0 3) (tgt := 22) hx hb dX5_other_6 (by decide) (fun c6 => ?_) (fun c6 => ?_)
    · skip
      exact absurd hin c6
    · skip
      refine lv_iload_n hx hb dX5_other_9 rfl (lv_at hl 1 rfl) ?_
      refine lv_iconst (v := 3) hx hb dX5_other_10 (by decide) ?_
      refine lv_icmp_ge (x := what) (y := 3) (tgt := 24) hx hb dX5_other_11 (by decide) (fun c11 => ?_) (fun c11 => ?_)
      · skip
        exact absurd c11 hge
      · skip
        refine lv_aload_n hx hb dX5_other_14 rfl (lv_at hl 0 rfl) ?_
        refine lv_iload_n hx hb dX5_other_15 rfl (lv_at hl 2 rfl) ?_
        refine x_callR (As := [.int k]) (rest := []) (ci := 5) (q0 := 0) ⟨hx, hb, hml, hown, hts⟩ (mX5_isColumn l G mA ma (gK g0) (gN g0) (gLp g0) (gOp g0) (gRp g0) (gRa g0) (nI (mK (gZ g0))) (mE (gZ g0)) (mM (gZ g0)) (mV (gZ g0)) (nI (mH (gZ g0))) (gFr g0) (gBu g0) (gBs g0) k (by first | assumption | omega)) (cwV 1 hts gX5_other_X5_isColumn rfl rfl rfl (by decide +kernel) ⟨Nat.le_of_ble_eq_true rfl, Nat.le_of_ble_eq_true rfl⟩) hK hP hD [0] rfl rfl rfl rfl rfl rfl rfl hl.1 rfl (Nat.le_of_ble_eq_true rfl) dX5_other_16 ⟨Nat.zero_le _, Nat.zero_le _⟩ (fun r hr => ?_)
        subst hr
        refine x_if_ne (P := inC k (nI (gK g0))) (tgt := 24) hx hb dX5_other_19 (by decide) (fun c19 => ?_) (fun c19 => ?_)
        · skip
          refine lv_iload_n hx hb dX5_other_24 rfl (lv_at hl 3 rfl) ?_
          refine lv_iconst (v := (-1)) hx hb dX5_other_25 (by decide) ?_
          refine lv_icmp_eq (x := v) (y := (-1)) (tgt := 69) hx hb dX5_other_26 (by decide) (fun c26 => ?_) (fun c26 => ?_)
          · skip
            have hv : moP what k v (gK g0) := Or.inr (Or.inr (Or.inl ⟨h2, c19, by rw [c26]; decide⟩))
            have hk := vp_of c19.1 c19.2 (by omega)
            have hkb : k.toNatClampNeg < gK g0 := vp_lt hk
            refine lv_iload_n hx hb dX5_other_69 rfl (lv_at hl 1 rfl) ?_
            by_cases w70_0 : what = 0
            · exact absurd w70_0 h0
            by_cases w70_1 : what = 1
            · exact absurd w70_1 h1
            by_cases w70_2 : what = 2
            · skip
              refine lv_tableIn (off := 46) (tgt := 116) hx hb dX5_other_70 (by rw [w70_2]; decide) (by rw [w70_2]; decide) (by rw [w70_2]; rfl) (by decide) ?_
              refine lv_aload_n hx hb dX5_other_116 rfl (lv_at hl 0 rfl) ?_
              refine va_get (D := xD G) (ci := 5) (v := .ref (ma 8)) (C := RX5) (T := TX5) (N := 42) hx hb hts inX5 hown hK hP 0 rfl rfl 8 (by decide) kl32 (fun _ h9 => h9) rfl dX5_other_117 ?_
              refine lv_iload_n hx hb dX5_other_120 rfl (lv_at hl 2 rfl) ?_
              refine x_top (y := nI k.toNatClampNeg) (nI_self hk) ?_
              refine lv_iload_n hx hb dX5_other_121 rfl (lv_at hl 3 rfl) ?_
              refine x_iast (i := k.toNatClampNeg) hx hb hK hP hD hS 6 rfl (by first | omega | assumption) (by omega) dX5_other_122 (fun H locs hP hD hS => ?_)
              have hP : va_P (xD G) vwCl [oModel mA ma (nI (gK g0)) (nI (gN g0)) (gLp g0) (gOp g0) (gRp g0) (gRa g0) (nI (mK (gZ g0))) (mE (gZ g0)) (mM (gZ g0)) (mV (gZ g0)) (nI (mH (gZ g0))) (gFr g0) (gBu g0) (gBs g0), xI G (ma 2) 4 (gLl g0), xI G (ma 3) 4 (gLn g0), xI G (ma 4) 4 (gLh g0), xI G (ma 6) 4 (gOl g0), xI G (ma 7) 4 (gOn g0), xI G (ma 8) 4 (upd (gOh g0) k.toNatClampNeg v), xI G (ma 10) 16 (gDay g0), xZ G (ma 11) 16 (gUrg g0), xI G (ma 12) 64 (gSzs g0), xI G (ma 13) 16 (gWai g0), xI G (ma 14) 16 (gFro g0), xI G (ma 15) 16 (gBto g0), xI G (ma 16) 4 (gRl g0), xI G (ma 17) 4 (gRn g0), xI G (ma 18) 4 (gRh g0), xI G (ma 21) 16 (mP (gZ g0)), xI G (ma 22) 16 (mL (gZ g0)), xZ G (ma 23) 16 (mT (gZ g0)), xI G (ma 24) 16 (mN (gZ g0)), xI G (ma 25) 16 (mX (gZ g0)), xZ G (ma 26) 16 (mB (gZ g0)), xI G (ma 27) 16 (mD (gZ g0)), xZ G (ma 28) 16 (mW (gZ g0)), xI G (ma 29) 16 (mR (gZ g0)), xI G (ma 30) 80 (mS (gZ g0)), xI G (ma 36) 16 (gHp g0), xI G (ma 37) 16 (gHq g0), xI G (ma 41) 4 (gBo g0)] H := hP
              have hD : va_D A [oModel mA ma (nI (gK g0)) (nI (gN g0)) (gLp g0) (gOp g0) (gRp g0) (gRa g0) (nI (mK (gZ g0))) (mE (gZ g0)) (mM (gZ g0)) (mV (gZ g0)) (nI (mH (gZ g0))) (gFr g0) (gBu g0) (gBs g0), xI G (ma 2) 4 (gLl g0), xI G (ma 3) 4 (gLn g0), xI G (ma 4) 4 (gLh g0), xI G (ma 6) 4 (gOl g0), xI G (ma 7) 4 (gOn g0), xI G (ma 8) 4 (upd (gOh g0) k.toNatClampNeg v), xI G (ma 10) 16 (gDay g0), xZ G (ma 11) 16 (gUrg g0), xI G (ma 12) 64 (gSzs g0), xI G (ma 13) 16 (gWai g0), xI G (ma 14) 16 (gFro g0), xI G (ma 15) 16 (gBto g0), xI G (ma 16) 4 (gRl g0), xI G (ma 17) 4 (gRn g0), xI G (ma 18) 4 (gRh g0), xI G (ma 21) 16 (mP (gZ g0)), xI G (ma 22) 16 (mL (gZ g0)), xZ G (ma 23) 16 (mT (gZ g0)), xI G (ma 24) 16 (mN (gZ g0)), xI G (ma 25) 16 (mX (gZ g0)), xZ G (ma 26) 16 (mB (gZ g0)), xI G (ma 27) 16 (mD (gZ g0)), xZ G (ma 28) 16 (mW (gZ g0)), xI G (ma 29) 16 (mR (gZ g0)), xI G (ma 30) 80 (mS (gZ g0)), xI G (ma 36) 16 (gHp g0), xI G (ma 37) 16 (gHq g0), xI G (ma 41) 4 (gBo g0)] := hD
              refine lv_goto (tgt := 131) hx hb dX5_other_123 (by decide) ?_
              refine lv_iconst (v := 1) hx hb dX5_other_131 (by decide) ?_
              have eF : motF what k v g0 = mo2 k.toNatClampNeg v g0 := (if_pos hv).trans ((if_neg h0).trans ((if_neg h1).trans (if_pos h2)))
              rw [eF] at hq
              exact hq 1 H locs 132 ls dX5_other_132 rfl ((b2_t hv).symm) (by skip; exact hP) (by skip; exact hD) hS
            exact absurd h2 w70_2
          · skip
            refine lv_iload_n hx hb dX5_other_29 rfl (lv_at hl 3 rfl) ?_
            refine lv_iload_n hx hb dX5_other_30 rfl (lv_at hl 1 rfl) ?_
            refine lv_iconst (v := 3) hx hb dX5_other_31 (by decide) ?_
            refine lv_icmp_ne (x := what) (y := 3) (tgt := 39) hx hb dX5_other_32 (by decide) (fun c32 => ?_) (fun c32 => ?_)
            · skip
              refine lv_iconst (v := 0) hx hb dX5_other_39 (by decide) ?_
              refine lv_iload_n hx hb dX5_other_40 rfl (lv_at hl 1 rfl) ?_
              refine lv_iconst (v := 1) hx hb dX5_other_41 (by decide) ?_
              refine lv_icmp_ne (x := what) (y := 1) (tgt := 49) hx hb dX5_other_42 (by decide) (fun c42 => ?_) (fun c42 => ?_)
              · skip
                refine lv_iload_n hx hb dX5_other_49 rfl (lv_at hl 1 rfl) ?_
                refine lv_iconst (v := 3) hx hb dX5_other_50 (by decide) ?_
                refine lv_icmp_ne (x := what) (y := 3) (tgt := 59) hx hb dX5_other_51 (by decide) (fun c51 => ?_) (fun c51 => ?_)
                · skip
                  refine lv_bipush (v := 20) hx hb dX5_other_59 (by decide) ?_
                  refine x_callS (As := [.int v, .int 0, .int 20]) (rest := []) ⟨hx, hb, hml, hown, hts⟩ (mX5_in l G v 0 20 ) (va_cwS 3 hts gX5_other_X5_in rfl rfl rfl (by decide +kernel) ⟨Nat.le_of_ble_eq_true rfl, Nat.le_of_ble_eq_true rfl⟩) hK rfl hl.1 rfl (Nat.le_of_ble_eq_true rfl) dX5_other_61 ⟨Nat.zero_le _, Nat.zero_le _⟩ (fun r hr => ?_)
                  subst hr
                  refine x_if_ne (P := wiP v 0 20) (tgt := 69) hx hb dX5_other_64 (by decide) (fun c64 => ?_) (fun c64 => ?_)
                  · skip
                    have hv : moP what k v (gK g0) := Or.inr (Or.inr (Or.inl ⟨h2, c19, (wi_m1 c26).mpr c64⟩))
                    have hk := vp_of c19.1 c19.2 (by omega)
                    have hkb : k.toNatClampNeg < gK g0 := vp_lt hk
                    refine lv_iload_n hx hb dX5_other_69 rfl (lv_at hl 1 rfl) ?_
                    by_cases w70_0 : what = 0
                    · exact absurd w70_0 h0
                    by_cases w70_1 : what = 1
                    · exact absurd w70_1 h1
                    by_cases w70_2 : what = 2
                    · skip
                      refine lv_tableIn (off := 46) (tgt := 116) hx hb dX5_other_70 (by rw [w70_2]; decide) (by rw [w70_2]; decide) (by rw [w70_2]; rfl) (by decide) ?_
                      refine lv_aload_n hx hb dX5_other_116 rfl (lv_at hl 0 rfl) ?_
                      refine va_get (D := xD G) (ci := 5) (v := .ref (ma 8)) (C := RX5) (T := TX5) (N := 42) hx hb hts inX5 hown hK hP 0 rfl rfl 8 (by decide) kl32 (fun _ h9 => h9) rfl dX5_other_117 ?_
                      refine lv_iload_n hx hb dX5_other_120 rfl (lv_at hl 2 rfl) ?_
                      refine x_top (y := nI k.toNatClampNeg) (nI_self hk) ?_
                      refine lv_iload_n hx hb dX5_other_121 rfl (lv_at hl 3 rfl) ?_
                      refine x_iast (i := k.toNatClampNeg) hx hb hK hP hD hS 6 rfl (by first | omega | assumption) (by omega) dX5_other_122 (fun H locs hP hD hS => ?_)
                      have hP : va_P (xD G) vwCl [oModel mA ma (nI (gK g0)) (nI (gN g0)) (gLp g0) (gOp g0) (gRp g0) (gRa g0) (nI (mK (gZ g0))) (mE (gZ g0)) (mM (gZ g0)) (mV (gZ g0)) (nI (mH (gZ g0))) (gFr g0) (gBu g0) (gBs g0), xI G (ma 2) 4 (gLl g0), xI G (ma 3) 4 (gLn g0), xI G (ma 4) 4 (gLh g0), xI G (ma 6) 4 (gOl g0), xI G (ma 7) 4 (gOn g0), xI G (ma 8) 4 (upd (gOh g0) k.toNatClampNeg v), xI G (ma 10) 16 (gDay g0), xZ G (ma 11) 16 (gUrg g0), xI G (ma 12) 64 (gSzs g0), xI G (ma 13) 16 (gWai g0), xI G (ma 14) 16 (gFro g0), xI G (ma 15) 16 (gBto g0), xI G (ma 16) 4 (gRl g0), xI G (ma 17) 4 (gRn g0), xI G (ma 18) 4 (gRh g0), xI G (ma 21) 16 (mP (gZ g0)), xI G (ma 22) 16 (mL (gZ g0)), xZ G (ma 23) 16 (mT (gZ g0)), xI G (ma 24) 16 (mN (gZ g0)), xI G (ma 25) 16 (mX (gZ g0)), xZ G (ma 26) 16 (mB (gZ g0)), xI G (ma 27) 16 (mD (gZ g0)), xZ G (ma 28) 16 (mW (gZ g0)), xI G (ma 29) 16 (mR (gZ g0)), xI G (ma 30) 80 (mS (gZ g0)), xI G (ma 36) 16 (gHp g0), xI G (ma 37) 16 (gHq g0), xI G (ma 41) 4 (gBo g0)] H := hP
                      have hD : va_D A [oModel mA ma (nI (gK g0)) (nI (gN g0)) (gLp g0) (gOp g0) (gRp g0) (gRa g0) (nI (mK (gZ g0))) (mE (gZ g0)) (mM (gZ g0)) (mV (gZ g0)) (nI (mH (gZ g0))) (gFr g0) (gBu g0) (gBs g0), xI G (ma 2) 4 (gLl g0), xI G (ma 3) 4 (gLn g0), xI G (ma 4) 4 (gLh g0), xI G (ma 6) 4 (gOl g0), xI G (ma 7) 4 (gOn g0), xI G (ma 8) 4 (upd (gOh g0) k.toNatClampNeg v), xI G (ma 10) 16 (gDay g0), xZ G (ma 11) 16 (gUrg g0), xI G (ma 12) 64 (gSzs g0), xI G (ma 13) 16 (gWai g0), xI G (ma 14) 16 (gFro g0), xI G (ma 15) 16 (gBto g0), xI G (ma 16) 4 (gRl g0), xI G (ma 17) 4 (gRn g0), xI G (ma 18) 4 (gRh g0), xI G (ma 21) 16 (mP (gZ g0)), xI G (ma 22) 16 (mL (gZ g0)), xZ G (ma 23) 16 (mT (gZ g0)), xI G (ma 24) 16 (mN (gZ g0)), xI G (ma 25) 16 (mX (gZ g0)), xZ G (ma 26) 16 (mB (gZ g0)), xI G (ma 27) 16 (mD (gZ g0)), xZ G (ma 28) 16 (mW (gZ g0)), xI G (ma 29) 16 (mR (gZ g0)), xI G (ma 30) 80 (mS (gZ g0)), xI G (ma 36) 16 (gHp g0), xI G (ma 37) 16 (gHq g0), xI G (ma 41) 4 (gBo g0)] := hD
                      refine lv_goto (tgt := 131) hx hb dX5_other_123 (by decide) ?_
                      refine lv_iconst (v := 1) hx hb dX5_other_131 (by decide) ?_
                      have eF : motF what k v g0 = mo2 k.toNatClampNeg v g0 := (if_pos hv).trans ((if_neg h0).trans ((if_neg h1).trans (if_pos h2)))
                      rw [eF] at hq
                      exact hq 1 H locs 132 ls dX5_other_132 rfl ((b2_t hv).symm) (by skip; exact hP) (by skip; exact hD) hS
                    exact absurd h2 w70_2
                  · skip
                    refine lv_iconst (v := 0) hx hb dX5_other_67 (by decide) ?_
                    have eF : motF what k v g0 = g0 := if_neg (b2_z.mp ((b2_f (fun h => by rcases h with h | h | h | h; exact absurd (h2.symm.trans h.1) (by decide); exact absurd (h2.symm.trans h.1) (by decide); exact c64 ((wi_m1 c26).mp h.2.2); exact absurd (h2.symm.trans h.1) (by decide))).symm).symm)
                    rw [eF] at hq
                    exact hq 0 H locs 68 ls dX5_other_68 rfl ((b2_f (fun h => by rcases h with h | h | h | h; exact absurd (h2.symm.trans h.1) (by decide); exact absurd (h2.symm.trans h.1) (by decide); exact c64 ((wi_m1 c26).mp h.2.2); exact absurd (h2.symm.trans h.1) (by decide))).symm) (by skip; exact hP) (by skip; exact hD) hS
                · skip
                  exact absurd c51 h3
              · skip
                exact absurd c42 h1
            · skip
              exact absurd c32 h3
        · skip
          refine lv_iconst (v := 0) hx hb dX5_other_22 (by decide) ?_
          have eF : motF what k v g0 = g0 := if_neg (b2_z.mp ((b2_f (fun h => by rcases h with h | h | h | h; exact absurd (h2.symm.trans h.1) (by decide); exact absurd (h2.symm.trans h.1) (by decide); exact c19 h.2.1; exact absurd (h2.symm.trans h.1) (by decide))).symm).symm)
          rw [eF] at hq
          exact hq 0 H locs 23 ls dX5_other_23 rfl ((b2_f (fun h => by rcases h with h | h | h | h; exact absurd (h2.symm.trans h.1) (by decide); exact absurd (h2.symm.trans h.1) (by decide); exact c19 h.2.1; exact absurd (h2.symm.trans h.1) (by decide))).symm) (by skip; exact hP) (by skip; exact hD) hS
  · skip
    have h0 : ¬ what = 0 := by rw [hw5]; decide
    have h1 : ¬ what = 1 := by rw [hw5]; decide
    have h2 : ¬ what = 2 := by rw [hw5]; decide
    have h3 : what = 3 := hw5
    have hge : 3 ≤ what := by rw [hw5]; decide
    have hin : wiP what 0 3 := by rw [hw5]; decide
    refine lv_iload_n hx hb dX5_other_0 rfl (lv_at hl 1 rfl) ?_
    refine lv_iconst (v := 0) hx hb dX5_other_1 (by decide) ?_
    refine lv_iconst (v := 3) hx hb dX5_other_2 (by decide) ?_
    refine x_callS (As := [.int what, .int 0, .int 3]) (rest := []) ⟨hx, hb, hml, hown, hts⟩ (mX5_in l G what 0 3 ) (va_cwS 3 hts gX5_other_X5_in rfl rfl rfl (by decide +kernel) ⟨Nat.le_of_ble_eq_true rfl, Nat.le_of_ble_eq_true rfl⟩) hK rfl hl.1 rfl (Nat.le_of_ble_eq_true rfl) dX5_other_3 ⟨Nat.zero_le _, Nat.zero_le _⟩ (fun r hr => ?_)
    subst hr
    refine x_if_eq (P := wiP what 0 3) (tgt := 22) hx hb dX5_other_6 (by decide) (fun c6 => ?_) (fun c6 => ?_)
    · skip
      exact absurd hin c6
    · skip
      refine lv_iload_n hx hb dX5_other_9 rfl (lv_at hl 1 rfl) ?_
      refine lv_iconst (v := 3) hx hb dX5_other_10 (by decide) ?_
      refine lv_icmp_ge (x := what) (y := 3) (tgt := 24) hx hb dX5_other_11 (by decide) (fun c11 => ?_) (fun c11 => ?_)
      · skip
        refine lv_iload_n hx hb dX5_other_24 rfl (lv_at hl 3 rfl) ?_
        refine lv_iconst (v := (-1)) hx hb dX5_other_25 (by decide) ?_
        refine lv_icmp_eq (x := v) (y := (-1)) (tgt := 69) hx hb dX5_other_26 (by decide) (fun c26 => ?_) (fun c26 => ?_)
        · skip
          have hv : moP what k v (gK g0) := Or.inr (Or.inr (Or.inr ⟨h3, Or.inl c26⟩))
          refine lv_iload_n hx hb dX5_other_69 rfl (lv_at hl 1 rfl) ?_
          by_cases w70_0 : what = 0
          · exact absurd w70_0 h0
          by_cases w70_1 : what = 1
          · exact absurd w70_1 h1
          by_cases w70_2 : what = 2
          · exact absurd w70_2 h2
          refine lv_tableOut (tgt := 126) hx hb dX5_other_70 (by have := lv_neT w70_0 (a := 0) rfl; have := lv_neT w70_1 (a := 1) rfl; have := lv_neT w70_2 (a := 2) rfl; omega) (by decide) ?_
          refine lv_aload_n hx hb dX5_other_126 rfl (lv_at hl 0 rfl) ?_
          refine lv_iload_n hx hb dX5_other_127 rfl (lv_at hl 3 rfl) ?_
          refine va_put (D := xD G) (ci := 5) (v := .int v) (ty := .int) (C := RX5) (T := TX5) (N := 42) hx hb hts inX5 tyX5 tyX5_ok nmX5 hown hK hP hD hS 0 rfl rfl 9 (by decide) kl35 (fun _ h9 => h9) rfl (by decide +kernel) rfl rfl (Nat.le_of_ble_eq_true rfl) dX5_other_128 (fun H locs hP hD hS => ?_)
          have hP : va_P (xD G) vwCl [oModel mA ma (nI (gK g0)) (nI (gN g0)) (gLp g0) v (gRp g0) (gRa g0) (nI (mK (gZ g0))) (mE (gZ g0)) (mM (gZ g0)) (mV (gZ g0)) (nI (mH (gZ g0))) (gFr g0) (gBu g0) (gBs g0), xI G (ma 2) 4 (gLl g0), xI G (ma 3) 4 (gLn g0), xI G (ma 4) 4 (gLh g0), xI G (ma 6) 4 (gOl g0), xI G (ma 7) 4 (gOn g0), xI G (ma 8) 4 (gOh g0), xI G (ma 10) 16 (gDay g0), xZ G (ma 11) 16 (gUrg g0), xI G (ma 12) 64 (gSzs g0), xI G (ma 13) 16 (gWai g0), xI G (ma 14) 16 (gFro g0), xI G (ma 15) 16 (gBto g0), xI G (ma 16) 4 (gRl g0), xI G (ma 17) 4 (gRn g0), xI G (ma 18) 4 (gRh g0), xI G (ma 21) 16 (mP (gZ g0)), xI G (ma 22) 16 (mL (gZ g0)), xZ G (ma 23) 16 (mT (gZ g0)), xI G (ma 24) 16 (mN (gZ g0)), xI G (ma 25) 16 (mX (gZ g0)), xZ G (ma 26) 16 (mB (gZ g0)), xI G (ma 27) 16 (mD (gZ g0)), xZ G (ma 28) 16 (mW (gZ g0)), xI G (ma 29) 16 (mR (gZ g0)), xI G (ma 30) 80 (mS (gZ g0)), xI G (ma 36) 16 (gHp g0), xI G (ma 37) 16 (gHq g0), xI G (ma 41) 4 (gBo g0)] H := hP
          have hD : va_D A [oModel mA ma (nI (gK g0)) (nI (gN g0)) (gLp g0) v (gRp g0) (gRa g0) (nI (mK (gZ g0))) (mE (gZ g0)) (mM (gZ g0)) (mV (gZ g0)) (nI (mH (gZ g0))) (gFr g0) (gBu g0) (gBs g0), xI G (ma 2) 4 (gLl g0), xI G (ma 3) 4 (gLn g0), xI G (ma 4) 4 (gLh g0), xI G (ma 6) 4 (gOl g0), xI G (ma 7) 4 (gOn g0), xI G (ma 8) 4 (gOh g0), xI G (ma 10) 16 (gDay g0), xZ G (ma 11) 16 (gUrg g0), xI G (ma 12) 64 (gSzs g0), xI G (ma 13) 16 (gWai g0), xI G (ma 14) 16 (gFro g0), xI G (ma 15) 16 (gBto g0), xI G (ma 16) 4 (gRl g0), xI G (ma 17) 4 (gRn g0), xI G (ma 18) 4 (gRh g0), xI G (ma 21) 16 (mP (gZ g0)), xI G (ma 22) 16 (mL (gZ g0)), xZ G (ma 23) 16 (mT (gZ g0)), xI G (ma 24) 16 (mN (gZ g0)), xI G (ma 25) 16 (mX (gZ g0)), xZ G (ma 26) 16 (mB (gZ g0)), xI G (ma 27) 16 (mD (gZ g0)), xZ G (ma 28) 16 (mW (gZ g0)), xI G (ma 29) 16 (mR (gZ g0)), xI G (ma 30) 80 (mS (gZ g0)), xI G (ma 36) 16 (gHp g0), xI G (ma 37) 16 (gHq g0), xI G (ma 41) 4 (gBo g0)] := hD
          refine lv_iconst (v := 1) hx hb dX5_other_131 (by decide) ?_
          have eF : motF what k v g0 = mo3 v g0 := (if_pos hv).trans ((if_neg h0).trans ((if_neg h1).trans (if_neg h2)))
          rw [eF] at hq
          exact hq 1 H locs 132 ls dX5_other_132 rfl ((b2_t hv).symm) (by skip; exact hP) (by skip; exact hD) hS
        · skip
          refine lv_iload_n hx hb dX5_other_29 rfl (lv_at hl 3 rfl) ?_
          refine lv_iload_n hx hb dX5_other_30 rfl (lv_at hl 1 rfl) ?_
          refine lv_iconst (v := 3) hx hb dX5_other_31 (by decide) ?_
          refine lv_icmp_ne (x := what) (y := 3) (tgt := 39) hx hb dX5_other_32 (by decide) (fun c32 => ?_) (fun c32 => ?_)
          · skip
            exact absurd h3 c32
          · skip
            refine lv_iconst (v := 1) hx hb dX5_other_35 (by decide) ?_
            refine lv_goto (tgt := 40) hx hb dX5_other_36 (by decide) ?_
            refine lv_iload_n hx hb dX5_other_40 rfl (lv_at hl 1 rfl) ?_
            refine lv_iconst (v := 1) hx hb dX5_other_41 (by decide) ?_
            refine lv_icmp_ne (x := what) (y := 1) (tgt := 49) hx hb dX5_other_42 (by decide) (fun c42 => ?_) (fun c42 => ?_)
            · skip
              refine lv_iload_n hx hb dX5_other_49 rfl (lv_at hl 1 rfl) ?_
              refine lv_iconst (v := 3) hx hb dX5_other_50 (by decide) ?_
              refine lv_icmp_ne (x := what) (y := 3) (tgt := 59) hx hb dX5_other_51 (by decide) (fun c51 => ?_) (fun c51 => ?_)
              · skip
                exact absurd h3 c51
              · skip
                refine lv_bipush (v := 9) hx hb dX5_other_54 (by decide) ?_
                refine lv_goto (tgt := 61) hx hb dX5_other_56 (by decide) ?_
                refine x_callS (As := [.int v, .int 1, .int 9]) (rest := []) ⟨hx, hb, hml, hown, hts⟩ (mX5_in l G v 1 9 ) (va_cwS 3 hts gX5_other_X5_in rfl rfl rfl (by decide +kernel) ⟨Nat.le_of_ble_eq_true rfl, Nat.le_of_ble_eq_true rfl⟩) hK rfl hl.1 rfl (Nat.le_of_ble_eq_true rfl) dX5_other_61 ⟨Nat.zero_le _, Nat.zero_le _⟩ (fun r hr => ?_)
                subst hr
                refine x_if_ne (P := wiP v 1 9) (tgt := 69) hx hb dX5_other_64 (by decide) (fun c64 => ?_) (fun c64 => ?_)
                · skip
                  have hv : moP what k v (gK g0) := Or.inr (Or.inr (Or.inr ⟨h3, Or.inr c64⟩))
                  refine lv_iload_n hx hb dX5_other_69 rfl (lv_at hl 1 rfl) ?_
                  by_cases w70_0 : what = 0
                  · exact absurd w70_0 h0
                  by_cases w70_1 : what = 1
                  · exact absurd w70_1 h1
                  by_cases w70_2 : what = 2
                  · exact absurd w70_2 h2
                  refine lv_tableOut (tgt := 126) hx hb dX5_other_70 (by have := lv_neT w70_0 (a := 0) rfl; have := lv_neT w70_1 (a := 1) rfl; have := lv_neT w70_2 (a := 2) rfl; omega) (by decide) ?_
                  refine lv_aload_n hx hb dX5_other_126 rfl (lv_at hl 0 rfl) ?_
                  refine lv_iload_n hx hb dX5_other_127 rfl (lv_at hl 3 rfl) ?_
                  refine va_put (D := xD G) (ci := 5) (v := .int v) (ty := .int) (C := RX5) (T := TX5) (N := 42) hx hb hts inX5 tyX5 tyX5_ok nmX5 hown hK hP hD hS 0 rfl rfl 9 (by decide) kl35 (fun _ h9 => h9) rfl (by decide +kernel) rfl rfl (Nat.le_of_ble_eq_true rfl) dX5_other_128 (fun H locs hP hD hS => ?_)
                  have hP : va_P (xD G) vwCl [oModel mA ma (nI (gK g0)) (nI (gN g0)) (gLp g0) v (gRp g0) (gRa g0) (nI (mK (gZ g0))) (mE (gZ g0)) (mM (gZ g0)) (mV (gZ g0)) (nI (mH (gZ g0))) (gFr g0) (gBu g0) (gBs g0), xI G (ma 2) 4 (gLl g0), xI G (ma 3) 4 (gLn g0), xI G (ma 4) 4 (gLh g0), xI G (ma 6) 4 (gOl g0), xI G (ma 7) 4 (gOn g0), xI G (ma 8) 4 (gOh g0), xI G (ma 10) 16 (gDay g0), xZ G (ma 11) 16 (gUrg g0), xI G (ma 12) 64 (gSzs g0), xI G (ma 13) 16 (gWai g0), xI G (ma 14) 16 (gFro g0), xI G (ma 15) 16 (gBto g0), xI G (ma 16) 4 (gRl g0), xI G (ma 17) 4 (gRn g0), xI G (ma 18) 4 (gRh g0), xI G (ma 21) 16 (mP (gZ g0)), xI G (ma 22) 16 (mL (gZ g0)), xZ G (ma 23) 16 (mT (gZ g0)), xI G (ma 24) 16 (mN (gZ g0)), xI G (ma 25) 16 (mX (gZ g0)), xZ G (ma 26) 16 (mB (gZ g0)), xI G (ma 27) 16 (mD (gZ g0)), xZ G (ma 28) 16 (mW (gZ g0)), xI G (ma 29) 16 (mR (gZ g0)), xI G (ma 30) 80 (mS (gZ g0)), xI G (ma 36) 16 (gHp g0), xI G (ma 37) 16 (gHq g0), xI G (ma 41) 4 (gBo g0)] H := hP
                  have hD : va_D A [oModel mA ma (nI (gK g0)) (nI (gN g0)) (gLp g0) v (gRp g0) (gRa g0) (nI (mK (gZ g0))) (mE (gZ g0)) (mM (gZ g0)) (mV (gZ g0)) (nI (mH (gZ g0))) (gFr g0) (gBu g0) (gBs g0), xI G (ma 2) 4 (gLl g0), xI G (ma 3) 4 (gLn g0), xI G (ma 4) 4 (gLh g0), xI G (ma 6) 4 (gOl g0), xI G (ma 7) 4 (gOn g0), xI G (ma 8) 4 (gOh g0), xI G (ma 10) 16 (gDay g0), xZ G (ma 11) 16 (gUrg g0), xI G (ma 12) 64 (gSzs g0), xI G (ma 13) 16 (gWai g0), xI G (ma 14) 16 (gFro g0), xI G (ma 15) 16 (gBto g0), xI G (ma 16) 4 (gRl g0), xI G (ma 17) 4 (gRn g0), xI G (ma 18) 4 (gRh g0), xI G (ma 21) 16 (mP (gZ g0)), xI G (ma 22) 16 (mL (gZ g0)), xZ G (ma 23) 16 (mT (gZ g0)), xI G (ma 24) 16 (mN (gZ g0)), xI G (ma 25) 16 (mX (gZ g0)), xZ G (ma 26) 16 (mB (gZ g0)), xI G (ma 27) 16 (mD (gZ g0)), xZ G (ma 28) 16 (mW (gZ g0)), xI G (ma 29) 16 (mR (gZ g0)), xI G (ma 30) 80 (mS (gZ g0)), xI G (ma 36) 16 (gHp g0), xI G (ma 37) 16 (gHq g0), xI G (ma 41) 4 (gBo g0)] := hD
                  refine lv_iconst (v := 1) hx hb dX5_other_131 (by decide) ?_
                  have eF : motF what k v g0 = mo3 v g0 := (if_pos hv).trans ((if_neg h0).trans ((if_neg h1).trans (if_neg h2)))
                  rw [eF] at hq
                  exact hq 1 H locs 132 ls dX5_other_132 rfl ((b2_t hv).symm) (by skip; exact hP) (by skip; exact hD) hS
                · skip
                  refine lv_iconst (v := 0) hx hb dX5_other_67 (by decide) ?_
                  have eF : motF what k v g0 = g0 := if_neg (b2_z.mp ((b2_f (fun h => by rcases h with h | h | h | h; exact absurd (h3.symm.trans h.1) (by decide); exact absurd (h3.symm.trans h.1) (by decide); exact absurd (h3.symm.trans h.1) (by decide); exact h.2.elim c26 c64)).symm).symm)
                  rw [eF] at hq
                  exact hq 0 H locs 68 ls dX5_other_68 rfl ((b2_f (fun h => by rcases h with h | h | h | h; exact absurd (h3.symm.trans h.1) (by decide); exact absurd (h3.symm.trans h.1) (by decide); exact absurd (h3.symm.trans h.1) (by decide); exact h.2.elim c26 c64)).symm) (by skip; exact hP) (by skip; exact hD) hS
            · skip
              exact absurd c42 h1
      · skip
        exact absurd hge c11
  · skip
    refine lv_iload_n hx hb dX5_other_0 rfl (lv_at hl 1 rfl) ?_
    refine lv_iconst (v := 0) hx hb dX5_other_1 (by decide) ?_
    refine lv_iconst (v := 3) hx hb dX5_other_2 (by decide) ?_
    refine x_callS (As := [.int what, .int 0, .int 3]) (rest := []) ⟨hx, hb, hml, hown, hts⟩ (mX5_in l G what 0 3 ) (va_cwS 3 hts gX5_other_X5_in rfl rfl rfl (by decide +kernel) ⟨Nat.le_of_ble_eq_true rfl, Nat.le_of_ble_eq_true rfl⟩) hK rfl hl.1 rfl (Nat.le_of_ble_eq_true rfl) dX5_other_3 ⟨Nat.zero_le _, Nat.zero_le _⟩ (fun r hr => ?_)
    subst hr
    refine x_if_eq (P := wiP what 0 3) (tgt := 22) hx hb dX5_other_6 (by decide) (fun c6 => ?_) (fun c6 => ?_)
    · skip
      refine lv_iconst (v := 0) hx hb dX5_other_22 (by decide) ?_
      have eF : motF what k v g0 = g0 := if_neg (b2_z.mp ((b2_f (fun h => hw5 (by rcases h with h | h | h | h <;> (rw [h.1]; decide)))).symm).symm)
      rw [eF] at hq
      exact hq 0 H locs 23 ls dX5_other_23 rfl ((b2_f (fun h => hw5 (by rcases h with h | h | h | h <;> (rw [h.1]; decide)))).symm) (by skip; exact hP) (by skip; exact hD) hS
    · skip
      exact absurd c6 hw5
set_option maxHeartbeats 4000000 in
set_option maxRecDepth 100000 in
theorem mX5_card (l : Launch) (G : xG) (mA : Nat) (ma : Nat → Nat) (g0 : MM) (v : Int32) (u : Bool)  (hG : GI g0) : xN l yX5_card wsX5_card ({ frames := 1, cells := 0, slots := 0, locals := 22 } : Room) [.ref mA, .int v, .int (b2 (u = true))] G [oModel mA ma (nI (gK g0)) (nI (gN g0)) (gLp g0) (gOp g0) (gRp g0) (gRa g0) (nI (mK (gZ g0))) (mE (gZ g0)) (mM (gZ g0)) (mV (gZ g0)) (nI (mH (gZ g0))) (gFr g0) (gBu g0) (gBs g0), xI G (ma 2) 4 (gLl g0), xI G (ma 3) 4 (gLn g0), xI G (ma 4) 4 (gLh g0), xI G (ma 6) 4 (gOl g0), xI G (ma 7) 4 (gOn g0), xI G (ma 8) 4 (gOh g0), xI G (ma 10) 16 (gDay g0), xZ G (ma 11) 16 (gUrg g0), xI G (ma 12) 64 (gSzs g0), xI G (ma 13) 16 (gWai g0), xI G (ma 14) 16 (gFro g0), xI G (ma 15) 16 (gBto g0), xI G (ma 16) 4 (gRl g0), xI G (ma 17) 4 (gRn g0), xI G (ma 18) 4 (gRh g0), xI G (ma 21) 16 (mP (gZ g0)), xI G (ma 22) 16 (mL (gZ g0)), xZ G (ma 23) 16 (mT (gZ g0)), xI G (ma 24) 16 (mN (gZ g0)), xI G (ma 25) 16 (mX (gZ g0)), xZ G (ma 26) 16 (mB (gZ g0)), xI G (ma 27) 16 (mD (gZ g0)), xZ G (ma 28) 16 (mW (gZ g0)), xI G (ma 29) 16 (mR (gZ g0)), xI G (ma 30) 80 (mS (gZ g0)), xI G (ma 36) 16 (gHp g0), xI G (ma 37) 16 (gHq g0), xI G (ma 41) 4 (gBo g0)] [oModel mA ma (nI (gK (madF v u g0))) (nI (gN (madF v u g0))) (gLp (madF v u g0)) (gOp (madF v u g0)) (gRp (madF v u g0)) (gRa (madF v u g0)) (nI (mK (gZ (madF v u g0)))) (mE (gZ (madF v u g0))) (mM (gZ (madF v u g0))) (mV (gZ (madF v u g0))) (nI (mH (gZ (madF v u g0)))) (gFr (madF v u g0)) (gBu (madF v u g0)) (gBs (madF v u g0)), xI G (ma 2) 4 (gLl (madF v u g0)), xI G (ma 3) 4 (gLn (madF v u g0)), xI G (ma 4) 4 (gLh (madF v u g0)), xI G (ma 6) 4 (gOl (madF v u g0)), xI G (ma 7) 4 (gOn (madF v u g0)), xI G (ma 8) 4 (gOh (madF v u g0)), xI G (ma 10) 16 (gDay (madF v u g0)), xZ G (ma 11) 16 (gUrg (madF v u g0)), xI G (ma 12) 64 (gSzs (madF v u g0)), xI G (ma 13) 16 (gWai (madF v u g0)), xI G (ma 14) 16 (gFro (madF v u g0)), xI G (ma 15) 16 (gBto (madF v u g0)), xI G (ma 16) 4 (gRl (madF v u g0)), xI G (ma 17) 4 (gRn (madF v u g0)), xI G (ma 18) 4 (gRh (madF v u g0)), xI G (ma 21) 16 (mP (gZ (madF v u g0))), xI G (ma 22) 16 (mL (gZ (madF v u g0))), xZ G (ma 23) 16 (mT (gZ (madF v u g0))), xI G (ma 24) 16 (mN (gZ (madF v u g0))), xI G (ma 25) 16 (mX (gZ (madF v u g0))), xZ G (ma 26) 16 (mB (gZ (madF v u g0))), xI G (ma 27) 16 (mD (gZ (madF v u g0))), xZ G (ma 28) 16 (mW (gZ (madF v u g0))), xI G (ma 29) 16 (mR (gZ (madF v u g0))), xI G (ma 30) 80 (mS (gZ (madF v u g0))), xI G (ma 36) 16 (gHp (madF v u g0)), xI G (ma 37) 16 (gHq (madF v u g0)), xI G (ma 41) 4 (gBo (madF v u g0))] (madA v g0) := by
  refine xN_of (cc := cX5_card) (maxL := 4) (ty := .int) (by decide) rfl (Nat.le_of_ble_eq_true rfl) ?_
  intro p e s m below meth cO ls Q A hx hb hml hown hts hP hK hD hS hA hl hq
  have hown : s.vm.findClass RX5 = some m.cls := hown
  have kl105 := hts (.fieldLink RX5 105 "WorkBoardModel" "cards" "I") (List.mem_of_getElem? (i := 1) rfl)
  have kl38 := hts (.fieldLink RX5 38 "WorkBoardModel" "come" "[I") (List.mem_of_getElem? (i := 2) rfl)
  have kl41 := hts (.fieldLink RX5 41 "WorkBoardModel" "isUrgent" "[Z") (List.mem_of_getElem? (i := 3) rfl)
  have kl48 := hts (.fieldLink RX5 48 "WorkBoardModel" "waitsFor" "[I") (List.mem_of_getElem? (i := 4) rfl)
  have kl51 := hts (.fieldLink RX5 51 "WorkBoardModel" "backFrom" "[I") (List.mem_of_getElem? (i := 5) rfl)
  have kl54 := hts (.fieldLink RX5 54 "WorkBoardModel" "backTo" "[I") (List.mem_of_getElem? (i := 6) rfl)
  have kl45 := hts (.fieldLink RX5 45 "WorkBoardModel" "size" "[I") (List.mem_of_getElem? (i := 7) rfl)
  have kl116 := hts (.fieldLink RX5 116 "WorkBoardModel" "isFresh" "Z") (List.mem_of_getElem? (i := 8) rfl)
  have inX5 : ∀ w ∈ u_ws RX5 TX5 42, w ∈ wsX5_card := (fun w h => List.mem_cons_of_mem _ (List.mem_append_right _ h))
  obtain ⟨hn, hnc, hw, hcm⟩ := id hG
  have hl : lv_has ls 4 [(0, .ref mA), (1, .int v), (2, .int (b2 (u = true)))] := hl
  have hD : va_D A [oModel mA ma (nI (gK g0)) (nI (gN g0)) (gLp g0) (gOp g0) (gRp g0) (gRa g0) (nI (mK (gZ g0))) (mE (gZ g0)) (mM (gZ g0)) (mV (gZ g0)) (nI (mH (gZ g0))) (gFr g0) (gBu g0) (gBs g0), xI G (ma 2) 4 (gLl g0), xI G (ma 3) 4 (gLn g0), xI G (ma 4) 4 (gLh g0), xI G (ma 6) 4 (gOl g0), xI G (ma 7) 4 (gOn g0), xI G (ma 8) 4 (gOh g0), xI G (ma 10) 16 (gDay g0), xZ G (ma 11) 16 (gUrg g0), xI G (ma 12) 64 (gSzs g0), xI G (ma 13) 16 (gWai g0), xI G (ma 14) 16 (gFro g0), xI G (ma 15) 16 (gBto g0), xI G (ma 16) 4 (gRl g0), xI G (ma 17) 4 (gRn g0), xI G (ma 18) 4 (gRh g0), xI G (ma 21) 16 (mP (gZ g0)), xI G (ma 22) 16 (mL (gZ g0)), xZ G (ma 23) 16 (mT (gZ g0)), xI G (ma 24) 16 (mN (gZ g0)), xI G (ma 25) 16 (mX (gZ g0)), xZ G (ma 26) 16 (mB (gZ g0)), xI G (ma 27) 16 (mD (gZ g0)), xZ G (ma 28) 16 (mW (gZ g0)), xI G (ma 29) 16 (mR (gZ g0)), xI G (ma 30) 80 (mS (gZ g0)), xI G (ma 36) 16 (gHp g0), xI G (ma 37) 16 (gHq g0), xI G (ma 41) 4 (gBo g0)] := hD
  obtain ⟨H, hH⟩ : ∃ z, z = s.heap := ⟨_, rfl⟩
  obtain ⟨locs, hlocs⟩ : ∃ z : List Loc, z = [] := ⟨_, rfl⟩
  have hS : va_S A s.heap H locs := by rw [hH, hlocs]; exact hS
  have hP : va_P (xD G) vwCl [oModel mA ma (nI (gK g0)) (nI (gN g0)) (gLp g0) (gOp g0) (gRp g0) (gRa g0) (nI (mK (gZ g0))) (mE (gZ g0)) (mM (gZ g0)) (mV (gZ g0)) (nI (mH (gZ g0))) (gFr g0) (gBu g0) (gBs g0), xI G (ma 2) 4 (gLl g0), xI G (ma 3) 4 (gLn g0), xI G (ma 4) 4 (gLh g0), xI G (ma 6) 4 (gOl g0), xI G (ma 7) 4 (gOn g0), xI G (ma 8) 4 (gOh g0), xI G (ma 10) 16 (gDay g0), xZ G (ma 11) 16 (gUrg g0), xI G (ma 12) 64 (gSzs g0), xI G (ma 13) 16 (gWai g0), xI G (ma 14) 16 (gFro g0), xI G (ma 15) 16 (gBto g0), xI G (ma 16) 4 (gRl g0), xI G (ma 17) 4 (gRn g0), xI G (ma 18) 4 (gRh g0), xI G (ma 21) 16 (mP (gZ g0)), xI G (ma 22) 16 (mL (gZ g0)), xZ G (ma 23) 16 (mT (gZ g0)), xI G (ma 24) 16 (mN (gZ g0)), xI G (ma 25) 16 (mX (gZ g0)), xZ G (ma 26) 16 (mB (gZ g0)), xI G (ma 27) 16 (mD (gZ g0)), xZ G (ma 28) 16 (mW (gZ g0)), xI G (ma 29) 16 (mR (gZ g0)), xI G (ma 30) 80 (mS (gZ g0)), xI G (ma 36) 16 (gHp g0), xI G (ma 37) 16 (gHq g0), xI G (ma 41) 4 (gBo g0)] H := by rw [hH]; exact hP
  rw [← hH, ← hlocs]
  clear hH hlocs
  refine lv_iload_n hx hb dX5_card_0 rfl (lv_at hl 1 rfl) ?_
  refine lv_iconst (v := 0) hx hb dX5_card_1 (by decide) ?_
  refine lv_bipush (v := 99) hx hb dX5_card_2 (by decide) ?_
  refine x_callS (As := [.int v, .int 0, .int 99]) (rest := []) ⟨hx, hb, hml, hown, hts⟩ (mX5_in l G v 0 99 ) (va_cwS 3 hts gX5_card_X5_in rfl rfl rfl (by decide +kernel) ⟨Nat.le_of_ble_eq_true rfl, Nat.le_of_ble_eq_true rfl⟩) hK rfl hl.1 rfl (Nat.le_of_ble_eq_true rfl) dX5_card_4 ⟨Nat.zero_le _, Nat.zero_le _⟩ (fun r hr => ?_)
  subst hr
  refine x_if_eq (P := wiP v 0 99) (tgt := 19) hx hb dX5_card_7 (by decide) (fun c7 => ?_) (fun c7 => ?_)
  · skip
    refine lv_iconst (v := (-1)) hx hb dX5_card_19 (by decide) ?_
    have eF : madF v u g0 = g0 := if_neg (fun h => c7 h.1)
    rw [eF] at hq
    exact hq (-1) H locs 20 ls dX5_card_20 rfl ((if_neg (fun h => c7 h.1)).symm) (by skip; exact hP) (by skip; exact hD) hS
  · skip
    refine lv_aload_n hx hb dX5_card_10 rfl (lv_at hl 0 rfl) ?_
    refine va_get (D := xD G) (ci := 5) (v := .int (nI (gN g0))) (C := RX5) (T := TX5) (N := 42) hx hb hts inX5 hown hK hP 0 rfl rfl 1 (by decide) kl105 (fun _ h9 => h9) rfl dX5_card_11 ?_
    refine lv_bipush (v := 16) hx hb dX5_card_14 (by decide) ?_
    refine x_icmp_ne (x := gN g0) (y := 16) (tgt := 21) hx hb (by omega) (by omega) dX5_card_16 (by decide) (fun c16 => ?_) (fun c16 => ?_)
    · skip
      have hv : adQ v (gN g0) := ⟨c7, c16⟩
      refine lv_aload_n hx hb dX5_card_21 rfl (lv_at hl 0 rfl) ?_
      refine va_get (D := xD G) (ci := 5) (v := .ref (ma 10)) (C := RX5) (T := TX5) (N := 42) hx hb hts inX5 hown hK hP 0 rfl rfl 10 (by decide) kl38 (fun _ h9 => h9) rfl dX5_card_22 ?_
      refine lv_aload_n hx hb dX5_card_25 rfl (lv_at hl 0 rfl) ?_
      refine va_get (D := xD G) (ci := 5) (v := .int (nI (gN g0))) (C := RX5) (T := TX5) (N := 42) hx hb hts inX5 hown hK hP 0 rfl rfl 1 (by decide) kl105 (fun _ h9 => h9) rfl dX5_card_26 ?_
      refine lv_iload_n hx hb dX5_card_29 rfl (lv_at hl 1 rfl) ?_
      refine x_iast (i := gN g0) hx hb hK hP hD hS 7 rfl (by first | omega | assumption) (by omega) dX5_card_30 (fun H locs hP hD hS => ?_)
      have hP : va_P (xD G) vwCl [oModel mA ma (nI (gK g0)) (nI (gN g0)) (gLp g0) (gOp g0) (gRp g0) (gRa g0) (nI (mK (gZ g0))) (mE (gZ g0)) (mM (gZ g0)) (mV (gZ g0)) (nI (mH (gZ g0))) (gFr g0) (gBu g0) (gBs g0), xI G (ma 2) 4 (gLl g0), xI G (ma 3) 4 (gLn g0), xI G (ma 4) 4 (gLh g0), xI G (ma 6) 4 (gOl g0), xI G (ma 7) 4 (gOn g0), xI G (ma 8) 4 (gOh g0), xI G (ma 10) 16 (upd (gDay g0) (gN g0) v), xZ G (ma 11) 16 (gUrg g0), xI G (ma 12) 64 (gSzs g0), xI G (ma 13) 16 (gWai g0), xI G (ma 14) 16 (gFro g0), xI G (ma 15) 16 (gBto g0), xI G (ma 16) 4 (gRl g0), xI G (ma 17) 4 (gRn g0), xI G (ma 18) 4 (gRh g0), xI G (ma 21) 16 (mP (gZ g0)), xI G (ma 22) 16 (mL (gZ g0)), xZ G (ma 23) 16 (mT (gZ g0)), xI G (ma 24) 16 (mN (gZ g0)), xI G (ma 25) 16 (mX (gZ g0)), xZ G (ma 26) 16 (mB (gZ g0)), xI G (ma 27) 16 (mD (gZ g0)), xZ G (ma 28) 16 (mW (gZ g0)), xI G (ma 29) 16 (mR (gZ g0)), xI G (ma 30) 80 (mS (gZ g0)), xI G (ma 36) 16 (gHp g0), xI G (ma 37) 16 (gHq g0), xI G (ma 41) 4 (gBo g0)] H := hP
      have hD : va_D A [oModel mA ma (nI (gK g0)) (nI (gN g0)) (gLp g0) (gOp g0) (gRp g0) (gRa g0) (nI (mK (gZ g0))) (mE (gZ g0)) (mM (gZ g0)) (mV (gZ g0)) (nI (mH (gZ g0))) (gFr g0) (gBu g0) (gBs g0), xI G (ma 2) 4 (gLl g0), xI G (ma 3) 4 (gLn g0), xI G (ma 4) 4 (gLh g0), xI G (ma 6) 4 (gOl g0), xI G (ma 7) 4 (gOn g0), xI G (ma 8) 4 (gOh g0), xI G (ma 10) 16 (upd (gDay g0) (gN g0) v), xZ G (ma 11) 16 (gUrg g0), xI G (ma 12) 64 (gSzs g0), xI G (ma 13) 16 (gWai g0), xI G (ma 14) 16 (gFro g0), xI G (ma 15) 16 (gBto g0), xI G (ma 16) 4 (gRl g0), xI G (ma 17) 4 (gRn g0), xI G (ma 18) 4 (gRh g0), xI G (ma 21) 16 (mP (gZ g0)), xI G (ma 22) 16 (mL (gZ g0)), xZ G (ma 23) 16 (mT (gZ g0)), xI G (ma 24) 16 (mN (gZ g0)), xI G (ma 25) 16 (mX (gZ g0)), xZ G (ma 26) 16 (mB (gZ g0)), xI G (ma 27) 16 (mD (gZ g0)), xZ G (ma 28) 16 (mW (gZ g0)), xI G (ma 29) 16 (mR (gZ g0)), xI G (ma 30) 80 (mS (gZ g0)), xI G (ma 36) 16 (gHp g0), xI G (ma 37) 16 (gHq g0), xI G (ma 41) 4 (gBo g0)] := hD
      refine lv_aload_n hx hb dX5_card_31 rfl (lv_at hl 0 rfl) ?_
      refine va_get (D := xD G) (ci := 5) (v := .ref (ma 11)) (C := RX5) (T := TX5) (N := 42) hx hb hts inX5 hown hK hP 0 rfl rfl 11 (by decide) kl41 (fun _ h9 => h9) rfl dX5_card_32 ?_
      refine lv_aload_n hx hb dX5_card_35 rfl (lv_at hl 0 rfl) ?_
      refine va_get (D := xD G) (ci := 5) (v := .int (nI (gN g0))) (C := RX5) (T := TX5) (N := 42) hx hb hts inX5 hown hK hP 0 rfl rfl 1 (by decide) kl105 (fun _ h9 => h9) rfl dX5_card_36 ?_
      refine lv_iload_n hx hb dX5_card_39 rfl (lv_at hl 2 rfl) ?_
      refine x_zast (i := gN g0) hx hb hK hP hD hS 8 rfl (by first | omega | assumption) (by omega) (b2_nar _) dX5_card_40 (fun H locs hP hD hS => ?_)
      have hP : va_P (xD G) vwCl [oModel mA ma (nI (gK g0)) (nI (gN g0)) (gLp g0) (gOp g0) (gRp g0) (gRa g0) (nI (mK (gZ g0))) (mE (gZ g0)) (mM (gZ g0)) (mV (gZ g0)) (nI (mH (gZ g0))) (gFr g0) (gBu g0) (gBs g0), xI G (ma 2) 4 (gLl g0), xI G (ma 3) 4 (gLn g0), xI G (ma 4) 4 (gLh g0), xI G (ma 6) 4 (gOl g0), xI G (ma 7) 4 (gOn g0), xI G (ma 8) 4 (gOh g0), xI G (ma 10) 16 (upd (gDay g0) (gN g0) v), xZ G (ma 11) 16 (upd (gUrg g0) (gN g0) (b2 (u = true))), xI G (ma 12) 64 (gSzs g0), xI G (ma 13) 16 (gWai g0), xI G (ma 14) 16 (gFro g0), xI G (ma 15) 16 (gBto g0), xI G (ma 16) 4 (gRl g0), xI G (ma 17) 4 (gRn g0), xI G (ma 18) 4 (gRh g0), xI G (ma 21) 16 (mP (gZ g0)), xI G (ma 22) 16 (mL (gZ g0)), xZ G (ma 23) 16 (mT (gZ g0)), xI G (ma 24) 16 (mN (gZ g0)), xI G (ma 25) 16 (mX (gZ g0)), xZ G (ma 26) 16 (mB (gZ g0)), xI G (ma 27) 16 (mD (gZ g0)), xZ G (ma 28) 16 (mW (gZ g0)), xI G (ma 29) 16 (mR (gZ g0)), xI G (ma 30) 80 (mS (gZ g0)), xI G (ma 36) 16 (gHp g0), xI G (ma 37) 16 (gHq g0), xI G (ma 41) 4 (gBo g0)] H := hP
      have hD : va_D A [oModel mA ma (nI (gK g0)) (nI (gN g0)) (gLp g0) (gOp g0) (gRp g0) (gRa g0) (nI (mK (gZ g0))) (mE (gZ g0)) (mM (gZ g0)) (mV (gZ g0)) (nI (mH (gZ g0))) (gFr g0) (gBu g0) (gBs g0), xI G (ma 2) 4 (gLl g0), xI G (ma 3) 4 (gLn g0), xI G (ma 4) 4 (gLh g0), xI G (ma 6) 4 (gOl g0), xI G (ma 7) 4 (gOn g0), xI G (ma 8) 4 (gOh g0), xI G (ma 10) 16 (upd (gDay g0) (gN g0) v), xZ G (ma 11) 16 (upd (gUrg g0) (gN g0) (b2 (u = true))), xI G (ma 12) 64 (gSzs g0), xI G (ma 13) 16 (gWai g0), xI G (ma 14) 16 (gFro g0), xI G (ma 15) 16 (gBto g0), xI G (ma 16) 4 (gRl g0), xI G (ma 17) 4 (gRn g0), xI G (ma 18) 4 (gRh g0), xI G (ma 21) 16 (mP (gZ g0)), xI G (ma 22) 16 (mL (gZ g0)), xZ G (ma 23) 16 (mT (gZ g0)), xI G (ma 24) 16 (mN (gZ g0)), xI G (ma 25) 16 (mX (gZ g0)), xZ G (ma 26) 16 (mB (gZ g0)), xI G (ma 27) 16 (mD (gZ g0)), xZ G (ma 28) 16 (mW (gZ g0)), xI G (ma 29) 16 (mR (gZ g0)), xI G (ma 30) 80 (mS (gZ g0)), xI G (ma 36) 16 (gHp g0), xI G (ma 37) 16 (gHq g0), xI G (ma 41) 4 (gBo g0)] := hD
      refine lv_aload_n hx hb dX5_card_41 rfl (lv_at hl 0 rfl) ?_
      refine va_get (D := xD G) (ci := 5) (v := .ref (ma 13)) (C := RX5) (T := TX5) (N := 42) hx hb hts inX5 hown hK hP 0 rfl rfl 13 (by decide) kl48 (fun _ h9 => h9) rfl dX5_card_42 ?_
      refine lv_aload_n hx hb dX5_card_45 rfl (lv_at hl 0 rfl) ?_
      refine va_get (D := xD G) (ci := 5) (v := .int (nI (gN g0))) (C := RX5) (T := TX5) (N := 42) hx hb hts inX5 hown hK hP 0 rfl rfl 1 (by decide) kl105 (fun _ h9 => h9) rfl dX5_card_46 ?_
      refine lv_iconst (v := (-1)) hx hb dX5_card_49 (by decide) ?_
      refine x_iast (i := gN g0) hx hb hK hP hD hS 10 rfl (by first | omega | assumption) (by omega) dX5_card_50 (fun H locs hP hD hS => ?_)
      have hP : va_P (xD G) vwCl [oModel mA ma (nI (gK g0)) (nI (gN g0)) (gLp g0) (gOp g0) (gRp g0) (gRa g0) (nI (mK (gZ g0))) (mE (gZ g0)) (mM (gZ g0)) (mV (gZ g0)) (nI (mH (gZ g0))) (gFr g0) (gBu g0) (gBs g0), xI G (ma 2) 4 (gLl g0), xI G (ma 3) 4 (gLn g0), xI G (ma 4) 4 (gLh g0), xI G (ma 6) 4 (gOl g0), xI G (ma 7) 4 (gOn g0), xI G (ma 8) 4 (gOh g0), xI G (ma 10) 16 (upd (gDay g0) (gN g0) v), xZ G (ma 11) 16 (upd (gUrg g0) (gN g0) (b2 (u = true))), xI G (ma 12) 64 (gSzs g0), xI G (ma 13) 16 (upd (gWai g0) (gN g0) (-1)), xI G (ma 14) 16 (gFro g0), xI G (ma 15) 16 (gBto g0), xI G (ma 16) 4 (gRl g0), xI G (ma 17) 4 (gRn g0), xI G (ma 18) 4 (gRh g0), xI G (ma 21) 16 (mP (gZ g0)), xI G (ma 22) 16 (mL (gZ g0)), xZ G (ma 23) 16 (mT (gZ g0)), xI G (ma 24) 16 (mN (gZ g0)), xI G (ma 25) 16 (mX (gZ g0)), xZ G (ma 26) 16 (mB (gZ g0)), xI G (ma 27) 16 (mD (gZ g0)), xZ G (ma 28) 16 (mW (gZ g0)), xI G (ma 29) 16 (mR (gZ g0)), xI G (ma 30) 80 (mS (gZ g0)), xI G (ma 36) 16 (gHp g0), xI G (ma 37) 16 (gHq g0), xI G (ma 41) 4 (gBo g0)] H := hP
      have hD : va_D A [oModel mA ma (nI (gK g0)) (nI (gN g0)) (gLp g0) (gOp g0) (gRp g0) (gRa g0) (nI (mK (gZ g0))) (mE (gZ g0)) (mM (gZ g0)) (mV (gZ g0)) (nI (mH (gZ g0))) (gFr g0) (gBu g0) (gBs g0), xI G (ma 2) 4 (gLl g0), xI G (ma 3) 4 (gLn g0), xI G (ma 4) 4 (gLh g0), xI G (ma 6) 4 (gOl g0), xI G (ma 7) 4 (gOn g0), xI G (ma 8) 4 (gOh g0), xI G (ma 10) 16 (upd (gDay g0) (gN g0) v), xZ G (ma 11) 16 (upd (gUrg g0) (gN g0) (b2 (u = true))), xI G (ma 12) 64 (gSzs g0), xI G (ma 13) 16 (upd (gWai g0) (gN g0) (-1)), xI G (ma 14) 16 (gFro g0), xI G (ma 15) 16 (gBto g0), xI G (ma 16) 4 (gRl g0), xI G (ma 17) 4 (gRn g0), xI G (ma 18) 4 (gRh g0), xI G (ma 21) 16 (mP (gZ g0)), xI G (ma 22) 16 (mL (gZ g0)), xZ G (ma 23) 16 (mT (gZ g0)), xI G (ma 24) 16 (mN (gZ g0)), xI G (ma 25) 16 (mX (gZ g0)), xZ G (ma 26) 16 (mB (gZ g0)), xI G (ma 27) 16 (mD (gZ g0)), xZ G (ma 28) 16 (mW (gZ g0)), xI G (ma 29) 16 (mR (gZ g0)), xI G (ma 30) 80 (mS (gZ g0)), xI G (ma 36) 16 (gHp g0), xI G (ma 37) 16 (gHq g0), xI G (ma 41) 4 (gBo g0)] := hD
      refine lv_aload_n hx hb dX5_card_51 rfl (lv_at hl 0 rfl) ?_
      refine va_get (D := xD G) (ci := 5) (v := .ref (ma 14)) (C := RX5) (T := TX5) (N := 42) hx hb hts inX5 hown hK hP 0 rfl rfl 14 (by decide) kl51 (fun _ h9 => h9) rfl dX5_card_52 ?_
      refine lv_aload_n hx hb dX5_card_55 rfl (lv_at hl 0 rfl) ?_
      refine va_get (D := xD G) (ci := 5) (v := .int (nI (gN g0))) (C := RX5) (T := TX5) (N := 42) hx hb hts inX5 hown hK hP 0 rfl rfl 1 (by decide) kl105 (fun _ h9 => h9) rfl dX5_card_56 ?_
      refine lv_iconst (v := (-1)) hx hb dX5_card_59 (by decide) ?_
      refine x_iast (i := gN g0) hx hb hK hP hD hS 11 rfl (by first | omega | assumption) (by omega) dX5_card_60 (fun H locs hP hD hS => ?_)
      have hP : va_P (xD G) vwCl [oModel mA ma (nI (gK g0)) (nI (gN g0)) (gLp g0) (gOp g0) (gRp g0) (gRa g0) (nI (mK (gZ g0))) (mE (gZ g0)) (mM (gZ g0)) (mV (gZ g0)) (nI (mH (gZ g0))) (gFr g0) (gBu g0) (gBs g0), xI G (ma 2) 4 (gLl g0), xI G (ma 3) 4 (gLn g0), xI G (ma 4) 4 (gLh g0), xI G (ma 6) 4 (gOl g0), xI G (ma 7) 4 (gOn g0), xI G (ma 8) 4 (gOh g0), xI G (ma 10) 16 (upd (gDay g0) (gN g0) v), xZ G (ma 11) 16 (upd (gUrg g0) (gN g0) (b2 (u = true))), xI G (ma 12) 64 (gSzs g0), xI G (ma 13) 16 (upd (gWai g0) (gN g0) (-1)), xI G (ma 14) 16 (upd (gFro g0) (gN g0) (-1)), xI G (ma 15) 16 (gBto g0), xI G (ma 16) 4 (gRl g0), xI G (ma 17) 4 (gRn g0), xI G (ma 18) 4 (gRh g0), xI G (ma 21) 16 (mP (gZ g0)), xI G (ma 22) 16 (mL (gZ g0)), xZ G (ma 23) 16 (mT (gZ g0)), xI G (ma 24) 16 (mN (gZ g0)), xI G (ma 25) 16 (mX (gZ g0)), xZ G (ma 26) 16 (mB (gZ g0)), xI G (ma 27) 16 (mD (gZ g0)), xZ G (ma 28) 16 (mW (gZ g0)), xI G (ma 29) 16 (mR (gZ g0)), xI G (ma 30) 80 (mS (gZ g0)), xI G (ma 36) 16 (gHp g0), xI G (ma 37) 16 (gHq g0), xI G (ma 41) 4 (gBo g0)] H := hP
      have hD : va_D A [oModel mA ma (nI (gK g0)) (nI (gN g0)) (gLp g0) (gOp g0) (gRp g0) (gRa g0) (nI (mK (gZ g0))) (mE (gZ g0)) (mM (gZ g0)) (mV (gZ g0)) (nI (mH (gZ g0))) (gFr g0) (gBu g0) (gBs g0), xI G (ma 2) 4 (gLl g0), xI G (ma 3) 4 (gLn g0), xI G (ma 4) 4 (gLh g0), xI G (ma 6) 4 (gOl g0), xI G (ma 7) 4 (gOn g0), xI G (ma 8) 4 (gOh g0), xI G (ma 10) 16 (upd (gDay g0) (gN g0) v), xZ G (ma 11) 16 (upd (gUrg g0) (gN g0) (b2 (u = true))), xI G (ma 12) 64 (gSzs g0), xI G (ma 13) 16 (upd (gWai g0) (gN g0) (-1)), xI G (ma 14) 16 (upd (gFro g0) (gN g0) (-1)), xI G (ma 15) 16 (gBto g0), xI G (ma 16) 4 (gRl g0), xI G (ma 17) 4 (gRn g0), xI G (ma 18) 4 (gRh g0), xI G (ma 21) 16 (mP (gZ g0)), xI G (ma 22) 16 (mL (gZ g0)), xZ G (ma 23) 16 (mT (gZ g0)), xI G (ma 24) 16 (mN (gZ g0)), xI G (ma 25) 16 (mX (gZ g0)), xZ G (ma 26) 16 (mB (gZ g0)), xI G (ma 27) 16 (mD (gZ g0)), xZ G (ma 28) 16 (mW (gZ g0)), xI G (ma 29) 16 (mR (gZ g0)), xI G (ma 30) 80 (mS (gZ g0)), xI G (ma 36) 16 (gHp g0), xI G (ma 37) 16 (gHq g0), xI G (ma 41) 4 (gBo g0)] := hD
      refine lv_aload_n hx hb dX5_card_61 rfl (lv_at hl 0 rfl) ?_
      refine va_get (D := xD G) (ci := 5) (v := .ref (ma 15)) (C := RX5) (T := TX5) (N := 42) hx hb hts inX5 hown hK hP 0 rfl rfl 15 (by decide) kl54 (fun _ h9 => h9) rfl dX5_card_62 ?_
      refine lv_aload_n hx hb dX5_card_65 rfl (lv_at hl 0 rfl) ?_
      refine va_get (D := xD G) (ci := 5) (v := .int (nI (gN g0))) (C := RX5) (T := TX5) (N := 42) hx hb hts inX5 hown hK hP 0 rfl rfl 1 (by decide) kl105 (fun _ h9 => h9) rfl dX5_card_66 ?_
      refine lv_iconst (v := (-1)) hx hb dX5_card_69 (by decide) ?_
      refine x_iast (i := gN g0) hx hb hK hP hD hS 12 rfl (by first | omega | assumption) (by omega) dX5_card_70 (fun H locs hP hD hS => ?_)
      have hP : va_P (xD G) vwCl [oModel mA ma (nI (gK g0)) (nI (gN g0)) (gLp g0) (gOp g0) (gRp g0) (gRa g0) (nI (mK (gZ g0))) (mE (gZ g0)) (mM (gZ g0)) (mV (gZ g0)) (nI (mH (gZ g0))) (gFr g0) (gBu g0) (gBs g0), xI G (ma 2) 4 (gLl g0), xI G (ma 3) 4 (gLn g0), xI G (ma 4) 4 (gLh g0), xI G (ma 6) 4 (gOl g0), xI G (ma 7) 4 (gOn g0), xI G (ma 8) 4 (gOh g0), xI G (ma 10) 16 (upd (gDay g0) (gN g0) v), xZ G (ma 11) 16 (upd (gUrg g0) (gN g0) (b2 (u = true))), xI G (ma 12) 64 (gSzs g0), xI G (ma 13) 16 (upd (gWai g0) (gN g0) (-1)), xI G (ma 14) 16 (upd (gFro g0) (gN g0) (-1)), xI G (ma 15) 16 (upd (gBto g0) (gN g0) (-1)), xI G (ma 16) 4 (gRl g0), xI G (ma 17) 4 (gRn g0), xI G (ma 18) 4 (gRh g0), xI G (ma 21) 16 (mP (gZ g0)), xI G (ma 22) 16 (mL (gZ g0)), xZ G (ma 23) 16 (mT (gZ g0)), xI G (ma 24) 16 (mN (gZ g0)), xI G (ma 25) 16 (mX (gZ g0)), xZ G (ma 26) 16 (mB (gZ g0)), xI G (ma 27) 16 (mD (gZ g0)), xZ G (ma 28) 16 (mW (gZ g0)), xI G (ma 29) 16 (mR (gZ g0)), xI G (ma 30) 80 (mS (gZ g0)), xI G (ma 36) 16 (gHp g0), xI G (ma 37) 16 (gHq g0), xI G (ma 41) 4 (gBo g0)] H := hP
      have hD : va_D A [oModel mA ma (nI (gK g0)) (nI (gN g0)) (gLp g0) (gOp g0) (gRp g0) (gRa g0) (nI (mK (gZ g0))) (mE (gZ g0)) (mM (gZ g0)) (mV (gZ g0)) (nI (mH (gZ g0))) (gFr g0) (gBu g0) (gBs g0), xI G (ma 2) 4 (gLl g0), xI G (ma 3) 4 (gLn g0), xI G (ma 4) 4 (gLh g0), xI G (ma 6) 4 (gOl g0), xI G (ma 7) 4 (gOn g0), xI G (ma 8) 4 (gOh g0), xI G (ma 10) 16 (upd (gDay g0) (gN g0) v), xZ G (ma 11) 16 (upd (gUrg g0) (gN g0) (b2 (u = true))), xI G (ma 12) 64 (gSzs g0), xI G (ma 13) 16 (upd (gWai g0) (gN g0) (-1)), xI G (ma 14) 16 (upd (gFro g0) (gN g0) (-1)), xI G (ma 15) 16 (upd (gBto g0) (gN g0) (-1)), xI G (ma 16) 4 (gRl g0), xI G (ma 17) 4 (gRn g0), xI G (ma 18) 4 (gRh g0), xI G (ma 21) 16 (mP (gZ g0)), xI G (ma 22) 16 (mL (gZ g0)), xZ G (ma 23) 16 (mT (gZ g0)), xI G (ma 24) 16 (mN (gZ g0)), xI G (ma 25) 16 (mX (gZ g0)), xZ G (ma 26) 16 (mB (gZ g0)), xI G (ma 27) 16 (mD (gZ g0)), xZ G (ma 28) 16 (mW (gZ g0)), xI G (ma 29) 16 (mR (gZ g0)), xI G (ma 30) 80 (mS (gZ g0)), xI G (ma 36) 16 (gHp g0), xI G (ma 37) 16 (gHq g0), xI G (ma 41) 4 (gBo g0)] := hD
      refine lv_iconst (v := 0) hx hb dX5_card_71 (by decide) ?_
      refine lv_istore_n (lv' := [(3, .int 0), (0, .ref mA), (1, .int v), (2, .int (b2 (u = true)))]) hx hb dX5_card_72 rfl hl (by decide) rfl (fun ls hl => ?_)
      have L73 : ∀ (kk73 i : Nat) (z5 : XF), i ≤ 4 → 4 + 1 ≤ i + kk73 → (z5 = sz5 (gSzs g0) (gN g0) i) → ∀ (H : Heap) (locs : List Loc), va_P (xD G) vwCl [oModel mA ma (nI (gK g0)) (nI (gN g0)) (gLp g0) (gOp g0) (gRp g0) (gRa g0) (nI (mK (gZ g0))) (mE (gZ g0)) (mM (gZ g0)) (mV (gZ g0)) (nI (mH (gZ g0))) (gFr g0) (gBu g0) (gBs g0), xI G (ma 2) 4 (gLl g0), xI G (ma 3) 4 (gLn g0), xI G (ma 4) 4 (gLh g0), xI G (ma 6) 4 (gOl g0), xI G (ma 7) 4 (gOn g0), xI G (ma 8) 4 (gOh g0), xI G (ma 10) 16 (upd (gDay g0) (gN g0) v), xZ G (ma 11) 16 (upd (gUrg g0) (gN g0) (b2 (u = true))), xI G (ma 12) 64 z5, xI G (ma 13) 16 (upd (gWai g0) (gN g0) (-1)), xI G (ma 14) 16 (upd (gFro g0) (gN g0) (-1)), xI G (ma 15) 16 (upd (gBto g0) (gN g0) (-1)), xI G (ma 16) 4 (gRl g0), xI G (ma 17) 4 (gRn g0), xI G (ma 18) 4 (gRh g0), xI G (ma 21) 16 (mP (gZ g0)), xI G (ma 22) 16 (mL (gZ g0)), xZ G (ma 23) 16 (mT (gZ g0)), xI G (ma 24) 16 (mN (gZ g0)), xI G (ma 25) 16 (mX (gZ g0)), xZ G (ma 26) 16 (mB (gZ g0)), xI G (ma 27) 16 (mD (gZ g0)), xZ G (ma 28) 16 (mW (gZ g0)), xI G (ma 29) 16 (mR (gZ g0)), xI G (ma 30) 80 (mS (gZ g0)), xI G (ma 36) 16 (gHp g0), xI G (ma 37) 16 (gHq g0), xI G (ma 41) 4 (gBo g0)] H → va_D A [oModel mA ma (nI (gK g0)) (nI (gN g0)) (gLp g0) (gOp g0) (gRp g0) (gRa g0) (nI (mK (gZ g0))) (mE (gZ g0)) (mM (gZ g0)) (mV (gZ g0)) (nI (mH (gZ g0))) (gFr g0) (gBu g0) (gBs g0), xI G (ma 2) 4 (gLl g0), xI G (ma 3) 4 (gLn g0), xI G (ma 4) 4 (gLh g0), xI G (ma 6) 4 (gOl g0), xI G (ma 7) 4 (gOn g0), xI G (ma 8) 4 (gOh g0), xI G (ma 10) 16 (upd (gDay g0) (gN g0) v), xZ G (ma 11) 16 (upd (gUrg g0) (gN g0) (b2 (u = true))), xI G (ma 12) 64 z5, xI G (ma 13) 16 (upd (gWai g0) (gN g0) (-1)), xI G (ma 14) 16 (upd (gFro g0) (gN g0) (-1)), xI G (ma 15) 16 (upd (gBto g0) (gN g0) (-1)), xI G (ma 16) 4 (gRl g0), xI G (ma 17) 4 (gRn g0), xI G (ma 18) 4 (gRh g0), xI G (ma 21) 16 (mP (gZ g0)), xI G (ma 22) 16 (mL (gZ g0)), xZ G (ma 23) 16 (mT (gZ g0)), xI G (ma 24) 16 (mN (gZ g0)), xI G (ma 25) 16 (mX (gZ g0)), xZ G (ma 26) 16 (mB (gZ g0)), xI G (ma 27) 16 (mD (gZ g0)), xZ G (ma 28) 16 (mW (gZ g0)), xI G (ma 29) 16 (mR (gZ g0)), xI G (ma 30) 80 (mS (gZ g0)), xI G (ma 36) 16 (gHp g0), xI G (ma 37) 16 (gHq g0), xI G (ma 41) 4 (gBo g0)] → va_S A s.heap H locs → ∀ (ls : Array Slot), lv_has ls 4 [(3, .int (nI i)), (0, .ref mA), (1, .int v), (2, .int (b2 (u = true)))] → W p l e ({ frames := 1, cells := 0, slots := 0, locals := 22 } : Room) s m #[Value.ref mA, Value.int v, Value.int (b2 (u = true))] below meth cO H locs 0 0 Q (F0 m 73 ls []) := by
        intro kk73
        induction kk73 with
        | zero => intro i z5 h1 h2; exact absurd h2 (by omega)
        | succ kk73 ih73 =>
          intro i z5 hi73 hk73 ez H locs hP hD hS ls hl
          refine lv_iload_n hx hb dX5_card_73 rfl (lv_at hl 0 rfl) ?_
          refine lv_iconst (v := 4) hx hb dX5_card_74 (by decide) ?_
          refine x_icmp_ge (x := i) (y := 4) (tgt := 98) hx hb (by omega) (by omega) dX5_card_75 (by decide) (fun c75 => ?_) (fun c75 => ?_)
          · skip
            have e_4 : i = 4 := by omega
            rw [e_4] at ez
            subst ez
            refine lv_aload_n hx hb dX5_card_98 rfl (lv_at hl 1 rfl) ?_
            refine lv_dup hx hb dX5_card_99 rfl ?_
            refine va_get (D := xD G) (ci := 5) (v := .int (nI (gN g0))) (C := RX5) (T := TX5) (N := 42) hx hb hts inX5 hown hK hP 0 rfl rfl 1 (by decide) kl105 (fun _ h9 => h9) rfl dX5_card_100 ?_
            refine lv_iconst (v := 1) hx hb dX5_card_103 (by decide) ?_
            refine lv_iadd hx hb dX5_card_104 ?_
            refine x_top (y := nI ((gN g0) + 1)) (nI_add (gN g0) 1) ?_
            refine va_put (D := xD G) (ci := 5) (v := .int (nI ((gN g0) + 1))) (ty := .int) (C := RX5) (T := TX5) (N := 42) hx hb hts inX5 tyX5 tyX5_ok nmX5 hown hK hP hD hS 0 rfl rfl 1 (by decide) kl105 (fun _ h9 => h9) rfl (by decide +kernel) rfl rfl (Nat.le_of_ble_eq_true rfl) dX5_card_105 (fun H locs hP hD hS => ?_)
            have hP : va_P (xD G) vwCl [oModel mA ma (nI (gK g0)) (nI ((gN g0) + 1)) (gLp g0) (gOp g0) (gRp g0) (gRa g0) (nI (mK (gZ g0))) (mE (gZ g0)) (mM (gZ g0)) (mV (gZ g0)) (nI (mH (gZ g0))) (gFr g0) (gBu g0) (gBs g0), xI G (ma 2) 4 (gLl g0), xI G (ma 3) 4 (gLn g0), xI G (ma 4) 4 (gLh g0), xI G (ma 6) 4 (gOl g0), xI G (ma 7) 4 (gOn g0), xI G (ma 8) 4 (gOh g0), xI G (ma 10) 16 (upd (gDay g0) (gN g0) v), xZ G (ma 11) 16 (upd (gUrg g0) (gN g0) (b2 (u = true))), xI G (ma 12) 64 (sz5 (gSzs g0) (gN g0) 4), xI G (ma 13) 16 (upd (gWai g0) (gN g0) (-1)), xI G (ma 14) 16 (upd (gFro g0) (gN g0) (-1)), xI G (ma 15) 16 (upd (gBto g0) (gN g0) (-1)), xI G (ma 16) 4 (gRl g0), xI G (ma 17) 4 (gRn g0), xI G (ma 18) 4 (gRh g0), xI G (ma 21) 16 (mP (gZ g0)), xI G (ma 22) 16 (mL (gZ g0)), xZ G (ma 23) 16 (mT (gZ g0)), xI G (ma 24) 16 (mN (gZ g0)), xI G (ma 25) 16 (mX (gZ g0)), xZ G (ma 26) 16 (mB (gZ g0)), xI G (ma 27) 16 (mD (gZ g0)), xZ G (ma 28) 16 (mW (gZ g0)), xI G (ma 29) 16 (mR (gZ g0)), xI G (ma 30) 80 (mS (gZ g0)), xI G (ma 36) 16 (gHp g0), xI G (ma 37) 16 (gHq g0), xI G (ma 41) 4 (gBo g0)] H := hP
            have hD : va_D A [oModel mA ma (nI (gK g0)) (nI ((gN g0) + 1)) (gLp g0) (gOp g0) (gRp g0) (gRa g0) (nI (mK (gZ g0))) (mE (gZ g0)) (mM (gZ g0)) (mV (gZ g0)) (nI (mH (gZ g0))) (gFr g0) (gBu g0) (gBs g0), xI G (ma 2) 4 (gLl g0), xI G (ma 3) 4 (gLn g0), xI G (ma 4) 4 (gLh g0), xI G (ma 6) 4 (gOl g0), xI G (ma 7) 4 (gOn g0), xI G (ma 8) 4 (gOh g0), xI G (ma 10) 16 (upd (gDay g0) (gN g0) v), xZ G (ma 11) 16 (upd (gUrg g0) (gN g0) (b2 (u = true))), xI G (ma 12) 64 (sz5 (gSzs g0) (gN g0) 4), xI G (ma 13) 16 (upd (gWai g0) (gN g0) (-1)), xI G (ma 14) 16 (upd (gFro g0) (gN g0) (-1)), xI G (ma 15) 16 (upd (gBto g0) (gN g0) (-1)), xI G (ma 16) 4 (gRl g0), xI G (ma 17) 4 (gRn g0), xI G (ma 18) 4 (gRh g0), xI G (ma 21) 16 (mP (gZ g0)), xI G (ma 22) 16 (mL (gZ g0)), xZ G (ma 23) 16 (mT (gZ g0)), xI G (ma 24) 16 (mN (gZ g0)), xI G (ma 25) 16 (mX (gZ g0)), xZ G (ma 26) 16 (mB (gZ g0)), xI G (ma 27) 16 (mD (gZ g0)), xZ G (ma 28) 16 (mW (gZ g0)), xI G (ma 29) 16 (mR (gZ g0)), xI G (ma 30) 80 (mS (gZ g0)), xI G (ma 36) 16 (gHp g0), xI G (ma 37) 16 (gHq g0), xI G (ma 41) 4 (gBo g0)] := hD
            refine lv_aload_n hx hb dX5_card_108 rfl (lv_at hl 1 rfl) ?_
            refine lv_iconst (v := 0) hx hb dX5_card_109 (by decide) ?_
            refine va_put (D := xD G) (ci := 5) (v := .int 0) (ty := .boolean) (C := RX5) (T := TX5) (N := 42) hx hb hts inX5 tyX5 tyX5_ok nmX5 hown hK hP hD hS 0 rfl rfl 38 (by decide) kl116 (fun _ h9 => h9) rfl (by decide +kernel) rfl rfl (Nat.le_of_ble_eq_true rfl) dX5_card_110 (fun H locs hP hD hS => ?_)
            have hP : va_P (xD G) vwCl [oModel mA ma (nI (gK g0)) (nI ((gN g0) + 1)) (gLp g0) (gOp g0) (gRp g0) (gRa g0) (nI (mK (gZ g0))) (mE (gZ g0)) (mM (gZ g0)) (mV (gZ g0)) (nI (mH (gZ g0))) 0 (gBu g0) (gBs g0), xI G (ma 2) 4 (gLl g0), xI G (ma 3) 4 (gLn g0), xI G (ma 4) 4 (gLh g0), xI G (ma 6) 4 (gOl g0), xI G (ma 7) 4 (gOn g0), xI G (ma 8) 4 (gOh g0), xI G (ma 10) 16 (upd (gDay g0) (gN g0) v), xZ G (ma 11) 16 (upd (gUrg g0) (gN g0) (b2 (u = true))), xI G (ma 12) 64 (sz5 (gSzs g0) (gN g0) 4), xI G (ma 13) 16 (upd (gWai g0) (gN g0) (-1)), xI G (ma 14) 16 (upd (gFro g0) (gN g0) (-1)), xI G (ma 15) 16 (upd (gBto g0) (gN g0) (-1)), xI G (ma 16) 4 (gRl g0), xI G (ma 17) 4 (gRn g0), xI G (ma 18) 4 (gRh g0), xI G (ma 21) 16 (mP (gZ g0)), xI G (ma 22) 16 (mL (gZ g0)), xZ G (ma 23) 16 (mT (gZ g0)), xI G (ma 24) 16 (mN (gZ g0)), xI G (ma 25) 16 (mX (gZ g0)), xZ G (ma 26) 16 (mB (gZ g0)), xI G (ma 27) 16 (mD (gZ g0)), xZ G (ma 28) 16 (mW (gZ g0)), xI G (ma 29) 16 (mR (gZ g0)), xI G (ma 30) 80 (mS (gZ g0)), xI G (ma 36) 16 (gHp g0), xI G (ma 37) 16 (gHq g0), xI G (ma 41) 4 (gBo g0)] H := hP
            have hD : va_D A [oModel mA ma (nI (gK g0)) (nI ((gN g0) + 1)) (gLp g0) (gOp g0) (gRp g0) (gRa g0) (nI (mK (gZ g0))) (mE (gZ g0)) (mM (gZ g0)) (mV (gZ g0)) (nI (mH (gZ g0))) 0 (gBu g0) (gBs g0), xI G (ma 2) 4 (gLl g0), xI G (ma 3) 4 (gLn g0), xI G (ma 4) 4 (gLh g0), xI G (ma 6) 4 (gOl g0), xI G (ma 7) 4 (gOn g0), xI G (ma 8) 4 (gOh g0), xI G (ma 10) 16 (upd (gDay g0) (gN g0) v), xZ G (ma 11) 16 (upd (gUrg g0) (gN g0) (b2 (u = true))), xI G (ma 12) 64 (sz5 (gSzs g0) (gN g0) 4), xI G (ma 13) 16 (upd (gWai g0) (gN g0) (-1)), xI G (ma 14) 16 (upd (gFro g0) (gN g0) (-1)), xI G (ma 15) 16 (upd (gBto g0) (gN g0) (-1)), xI G (ma 16) 4 (gRl g0), xI G (ma 17) 4 (gRn g0), xI G (ma 18) 4 (gRh g0), xI G (ma 21) 16 (mP (gZ g0)), xI G (ma 22) 16 (mL (gZ g0)), xZ G (ma 23) 16 (mT (gZ g0)), xI G (ma 24) 16 (mN (gZ g0)), xI G (ma 25) 16 (mX (gZ g0)), xZ G (ma 26) 16 (mB (gZ g0)), xI G (ma 27) 16 (mD (gZ g0)), xZ G (ma 28) 16 (mW (gZ g0)), xI G (ma 29) 16 (mR (gZ g0)), xI G (ma 30) 80 (mS (gZ g0)), xI G (ma 36) 16 (gHp g0), xI G (ma 37) 16 (gHq g0), xI G (ma 41) 4 (gBo g0)] := hD
            refine lv_aload_n hx hb dX5_card_113 rfl (lv_at hl 1 rfl) ?_
            refine va_get (D := xD G) (ci := 5) (v := .int (nI ((gN g0) + 1))) (C := RX5) (T := TX5) (N := 42) hx hb hts inX5 hown hK hP 0 rfl rfl 1 (by decide) kl105 (fun _ h9 => h9) rfl dX5_card_114 ?_
            refine lv_iconst (v := 1) hx hb dX5_card_117 (by decide) ?_
            refine lv_isub hx hb dX5_card_118 ?_
            refine x_top (y := nI (gN g0)) (nI_pred (gN g0)) ?_
            have eF : madF v u g0 = madT v u g0 := if_pos hv
            rw [eF] at hq
            exact hq (nI (gN g0)) H locs 119 ls dX5_card_119 rfl ((if_pos hv).symm) (by skip; exact hP) (by skip; exact hD) hS
          · skip
            refine lv_aload_n hx hb dX5_card_78 rfl (lv_at hl 1 rfl) ?_
            refine va_get (D := xD G) (ci := 5) (v := .ref (ma 12)) (C := RX5) (T := TX5) (N := 42) hx hb hts inX5 hown hK hP 0 rfl rfl 12 (by decide) kl45 (fun _ h9 => h9) rfl dX5_card_79 ?_
            refine lv_iconst (v := 4) hx hb dX5_card_82 (by decide) ?_
            refine lv_aload_n hx hb dX5_card_83 rfl (lv_at hl 1 rfl) ?_
            refine va_get (D := xD G) (ci := 5) (v := .int (nI (gN g0))) (C := RX5) (T := TX5) (N := 42) hx hb hts inX5 hown hK hP 0 rfl rfl 1 (by decide) kl105 (fun _ h9 => h9) rfl dX5_card_84 ?_
            refine lv_imul hx hb dX5_card_87 ?_
            refine x_top (y := nI (4 * (gN g0))) (pk_mul 4 (gN g0)) ?_
            refine lv_iload_n hx hb dX5_card_88 rfl (lv_at hl 0 rfl) ?_
            refine lv_iadd hx hb dX5_card_89 ?_
            refine x_top (y := nI ((4 * (gN g0)) + i)) (nI_add (4 * (gN g0)) i) ?_
            refine lv_iconst (v := 1) hx hb dX5_card_90 (by decide) ?_
            refine x_iast (i := (4 * (gN g0)) + i) hx hb hK hP hD hS 9 rfl (by first | omega | assumption) (by omega) dX5_card_91 (fun H locs hP hD hS => ?_)
            have hP : va_P (xD G) vwCl [oModel mA ma (nI (gK g0)) (nI (gN g0)) (gLp g0) (gOp g0) (gRp g0) (gRa g0) (nI (mK (gZ g0))) (mE (gZ g0)) (mM (gZ g0)) (mV (gZ g0)) (nI (mH (gZ g0))) (gFr g0) (gBu g0) (gBs g0), xI G (ma 2) 4 (gLl g0), xI G (ma 3) 4 (gLn g0), xI G (ma 4) 4 (gLh g0), xI G (ma 6) 4 (gOl g0), xI G (ma 7) 4 (gOn g0), xI G (ma 8) 4 (gOh g0), xI G (ma 10) 16 (upd (gDay g0) (gN g0) v), xZ G (ma 11) 16 (upd (gUrg g0) (gN g0) (b2 (u = true))), xI G (ma 12) 64 (upd z5 ((4 * (gN g0)) + i) 1), xI G (ma 13) 16 (upd (gWai g0) (gN g0) (-1)), xI G (ma 14) 16 (upd (gFro g0) (gN g0) (-1)), xI G (ma 15) 16 (upd (gBto g0) (gN g0) (-1)), xI G (ma 16) 4 (gRl g0), xI G (ma 17) 4 (gRn g0), xI G (ma 18) 4 (gRh g0), xI G (ma 21) 16 (mP (gZ g0)), xI G (ma 22) 16 (mL (gZ g0)), xZ G (ma 23) 16 (mT (gZ g0)), xI G (ma 24) 16 (mN (gZ g0)), xI G (ma 25) 16 (mX (gZ g0)), xZ G (ma 26) 16 (mB (gZ g0)), xI G (ma 27) 16 (mD (gZ g0)), xZ G (ma 28) 16 (mW (gZ g0)), xI G (ma 29) 16 (mR (gZ g0)), xI G (ma 30) 80 (mS (gZ g0)), xI G (ma 36) 16 (gHp g0), xI G (ma 37) 16 (gHq g0), xI G (ma 41) 4 (gBo g0)] H := hP
            have hD : va_D A [oModel mA ma (nI (gK g0)) (nI (gN g0)) (gLp g0) (gOp g0) (gRp g0) (gRa g0) (nI (mK (gZ g0))) (mE (gZ g0)) (mM (gZ g0)) (mV (gZ g0)) (nI (mH (gZ g0))) (gFr g0) (gBu g0) (gBs g0), xI G (ma 2) 4 (gLl g0), xI G (ma 3) 4 (gLn g0), xI G (ma 4) 4 (gLh g0), xI G (ma 6) 4 (gOl g0), xI G (ma 7) 4 (gOn g0), xI G (ma 8) 4 (gOh g0), xI G (ma 10) 16 (upd (gDay g0) (gN g0) v), xZ G (ma 11) 16 (upd (gUrg g0) (gN g0) (b2 (u = true))), xI G (ma 12) 64 (upd z5 ((4 * (gN g0)) + i) 1), xI G (ma 13) 16 (upd (gWai g0) (gN g0) (-1)), xI G (ma 14) 16 (upd (gFro g0) (gN g0) (-1)), xI G (ma 15) 16 (upd (gBto g0) (gN g0) (-1)), xI G (ma 16) 4 (gRl g0), xI G (ma 17) 4 (gRn g0), xI G (ma 18) 4 (gRh g0), xI G (ma 21) 16 (mP (gZ g0)), xI G (ma 22) 16 (mL (gZ g0)), xZ G (ma 23) 16 (mT (gZ g0)), xI G (ma 24) 16 (mN (gZ g0)), xI G (ma 25) 16 (mX (gZ g0)), xZ G (ma 26) 16 (mB (gZ g0)), xI G (ma 27) 16 (mD (gZ g0)), xZ G (ma 28) 16 (mW (gZ g0)), xI G (ma 29) 16 (mR (gZ g0)), xI G (ma 30) 80 (mS (gZ g0)), xI G (ma 36) 16 (gHp g0), xI G (ma 37) 16 (gHq g0), xI G (ma 41) 4 (gBo g0)] := hD
            refine lv_iinc (v := nI (i + 1)) (lv' := [(3, .int (nI (i + 1))), (0, .ref mA), (1, .int v), (2, .int (b2 (u = true)))]) hx hb dX5_card_92 hl (k := 0) rfl (by exact nI_add i 1) (by decide) rfl (fun ls hl => ?_)
            refine lv_goto (tgt := 73) hx hb dX5_card_95 (by decide) ?_
            exact ih73 (i + 1) (upd z5 ((4 * (gN g0)) + i) 1) (by omega) (by omega) (by rw [ez]; rfl) H locs hP hD hS ls (lv_sub hl [0, 1, 2, 3] rfl)
      exact L73 (4 + 1) 0 (gSzs g0) (by omega) (by omega) (rfl) H locs hP hD hS ls (lv_sub hl [0, 1, 2, 3] rfl)
    · skip
      refine lv_iconst (v := (-1)) hx hb dX5_card_19 (by decide) ?_
      have eF : madF v u g0 = g0 := if_neg (fun h => h.2 c16)
      rw [eF] at hq
      exact hq (-1) H locs 20 ls dX5_card_20 rfl ((if_neg (fun h => h.2 c16)).symm) (by skip; exact hP) (by skip; exact hD) hS
set_option maxHeartbeats 4000000 in
set_option maxRecDepth 100000 in
theorem mX5_about (l : Launch) (G : xG) (mA : Nat) (ma : Nat → Nat) (cols : Int32) (cn : Int32) (pac : Int32) (opac : Int32) (rpac : Int32) (alike : Int32) (pulls : Int32) (len : Int32) (lmv : Int32) (mov : Int32) (ther : Int32) (fresh : Int32) (bup : Int32) (bsum : Int32) (what : Int32)   : xR l yX5_about wsX5_about ({ frames := 1, cells := 0, slots := 0, locals := 21 } : Room) [.ref mA, .int what] G [oModel mA ma cols cn pac opac rpac alike pulls len lmv mov ther fresh bup bsum] (fun r => r = if what = 0 then cols else if what = 1 then cn else if what = 2 then pac else if what = 3 then toR opac pac else -1) := by
  refine xR_of (cc := cX5_about) (maxL := 2) (ty := .int) (by decide) rfl (Nat.le_of_ble_eq_true rfl) ?_
  intro p e s m below meth cO ls Q hx hb hml hown hts hP hK hD hl hq
  have hown : s.vm.findClass RX5 = some m.cls := hown
  have kl7 := hts (.fieldLink RX5 7 "WorkBoardModel" "columns" "I") (List.mem_of_getElem? (i := 1) rfl)
  have kl105 := hts (.fieldLink RX5 105 "WorkBoardModel" "cards" "I") (List.mem_of_getElem? (i := 2) rfl)
  have kl23 := hts (.fieldLink RX5 23 "WorkBoardModel" "pace" "I") (List.mem_of_getElem? (i := 3) rfl)
  have kl35 := hts (.fieldLink RX5 35 "WorkBoardModel" "otherPace" "I") (List.mem_of_getElem? (i := 4) rfl)
  have inX5 : ∀ w ∈ u_ws RX5 TX5 42, w ∈ wsX5_about := (fun w h => List.mem_cons_of_mem _ (List.mem_append_right _ h))
  have hl : lv_has ls 2 [(0, .ref mA), (1, .int what)] := hl
  have hP : va_P (xD G) vwCl [oModel mA ma cols cn pac opac rpac alike pulls len lmv mov ther fresh bup bsum] s.heap := hP
  refine lv_iload_n hx hb dX5_about_0 rfl (lv_at hl 1 rfl) ?_
  by_cases w1_0 : what = 0
  · skip
    refine lv_tableIn (off := 31) (tgt := 32) hx hb dX5_about_1 (by rw [w1_0]; decide) (by rw [w1_0]; decide) (by rw [w1_0]; rfl) (by decide) ?_
    refine lv_aload_n hx hb dX5_about_32 rfl (lv_at hl 0 rfl) ?_
    refine va_get (D := xD G) (ci := 5) (v := .int cols) (C := RX5) (T := TX5) (N := 42) hx hb hts inX5 hown hK hP 0 rfl rfl 0 (by decide) kl7 (fun _ h9 => h9) rfl dX5_about_33 ?_
    exact hq cols 36 ls dX5_about_36 rfl ((if_pos w1_0).symm)
  by_cases w1_1 : what = 1
  · skip
    refine lv_tableIn (off := 36) (tgt := 37) hx hb dX5_about_1 (by rw [w1_1]; decide) (by rw [w1_1]; decide) (by rw [w1_1]; rfl) (by decide) ?_
    refine lv_aload_n hx hb dX5_about_37 rfl (lv_at hl 0 rfl) ?_
    refine va_get (D := xD G) (ci := 5) (v := .int cn) (C := RX5) (T := TX5) (N := 42) hx hb hts inX5 hown hK hP 0 rfl rfl 1 (by decide) kl105 (fun _ h9 => h9) rfl dX5_about_38 ?_
    exact hq cn 41 ls dX5_about_41 rfl (((if_neg w1_0).trans (if_pos w1_1)).symm)
  by_cases w1_2 : what = 2
  · skip
    refine lv_tableIn (off := 41) (tgt := 42) hx hb dX5_about_1 (by rw [w1_2]; decide) (by rw [w1_2]; decide) (by rw [w1_2]; rfl) (by decide) ?_
    refine lv_aload_n hx hb dX5_about_42 rfl (lv_at hl 0 rfl) ?_
    refine va_get (D := xD G) (ci := 5) (v := .int pac) (C := RX5) (T := TX5) (N := 42) hx hb hts inX5 hown hK hP 0 rfl rfl 5 (by decide) kl23 (fun _ h9 => h9) rfl dX5_about_43 ?_
    exact hq pac 46 ls dX5_about_46 rfl (((if_neg w1_0).trans ((if_neg w1_1).trans (if_pos w1_2))).symm)
  by_cases w1_3 : what = 3
  · skip
    refine lv_tableIn (off := 46) (tgt := 47) hx hb dX5_about_1 (by rw [w1_3]; decide) (by rw [w1_3]; decide) (by rw [w1_3]; rfl) (by decide) ?_
    refine lv_aload_n hx hb dX5_about_47 rfl (lv_at hl 0 rfl) ?_
    refine va_get (D := xD G) (ci := 5) (v := .int opac) (C := RX5) (T := TX5) (N := 42) hx hb hts inX5 hown hK hP 0 rfl rfl 9 (by decide) kl35 (fun _ h9 => h9) rfl dX5_about_48 ?_
    refine lv_aload_n hx hb dX5_about_51 rfl (lv_at hl 0 rfl) ?_
    refine va_get (D := xD G) (ci := 5) (v := .int pac) (C := RX5) (T := TX5) (N := 42) hx hb hts inX5 hown hK hP 0 rfl rfl 5 (by decide) kl23 (fun _ h9 => h9) rfl dX5_about_52 ?_
    refine x_callS (As := [.int opac, .int pac]) (rest := []) ⟨hx, hb, hml, hown, hts⟩ (mX5_first l G opac pac ) (va_cwS 2 hts gX5_about_X5_first rfl rfl rfl (by decide +kernel) ⟨Nat.le_of_ble_eq_true rfl, Nat.le_of_ble_eq_true rfl⟩) hK rfl hl.1 rfl (Nat.le_of_ble_eq_true rfl) dX5_about_55 ⟨Nat.zero_le _, Nat.zero_le _⟩ (fun r hr => ?_)
    subst hr
    exact hq (toR opac pac) 58 ls dX5_about_58 rfl (((if_neg w1_0).trans ((if_neg w1_1).trans ((if_neg w1_2).trans (if_pos w1_3)))).symm)
  refine lv_tableOut (tgt := 59) hx hb dX5_about_1 (by have := lv_neT w1_0 (a := 0) rfl; have := lv_neT w1_1 (a := 1) rfl; have := lv_neT w1_2 (a := 2) rfl; have := lv_neT w1_3 (a := 3) rfl; omega) (by decide) ?_
  refine lv_iconst (v := (-1)) hx hb dX5_about_59 (by decide) ?_
  exact hq (-1) 60 ls dX5_about_60 rfl (((if_neg w1_0).trans ((if_neg w1_1).trans ((if_neg w1_2).trans ((if_neg w1_3).trans (rfl))))).symm)
