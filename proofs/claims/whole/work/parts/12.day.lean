/-! Run: a day -/
set_option maxHeartbeats 4000000 in
set_option maxRecDepth 100000 in
theorem mX2_noteLastPulled (l : Launch) (G : xG) (rA : Nat) (cA : Nat) (uA : Nat) (ra : Nat → Nat) (nob : Int32) (pn : Nat) (day : Int32) (last : Int32) (act : Int32) (rst : Int32) (pul : Nat → Int32) (c : Nat)  (hp : pn ≤ 16) (hc : c < 16) : xM l yX2_noteLastPulled wsX2_noteLastPulled ({ frames := 0, cells := 0, slots := 0, locals := 0 } : Room) [.ref rA, .int (nI c)] G [oRun rA cA uA ra nob (nI pn) day last act rst, xI G (ra 9) 16 pul] [oRun rA cA uA ra nob (nI (nl2 pul c pn)) day last act rst, xI G (ra 9) 16 (nl1 pul c pn)] := by
  refine xM_of (cc := cX2_noteLastPulled) (maxL := 4) (by decide) rfl (Nat.le_of_ble_eq_true rfl) ?_
  intro p e s m below meth cO ls Q A hx hb hml hown hts hP hK hD hS hA hl hq
  have hown : s.vm.findClass RX2 = some m.cls := hown
  have kl58 := hts (.fieldLink RX2 58 "WorkBoard$Run" "pulledCount" "I") (List.mem_of_getElem? (i := 1) rfl)
  have kl31 := hts (.fieldLink RX2 31 "WorkBoard$Run" "pulled" "[I") (List.mem_of_getElem? (i := 2) rfl)
  have inX2 : ∀ w ∈ u_ws RX2 TX2 17, w ∈ wsX2_noteLastPulled := (fun w h => List.mem_cons_of_mem _ (List.mem_append_right _ h))
  have hl : lv_has ls 4 [(0, .ref rA), (1, .int (nI c))] := hl
  have hD : va_D A [oRun rA cA uA ra nob (nI pn) day last act rst, xI G (ra 9) 16 pul] := hD
  obtain ⟨H, hH⟩ : ∃ z, z = s.heap := ⟨_, rfl⟩
  obtain ⟨locs, hlocs⟩ : ∃ z : List Loc, z = [] := ⟨_, rfl⟩
  have hS : va_S A s.heap H locs := by rw [hH, hlocs]; exact hS
  have hP : va_P (xD G) vwCl [oRun rA cA uA ra nob (nI pn) day last act rst, xI G (ra 9) 16 pul] H := by rw [hH]; exact hP
  rw [← hH, ← hlocs]
  clear hH hlocs
  refine lv_iconst (v := 0) hx hb dX2_noteLastPulled_0 (by decide) ?_
  refine lv_istore_n (lv' := [(2, .int 0), (0, .ref rA), (1, .int (nI c))]) hx hb dX2_noteLastPulled_1 rfl hl (by decide) rfl (fun ls hl => ?_)
  refine lv_iconst (v := 0) hx hb dX2_noteLastPulled_2 (by decide) ?_
  refine lv_istore_n (lv' := [(3, .int 0), (2, .int 0), (0, .ref rA), (1, .int (nI c))]) hx hb dX2_noteLastPulled_3 rfl hl (by decide) rfl (fun ls hl => ?_)
  have L4 : ∀ (kk4 i : Nat) (f1 : XF) (x : Nat), i ≤ pn → pn + 1 ≤ i + kk4 → (f1 = (nlF pul c i).1) → (x = (nlF pul c i).2) → ∀ (H : Heap) (locs : List Loc), va_P (xD G) vwCl [oRun rA cA uA ra nob (nI pn) day last act rst, xI G (ra 9) 16 f1] H → va_D A [oRun rA cA uA ra nob (nI pn) day last act rst, xI G (ra 9) 16 f1] → va_S A s.heap H locs → ∀ (ls : Array Slot), lv_has ls 4 [(3, .int (nI i)), (2, .int (nI x)), (0, .ref rA), (1, .int (nI c))] → W p l e ({ frames := 0, cells := 0, slots := 0, locals := 0 } : Room) s m #[Value.ref rA, Value.int (nI c)] below meth cO H locs 0 0 Q (F0 m 4 ls []) := by
    intro kk4
    induction kk4 with
    | zero => intro i f1 x h1 h2; exact absurd h2 (by omega)
    | succ kk4 ih4 =>
      intro i f1 x hi4 hk4 e1 e2 H locs hP hD hS ls hl
      have hcl := nlF_le pul c i
      refine lv_iload_n hx hb dX2_noteLastPulled_4 rfl (lv_at hl 0 rfl) ?_
      refine lv_aload_n hx hb dX2_noteLastPulled_5 rfl (lv_at hl 2 rfl) ?_
      refine va_get (D := xD G) (ci := 2) (v := .int (nI pn)) (C := RX2) (T := TX2) (N := 17) hx hb hts inX2 hown hK hP 0 rfl rfl 10 (by decide) kl58 (fun _ h9 => h9) rfl dX2_noteLastPulled_6 ?_
      refine x_icmp_ge (x := i) (y := pn) (tgt := 43) hx hb (by omega) (by omega) dX2_noteLastPulled_9 (by decide) (fun c9 => ?_) (fun c9 => ?_)
      · skip
        have e_2 : i = pn := by omega
        rw [e_2] at e1
        subst e1
        rw [e_2] at e2
        subst e2
        have hcl9 := nlF_le pul c pn
        refine lv_iload_n hx hb dX2_noteLastPulled_43 rfl (lv_at hl 1 rfl) ?_
        refine lv_bipush (v := 16) hx hb dX2_noteLastPulled_44 (by decide) ?_
        refine x_icmp_ge (x := (nlF pul c pn).2) (y := 16) (tgt := 63) hx hb (by omega) (by omega) dX2_noteLastPulled_46 (by decide) (fun c46 => ?_) (fun c46 => ?_)
        · skip
          first | rw [show nl1 pul c pn = (nlF pul c pn).1 from if_neg (by omega), show nl2 pul c pn = pn from if_neg (by omega)] at hq | rw [show nl1 pul c pn = upd (nlF pul c pn).1 (nlF pul c pn).2 (nI c) from if_pos (by omega), show nl2 pul c pn = (nlF pul c pn).2 + 1 from if_pos (by omega)] at hq
          exact hq H locs 63 ls dX2_noteLastPulled_63 (by skip; exact hP) (by skip; exact hD) hS
        · skip
          refine lv_aload_n hx hb dX2_noteLastPulled_49 rfl (lv_at hl 2 rfl) ?_
          refine va_get (D := xD G) (ci := 2) (v := .ref (ra 9)) (C := RX2) (T := TX2) (N := 17) hx hb hts inX2 hown hK hP 0 rfl rfl 9 (by decide) kl31 (fun _ h9 => h9) rfl dX2_noteLastPulled_50 ?_
          refine lv_iload_n hx hb dX2_noteLastPulled_53 rfl (lv_at hl 1 rfl) ?_
          refine lv_iload_n hx hb dX2_noteLastPulled_54 rfl (lv_at hl 3 rfl) ?_
          refine x_iast (i := (nlF pul c pn).2) hx hb hK hP hD hS 1 rfl (by first | omega | assumption) (by omega) dX2_noteLastPulled_55 (fun H locs hP hD hS => ?_)
          have hP : va_P (xD G) vwCl [oRun rA cA uA ra nob (nI pn) day last act rst, xI G (ra 9) 16 (upd ((nlF pul c pn).1) ((nlF pul c pn).2) (nI c))] H := hP
          have hD : va_D A [oRun rA cA uA ra nob (nI pn) day last act rst, xI G (ra 9) 16 (upd ((nlF pul c pn).1) ((nlF pul c pn).2) (nI c))] := hD
          refine lv_aload_n hx hb dX2_noteLastPulled_56 rfl (lv_at hl 2 rfl) ?_
          refine lv_iload_n hx hb dX2_noteLastPulled_57 rfl (lv_at hl 1 rfl) ?_
          refine lv_iconst (v := 1) hx hb dX2_noteLastPulled_58 (by decide) ?_
          refine lv_iadd hx hb dX2_noteLastPulled_59 ?_
          refine x_top (y := nI (((nlF pul c pn).2) + 1)) (nI_add ((nlF pul c pn).2) 1) ?_
          refine va_put (D := xD G) (ci := 2) (v := .int (nI (((nlF pul c pn).2) + 1))) (ty := .int) (C := RX2) (T := TX2) (N := 17) hx hb hts inX2 tyX2 tyX2_ok nmX2 hown hK hP hD hS 0 rfl rfl 10 (by decide) kl58 (fun _ h9 => h9) rfl (by decide +kernel) rfl rfl (Nat.le_of_ble_eq_true rfl) dX2_noteLastPulled_60 (fun H locs hP hD hS => ?_)
          have hP : va_P (xD G) vwCl [oRun rA cA uA ra nob (nI (((nlF pul c pn).2) + 1)) day last act rst, xI G (ra 9) 16 (upd ((nlF pul c pn).1) ((nlF pul c pn).2) (nI c))] H := hP
          have hD : va_D A [oRun rA cA uA ra nob (nI (((nlF pul c pn).2) + 1)) day last act rst, xI G (ra 9) 16 (upd ((nlF pul c pn).1) ((nlF pul c pn).2) (nI c))] := hD
          first | rw [show nl1 pul c pn = (nlF pul c pn).1 from if_neg (by omega), show nl2 pul c pn = pn from if_neg (by omega)] at hq | rw [show nl1 pul c pn = upd (nlF pul c pn).1 (nlF pul c pn).2 (nI c) from if_pos (by omega), show nl2 pul c pn = (nlF pul c pn).2 + 1 from if_pos (by omega)] at hq
          exact hq H locs 63 ls dX2_noteLastPulled_63 (by skip; exact hP) (by skip; exact hD) hS
      · skip
        refine lv_aload_n hx hb dX2_noteLastPulled_12 rfl (lv_at hl 2 rfl) ?_
        refine va_get (D := xD G) (ci := 2) (v := .ref (ra 9)) (C := RX2) (T := TX2) (N := 17) hx hb hts inX2 hown hK hP 0 rfl rfl 9 (by decide) kl31 (fun _ h9 => h9) rfl dX2_noteLastPulled_13 ?_
        refine lv_iload_n hx hb dX2_noteLastPulled_16 rfl (lv_at hl 0 rfl) ?_
        refine x_iald (i := i) hx hb hK hP 1 rfl (by first | omega | assumption) (by omega) dX2_noteLastPulled_17 ?_
        refine lv_iload_n hx hb dX2_noteLastPulled_18 rfl (lv_at hl 3 rfl) ?_
        refine lv_icmp_eq (x := f1 i) (y := nI c) (tgt := 37) hx hb dX2_noteLastPulled_19 (by decide) (fun c19 => ?_) (fun c19 => ?_)
        · skip
          refine lv_iinc (v := nI (i + 1)) (lv' := [(3, .int (nI (i + 1))), (2, .int (nI x)), (0, .ref rA), (1, .int (nI c))]) hx hb dX2_noteLastPulled_37 hl (k := 0) rfl (by exact nI_add i 1) (by decide) rfl (fun ls hl => ?_)
          refine lv_goto (tgt := 4) hx hb dX2_noteLastPulled_40 (by decide) ?_
          exact ih4 (i + 1) f1 x (by omega) (by omega) (by simp only [nlF, ← e1, ← e2]; first | (rw [if_pos c19]; exact e1) | rw [if_neg c19]) (by simp only [nlF, ← e1, ← e2]; first | (rw [if_pos c19]; exact e2) | rw [if_neg c19]) H locs hP hD hS ls (lv_sub hl [0, 1, 2, 3] rfl)
        · skip
          refine lv_aload_n hx hb dX2_noteLastPulled_22 rfl (lv_at hl 2 rfl) ?_
          refine va_get (D := xD G) (ci := 2) (v := .ref (ra 9)) (C := RX2) (T := TX2) (N := 17) hx hb hts inX2 hown hK hP 0 rfl rfl 9 (by decide) kl31 (fun _ h9 => h9) rfl dX2_noteLastPulled_23 ?_
          refine lv_iload_n hx hb dX2_noteLastPulled_26 rfl (lv_at hl 1 rfl) ?_
          refine lv_aload_n hx hb dX2_noteLastPulled_27 rfl (lv_at hl 2 rfl) ?_
          refine va_get (D := xD G) (ci := 2) (v := .ref (ra 9)) (C := RX2) (T := TX2) (N := 17) hx hb hts inX2 hown hK hP 0 rfl rfl 9 (by decide) kl31 (fun _ h9 => h9) rfl dX2_noteLastPulled_28 ?_
          refine lv_iload_n hx hb dX2_noteLastPulled_31 rfl (lv_at hl 0 rfl) ?_
          refine x_iald (i := i) hx hb hK hP 1 rfl (by first | omega | assumption) (by omega) dX2_noteLastPulled_32 ?_
          refine x_iast (i := x) hx hb hK hP hD hS 1 rfl (by first | omega | assumption) (by omega) dX2_noteLastPulled_33 (fun H locs hP hD hS => ?_)
          have hP : va_P (xD G) vwCl [oRun rA cA uA ra nob (nI pn) day last act rst, xI G (ra 9) 16 (upd f1 x (f1 i))] H := hP
          have hD : va_D A [oRun rA cA uA ra nob (nI pn) day last act rst, xI G (ra 9) 16 (upd f1 x (f1 i))] := hD
          refine lv_iinc (v := nI (x + 1)) (lv' := [(2, .int (nI (x + 1))), (3, .int (nI i)), (0, .ref rA), (1, .int (nI c))]) hx hb dX2_noteLastPulled_34 hl (k := 1) rfl (by exact nI_add x 1) (by decide) rfl (fun ls hl => ?_)
          refine lv_iinc (v := nI (i + 1)) (lv' := [(3, .int (nI (i + 1))), (2, .int (nI (x + 1))), (0, .ref rA), (1, .int (nI c))]) hx hb dX2_noteLastPulled_37 hl (k := 1) rfl (by exact nI_add i 1) (by decide) rfl (fun ls hl => ?_)
          refine lv_goto (tgt := 4) hx hb dX2_noteLastPulled_40 (by decide) ?_
          exact ih4 (i + 1) (upd f1 x (f1 i)) (x + 1) (by omega) (by omega) (by simp only [nlF, ← e1, ← e2]; first | (rw [if_pos c19]; exact e1) | rw [if_neg c19]) (by simp only [nlF, ← e1, ← e2]; first | (rw [if_pos c19]; exact e2) | rw [if_neg c19]) H locs hP hD hS ls (lv_sub hl [0, 1, 2, 3] rfl)
  exact L4 (pn + 1) 0 pul 0 (by omega) (by omega) (rfl) (rfl) H locs hP hD hS ls (lv_sub hl [0, 1, 2, 3] rfl)
set_option maxHeartbeats 4000000 in
set_option maxRecDepth 100000 in
theorem mX2_pullCard (l : Launch) (G : xG) (rA : Nat) (cA : Nat) (uA : Nat) (ra : Nat → Nat) (nob : Int32) (s0 : CS) (day : Int32) (last : Int32) (rst : Int32) (ca : Nat → Nat) (cols : Int32) (cn : Int32) (szs : Nat → Int32) (c : Nat) (k0 : Nat)  (hp : csC s0 ≤ 16) (hc : c < 16) (hk : k0 < 4) : xM l yX2_pullCard wsX2_pullCard ({ frames := 1, cells := 0, slots := 0, locals := 23 } : Room) [.ref rA, .int (nI c), .int (nI k0)] G [oRun rA cA uA ra nob (nI (csC s0)) day last (csA s0) rst, xI G (ra 3) 16 (csP s0), xI G (ra 4) 16 (csN s0), xI G (ra 5) 16 (csL s0), xI G (ra 9) 16 (csU s0), oCards cA ca cols cn, xI G (ca 8) 64 szs] [oRun rA cA uA ra nob (nI (csC (puF szs k0 s0 c))) day last (csA (puF szs k0 s0 c)) rst, xI G (ra 3) 16 (csP (puF szs k0 s0 c)), xI G (ra 4) 16 (csN (puF szs k0 s0 c)), xI G (ra 5) 16 (csL (puF szs k0 s0 c)), xI G (ra 9) 16 (csU (puF szs k0 s0 c)), oCards cA ca cols cn, xI G (ca 8) 64 szs] := by
  refine xM_of (cc := cX2_pullCard) (maxL := 3) (by decide) rfl (Nat.le_of_ble_eq_true rfl) ?_
  intro p e s m below meth cO ls Q A hx hb hml hown hts hP hK hD hS hA hl hq
  have hown : s.vm.findClass RX2 = some m.cls := hown
  have kl9 := hts (.fieldLink RX2 9 "WorkBoard$Run" "place" "[I") (List.mem_of_getElem? (i := 1) rfl)
  have kl15 := hts (.fieldLink RX2 15 "WorkBoard$Run" "next" "[I") (List.mem_of_getElem? (i := 2) rfl)
  have kl18 := hts (.fieldLink RX2 18 "WorkBoard$Run" "left" "[I") (List.mem_of_getElem? (i := 3) rfl)
  have kl40 := hts (.fieldLink RX2 40 "WorkBoard$Run" "cards" "LWorkBoard$Cards;") (List.mem_of_getElem? (i := 4) rfl)
  have kl158 := hts (.fieldLink RX2 158 "WorkBoard$Run" "active" "Z") (List.mem_of_getElem? (i := 5) rfl)
  have inX2 : ∀ w ∈ u_ws RX2 TX2 17, w ∈ wsX2_pullCard := (fun w h => List.mem_cons_of_mem _ (List.mem_append_left _ (List.mem_append_right _ h)))
  have hl : lv_has ls 3 [(0, .ref rA), (1, .int (nI c)), (2, .int (nI k0))] := hl
  have hD : va_D A [oRun rA cA uA ra nob (nI (csC s0)) day last (csA s0) rst, xI G (ra 3) 16 (csP s0), xI G (ra 4) 16 (csN s0), xI G (ra 5) 16 (csL s0), xI G (ra 9) 16 (csU s0), oCards cA ca cols cn, xI G (ca 8) 64 szs] := hD
  obtain ⟨H, hH⟩ : ∃ z, z = s.heap := ⟨_, rfl⟩
  obtain ⟨locs, hlocs⟩ : ∃ z : List Loc, z = [] := ⟨_, rfl⟩
  have hS : va_S A s.heap H locs := by rw [hH, hlocs]; exact hS
  have hP : va_P (xD G) vwCl [oRun rA cA uA ra nob (nI (csC s0)) day last (csA s0) rst, xI G (ra 3) 16 (csP s0), xI G (ra 4) 16 (csN s0), xI G (ra 5) 16 (csL s0), xI G (ra 9) 16 (csU s0), oCards cA ca cols cn, xI G (ca 8) 64 szs] H := by rw [hH]; exact hP
  rw [← hH, ← hlocs]
  clear hH hlocs
  refine lv_aload_n hx hb dX2_pullCard_0 rfl (lv_at hl 0 rfl) ?_
  refine va_get (D := xD G) (ci := 2) (v := .ref (ra 3)) (C := RX2) (T := TX2) (N := 17) hx hb hts inX2 hown hK hP 0 rfl rfl 3 (by decide) kl9 (fun _ h9 => h9) rfl dX2_pullCard_1 ?_
  refine lv_iload_n hx hb dX2_pullCard_4 rfl (lv_at hl 1 rfl) ?_
  refine lv_iload_n hx hb dX2_pullCard_5 rfl (lv_at hl 2 rfl) ?_
  refine x_iast (i := c) hx hb hK hP hD hS 1 rfl (by first | omega | assumption) (by omega) dX2_pullCard_6 (fun H locs hP hD hS => ?_)
  have hP : va_P (xD G) vwCl [oRun rA cA uA ra nob (nI (csC s0)) day last (csA s0) rst, xI G (ra 3) 16 (upd (csP s0) c (nI k0)), xI G (ra 4) 16 (csN s0), xI G (ra 5) 16 (csL s0), xI G (ra 9) 16 (csU s0), oCards cA ca cols cn, xI G (ca 8) 64 szs] H := hP
  have hD : va_D A [oRun rA cA uA ra nob (nI (csC s0)) day last (csA s0) rst, xI G (ra 3) 16 (upd (csP s0) c (nI k0)), xI G (ra 4) 16 (csN s0), xI G (ra 5) 16 (csL s0), xI G (ra 9) 16 (csU s0), oCards cA ca cols cn, xI G (ca 8) 64 szs] := hD
  refine lv_aload_n hx hb dX2_pullCard_7 rfl (lv_at hl 0 rfl) ?_
  refine va_get (D := xD G) (ci := 2) (v := .ref (ra 4)) (C := RX2) (T := TX2) (N := 17) hx hb hts inX2 hown hK hP 0 rfl rfl 4 (by decide) kl15 (fun _ h9 => h9) rfl dX2_pullCard_8 ?_
  refine lv_iload_n hx hb dX2_pullCard_11 rfl (lv_at hl 1 rfl) ?_
  refine lv_iconst (v := (-1)) hx hb dX2_pullCard_12 (by decide) ?_
  refine x_iast (i := c) hx hb hK hP hD hS 2 rfl (by first | omega | assumption) (by omega) dX2_pullCard_13 (fun H locs hP hD hS => ?_)
  have hP : va_P (xD G) vwCl [oRun rA cA uA ra nob (nI (csC s0)) day last (csA s0) rst, xI G (ra 3) 16 (upd (csP s0) c (nI k0)), xI G (ra 4) 16 (upd (csN s0) c (-1)), xI G (ra 5) 16 (csL s0), xI G (ra 9) 16 (csU s0), oCards cA ca cols cn, xI G (ca 8) 64 szs] H := hP
  have hD : va_D A [oRun rA cA uA ra nob (nI (csC s0)) day last (csA s0) rst, xI G (ra 3) 16 (upd (csP s0) c (nI k0)), xI G (ra 4) 16 (upd (csN s0) c (-1)), xI G (ra 5) 16 (csL s0), xI G (ra 9) 16 (csU s0), oCards cA ca cols cn, xI G (ca 8) 64 szs] := hD
  refine lv_aload_n hx hb dX2_pullCard_14 rfl (lv_at hl 0 rfl) ?_
  refine va_get (D := xD G) (ci := 2) (v := .ref (ra 5)) (C := RX2) (T := TX2) (N := 17) hx hb hts inX2 hown hK hP 0 rfl rfl 5 (by decide) kl18 (fun _ h9 => h9) rfl dX2_pullCard_15 ?_
  refine lv_iload_n hx hb dX2_pullCard_18 rfl (lv_at hl 1 rfl) ?_
  refine lv_aload_n hx hb dX2_pullCard_19 rfl (lv_at hl 0 rfl) ?_
  refine va_get (D := xD G) (ci := 2) (v := .ref cA) (C := RX2) (T := TX2) (N := 17) hx hb hts inX2 hown hK hP 0 rfl rfl 0 (by decide) kl40 (fun _ h9 => h9) rfl dX2_pullCard_20 ?_
  refine lv_iload_n hx hb dX2_pullCard_23 rfl (lv_at hl 1 rfl) ?_
  refine lv_iload_n hx hb dX2_pullCard_24 rfl (lv_at hl 2 rfl) ?_
  refine x_callR (As := [.int (nI c), .int (nI k0)]) (rest := [.int (nI c), .ref (ra 5)]) (ci := 0) (q0 := 5) ⟨hx, hb, hml, hown, hts⟩ (mX0_sizeIn l G cA ca cols cn szs c k0 (by first | assumption | omega) (by first | assumption | omega)) (cwV 2 hts gX2_pullCard_X0_sizeIn rfl rfl rfl (by decide +kernel) ⟨Nat.le_of_ble_eq_true rfl, Nat.le_of_ble_eq_true rfl⟩) hK hP hD [5, 6] rfl rfl rfl rfl rfl rfl rfl hl.1 rfl (Nat.le_of_ble_eq_true rfl) dX2_pullCard_25 ⟨Nat.zero_le _, Nat.zero_le _⟩ (fun r hr => ?_)
  subst hr
  refine x_iast (i := c) hx hb hK hP hD hS 3 rfl (by first | omega | assumption) (by omega) dX2_pullCard_28 (fun H locs hP hD hS => ?_)
  have hP : va_P (xD G) vwCl [oRun rA cA uA ra nob (nI (csC s0)) day last (csA s0) rst, xI G (ra 3) 16 (upd (csP s0) c (nI k0)), xI G (ra 4) 16 (upd (csN s0) c (-1)), xI G (ra 5) 16 (upd (csL s0) c (szs (c * 4 + k0))), xI G (ra 9) 16 (csU s0), oCards cA ca cols cn, xI G (ca 8) 64 szs] H := hP
  have hD : va_D A [oRun rA cA uA ra nob (nI (csC s0)) day last (csA s0) rst, xI G (ra 3) 16 (upd (csP s0) c (nI k0)), xI G (ra 4) 16 (upd (csN s0) c (-1)), xI G (ra 5) 16 (upd (csL s0) c (szs (c * 4 + k0))), xI G (ra 9) 16 (csU s0), oCards cA ca cols cn, xI G (ca 8) 64 szs] := hD
  refine lv_aload_n hx hb dX2_pullCard_29 rfl (lv_at hl 0 rfl) ?_
  refine lv_iload_n hx hb dX2_pullCard_30 rfl (lv_at hl 1 rfl) ?_
  refine x_callM (As := [.int (nI c)]) (rest := []) (w2 := [oRun rA cA uA ra nob (nI (nl2 (csU s0) c (csC s0))) day last (csA s0) rst, xI G (ra 3) 16 (upd (csP s0) c (nI k0)), xI G (ra 4) 16 (upd (csN s0) c (-1)), xI G (ra 5) 16 (upd (csL s0) c (szs (c * 4 + k0))), xI G (ra 9) 16 (nl1 (csU s0) c (csC s0)), oCards cA ca cols cn, xI G (ca 8) 64 szs]) (wr := [xI G (ra 3) 16 (upd (csP s0) c (nI k0)), xI G (ra 4) 16 (upd (csN s0) c (-1)), xI G (ra 5) 16 (upd (csL s0) c (szs (c * 4 + k0))), oCards cA ca cols cn, xI G (ca 8) 64 szs]) (ci := 2) (q0 := 0) ⟨hx, hb, hml, hown, hts⟩ (mX2_noteLastPulled l G rA cA uA ra nob (csC s0) day last (csA s0) rst (csU s0) c (by first | assumption | omega) (by first | assumption | omega)) (cwV 1 hts gX2_pullCard_X2_noteLastPulled rfl rfl rfl (by decide +kernel) ⟨Nat.le_of_ble_eq_true rfl, Nat.le_of_ble_eq_true rfl⟩) hK hP hD hS hA [0, 4] [1, 2, 3, 5, 6] [5, 0, 1, 2, 6, 3, 4] rfl rfl rfl rfl rfl (by decide) rfl rfl rfl rfl rfl rfl rfl hl.1 rfl (Nat.le_of_ble_eq_true rfl) dX2_pullCard_31 ⟨Nat.zero_le _, Nat.zero_le _⟩ (fun H locs hP hD hS => ?_)
  refine lv_aload_n hx hb dX2_pullCard_34 rfl (lv_at hl 0 rfl) ?_
  refine lv_iconst (v := 1) hx hb dX2_pullCard_35 (by decide) ?_
  refine va_put (D := xD G) (ci := 2) (v := .int 1) (ty := .boolean) (C := RX2) (T := TX2) (N := 17) hx hb hts inX2 tyX2 tyX2_ok nmX2 hown hK hP hD hS 0 rfl rfl 15 (by decide) kl158 (fun _ h9 => h9) rfl (by decide +kernel) rfl rfl (Nat.le_of_ble_eq_true rfl) dX2_pullCard_36 (fun H locs hP hD hS => ?_)
  have hP : va_P (xD G) vwCl [oRun rA cA uA ra nob (nI (nl2 (csU s0) c (csC s0))) day last 1 rst, xI G (ra 3) 16 (upd (csP s0) c (nI k0)), xI G (ra 4) 16 (upd (csN s0) c (-1)), xI G (ra 5) 16 (upd (csL s0) c (szs (c * 4 + k0))), xI G (ra 9) 16 (nl1 (csU s0) c (csC s0)), oCards cA ca cols cn, xI G (ca 8) 64 szs] H := hP
  have hD : va_D A [oRun rA cA uA ra nob (nI (nl2 (csU s0) c (csC s0))) day last 1 rst, xI G (ra 3) 16 (upd (csP s0) c (nI k0)), xI G (ra 4) 16 (upd (csN s0) c (-1)), xI G (ra 5) 16 (upd (csL s0) c (szs (c * 4 + k0))), xI G (ra 9) 16 (nl1 (csU s0) c (csC s0)), oCards cA ca cols cn, xI G (ca 8) 64 szs] := hD
  exact hq H locs 39 ls dX2_pullCard_39 (by skip; exact hP) (by skip; exact hD) hS
set_option maxHeartbeats 4000000 in
set_option maxRecDepth 100000 in
theorem mX2_endColumn (l : Launch) (G : xG) (rA : Nat) (cA : Nat) (uA : Nat) (ra : Nat → Nat) (nob : Int32) (s0 : CS) (day : Int32) (last : Int32) (rst : Int32) (ca : Nat → Nat) (nc : Nat) (cn : Int32) (bfrom : Nat → Int32) (bto : Nat → Int32) (c : Nat) (k0 : Nat)  (hc : c < 16) (hk : k0 < 4) : xM l yX2_endColumn wsX2_endColumn ({ frames := 0, cells := 0, slots := 0, locals := 0 } : Room) [.ref rA, .int (nI c), .int (nI k0)] G [oRun rA cA uA ra nob (nI (csC s0)) day last (csA s0) rst, xI G (ra 3) 16 (csP s0), xI G (ra 4) 16 (csN s0), xI G (ra 6) 16 (csD s0), xZ G (ra 8) 16 (csB s0), oCards cA ca (nI nc) cn, xI G (ca 5) 16 bfrom, xI G (ca 6) 16 bto] [oRun rA cA uA ra nob (nI (csC (ecF bfrom bto nc day s0 c k0))) day last (csA (ecF bfrom bto nc day s0 c k0)) rst, xI G (ra 3) 16 (csP (ecF bfrom bto nc day s0 c k0)), xI G (ra 4) 16 (csN (ecF bfrom bto nc day s0 c k0)), xI G (ra 6) 16 (csD (ecF bfrom bto nc day s0 c k0)), xZ G (ra 8) 16 (csB (ecF bfrom bto nc day s0 c k0)), oCards cA ca (nI nc) cn, xI G (ca 5) 16 bfrom, xI G (ca 6) 16 bto] := by
  refine xM_of (cc := cX2_endColumn) (maxL := 3) (by decide) rfl (Nat.le_of_ble_eq_true rfl) ?_
  intro p e s m below meth cO ls Q A hx hb hml hown hts hP hK hD hS hA hl hq
  have hown : s.vm.findClass RX2 = some m.cls := hown
  have kl40 := hts (.fieldLink RX2 40 "WorkBoard$Run" "cards" "LWorkBoard$Cards;") (List.mem_of_getElem? (i := 1) rfl)
  have kl203 := hts (.fieldLink RX2 203 "WorkBoard$Cards" "backFrom" "[I") (List.mem_of_getElem? (i := 2) rfl)
  have kl28 := hts (.fieldLink RX2 28 "WorkBoard$Run" "beenBack" "[Z") (List.mem_of_getElem? (i := 3) rfl)
  have kl15 := hts (.fieldLink RX2 15 "WorkBoard$Run" "next" "[I") (List.mem_of_getElem? (i := 4) rfl)
  have kl206 := hts (.fieldLink RX2 206 "WorkBoard$Cards" "backTo" "[I") (List.mem_of_getElem? (i := 5) rfl)
  have kl130 := hts (.fieldLink RX2 130 "WorkBoard$Cards" "columns" "I") (List.mem_of_getElem? (i := 6) rfl)
  have kl9 := hts (.fieldLink RX2 9 "WorkBoard$Run" "place" "[I") (List.mem_of_getElem? (i := 7) rfl)
  have kl21 := hts (.fieldLink RX2 21 "WorkBoard$Run" "doneOn" "[I") (List.mem_of_getElem? (i := 8) rfl)
  have kl62 := hts (.fieldLink RX2 62 "WorkBoard$Run" "day" "I") (List.mem_of_getElem? (i := 9) rfl)
  have inX0 : ∀ w ∈ u_ws RX0 TX0 9, w ∈ wsX2_endColumn := (fun w h => List.mem_cons_of_mem _ (List.mem_append_right _ h))
  have inX2 : ∀ w ∈ u_ws RX2 TX2 17, w ∈ wsX2_endColumn := (fun w h => List.mem_cons_of_mem _ (List.mem_append_left _ (List.mem_append_right _ h)))
  have hl : lv_has ls 3 [(0, .ref rA), (1, .int (nI c)), (2, .int (nI k0))] := hl
  have hD : va_D A [oRun rA cA uA ra nob (nI (csC s0)) day last (csA s0) rst, xI G (ra 3) 16 (csP s0), xI G (ra 4) 16 (csN s0), xI G (ra 6) 16 (csD s0), xZ G (ra 8) 16 (csB s0), oCards cA ca (nI nc) cn, xI G (ca 5) 16 bfrom, xI G (ca 6) 16 bto] := hD
  obtain ⟨H, hH⟩ : ∃ z, z = s.heap := ⟨_, rfl⟩
  obtain ⟨locs, hlocs⟩ : ∃ z : List Loc, z = [] := ⟨_, rfl⟩
  have hS : va_S A s.heap H locs := by rw [hH, hlocs]; exact hS
  have hP : va_P (xD G) vwCl [oRun rA cA uA ra nob (nI (csC s0)) day last (csA s0) rst, xI G (ra 3) 16 (csP s0), xI G (ra 4) 16 (csN s0), xI G (ra 6) 16 (csD s0), xZ G (ra 8) 16 (csB s0), oCards cA ca (nI nc) cn, xI G (ca 5) 16 bfrom, xI G (ca 6) 16 bto] H := by rw [hH]; exact hP
  rw [← hH, ← hlocs]
  clear hH hlocs
  refine lv_iload_n hx hb dX2_endColumn_0 rfl (lv_at hl 2 rfl) ?_
  refine lv_aload_n hx hb dX2_endColumn_1 rfl (lv_at hl 0 rfl) ?_
  refine va_get (D := xD G) (ci := 2) (v := .ref cA) (C := RX2) (T := TX2) (N := 17) hx hb hts inX2 hown hK hP 0 rfl rfl 0 (by decide) kl40 (fun _ h9 => h9) rfl dX2_endColumn_2 ?_
  refine va_get (D := xD G) (ci := 0) (v := .ref (ca 5)) (C := RX0) (T := TX0) (N := 9) hx hb hts inX0 hown hK hP 5 rfl rfl 5 (by decide) kl203 (fun _ h9 => h9) rfl dX2_endColumn_5 ?_
  refine lv_iload_n hx hb dX2_endColumn_8 rfl (lv_at hl 1 rfl) ?_
  refine x_iald (i := c) hx hb hK hP 6 rfl (by first | omega | assumption) (by omega) dX2_endColumn_9 ?_
  refine lv_icmp_ne (x := nI k0) (y := bfrom c) (tgt := 47) hx hb dX2_endColumn_10 (by decide) (fun c10 => ?_) (fun c10 => ?_)
  · skip
    refine lv_iload_n hx hb dX2_endColumn_47 rfl (lv_at hl 2 rfl) ?_
    refine lv_aload_n hx hb dX2_endColumn_48 rfl (lv_at hl 0 rfl) ?_
    refine va_get (D := xD G) (ci := 2) (v := .ref cA) (C := RX2) (T := TX2) (N := 17) hx hb hts inX2 hown hK hP 0 rfl rfl 0 (by decide) kl40 (fun _ h9 => h9) rfl dX2_endColumn_49 ?_
    refine va_get (D := xD G) (ci := 0) (v := .int (nI nc)) (C := RX0) (T := TX0) (N := 9) hx hb hts inX0 hown hK hP 5 rfl rfl 0 (by decide) kl130 (fun _ h9 => h9) rfl dX2_endColumn_52 ?_
    refine lv_iconst (v := 1) hx hb dX2_endColumn_55 (by decide) ?_
    refine lv_isub hx hb dX2_endColumn_56 ?_
    refine lv_icmp_ne (x := nI k0) (y := (nI nc) - 1) (tgt := 81) hx hb dX2_endColumn_57 (by decide) (fun c57 => ?_) (fun c57 => ?_)
    · skip
      refine lv_aload_n hx hb dX2_endColumn_81 rfl (lv_at hl 0 rfl) ?_
      refine va_get (D := xD G) (ci := 2) (v := .ref (ra 4)) (C := RX2) (T := TX2) (N := 17) hx hb hts inX2 hown hK hP 0 rfl rfl 4 (by decide) kl15 (fun _ h9 => h9) rfl dX2_endColumn_82 ?_
      refine lv_iload_n hx hb dX2_endColumn_85 rfl (lv_at hl 1 rfl) ?_
      refine lv_iload_n hx hb dX2_endColumn_86 rfl (lv_at hl 2 rfl) ?_
      refine lv_iconst (v := 1) hx hb dX2_endColumn_87 (by decide) ?_
      refine lv_iadd hx hb dX2_endColumn_88 ?_
      refine x_top (y := nI (k0 + 1)) (nI_add k0 1) ?_
      refine x_iast (i := c) hx hb hK hP hD hS 2 rfl (by first | omega | assumption) (by omega) dX2_endColumn_89 (fun H locs hP hD hS => ?_)
      have hP : va_P (xD G) vwCl [oRun rA cA uA ra nob (nI (csC s0)) day last (csA s0) rst, xI G (ra 3) 16 (csP s0), xI G (ra 4) 16 (upd (csN s0) c (nI (k0 + 1))), xI G (ra 6) 16 (csD s0), xZ G (ra 8) 16 (csB s0), oCards cA ca (nI nc) cn, xI G (ca 5) 16 bfrom, xI G (ca 6) 16 bto] H := hP
      have hD : va_D A [oRun rA cA uA ra nob (nI (csC s0)) day last (csA s0) rst, xI G (ra 3) 16 (csP s0), xI G (ra 4) 16 (upd (csN s0) c (nI (k0 + 1))), xI G (ra 6) 16 (csD s0), xZ G (ra 8) 16 (csB s0), oCards cA ca (nI nc) cn, xI G (ca 5) 16 bfrom, xI G (ca 6) 16 bto] := hD
      have eF : ecF bfrom bto nc day s0 c k0 = (csP s0, upd (csN s0) c (nI (k0 + 1)), csL s0, csD s0, csW s0, csB s0, csU s0, csH s0, (csC s0), csA s0) := by unfold ecF; rw [if_neg (fun h => c10 h.1)]; first | rw [if_neg c57] | rw [if_pos c57]
      rw [eF] at hq
      exact hq H locs 90 ls dX2_endColumn_90 (by skip; exact hP) (by skip; exact hD) hS
    · skip
      refine lv_aload_n hx hb dX2_endColumn_60 rfl (lv_at hl 0 rfl) ?_
      refine va_get (D := xD G) (ci := 2) (v := .ref (ra 3)) (C := RX2) (T := TX2) (N := 17) hx hb hts inX2 hown hK hP 0 rfl rfl 3 (by decide) kl9 (fun _ h9 => h9) rfl dX2_endColumn_61 ?_
      refine lv_iload_n hx hb dX2_endColumn_64 rfl (lv_at hl 1 rfl) ?_
      refine lv_bipush (v := 10) hx hb dX2_endColumn_65 (by decide) ?_
      refine x_iast (i := c) hx hb hK hP hD hS 1 rfl (by first | omega | assumption) (by omega) dX2_endColumn_67 (fun H locs hP hD hS => ?_)
      have hP : va_P (xD G) vwCl [oRun rA cA uA ra nob (nI (csC s0)) day last (csA s0) rst, xI G (ra 3) 16 (upd (csP s0) c 10), xI G (ra 4) 16 (csN s0), xI G (ra 6) 16 (csD s0), xZ G (ra 8) 16 (csB s0), oCards cA ca (nI nc) cn, xI G (ca 5) 16 bfrom, xI G (ca 6) 16 bto] H := hP
      have hD : va_D A [oRun rA cA uA ra nob (nI (csC s0)) day last (csA s0) rst, xI G (ra 3) 16 (upd (csP s0) c 10), xI G (ra 4) 16 (csN s0), xI G (ra 6) 16 (csD s0), xZ G (ra 8) 16 (csB s0), oCards cA ca (nI nc) cn, xI G (ca 5) 16 bfrom, xI G (ca 6) 16 bto] := hD
      refine lv_aload_n hx hb dX2_endColumn_68 rfl (lv_at hl 0 rfl) ?_
      refine va_get (D := xD G) (ci := 2) (v := .ref (ra 6)) (C := RX2) (T := TX2) (N := 17) hx hb hts inX2 hown hK hP 0 rfl rfl 6 (by decide) kl21 (fun _ h9 => h9) rfl dX2_endColumn_69 ?_
      refine lv_iload_n hx hb dX2_endColumn_72 rfl (lv_at hl 1 rfl) ?_
      refine lv_aload_n hx hb dX2_endColumn_73 rfl (lv_at hl 0 rfl) ?_
      refine va_get (D := xD G) (ci := 2) (v := .int day) (C := RX2) (T := TX2) (N := 17) hx hb hts inX2 hown hK hP 0 rfl rfl 13 (by decide) kl62 (fun _ h9 => h9) rfl dX2_endColumn_74 ?_
      refine x_iast (i := c) hx hb hK hP hD hS 3 rfl (by first | omega | assumption) (by omega) dX2_endColumn_77 (fun H locs hP hD hS => ?_)
      have hP : va_P (xD G) vwCl [oRun rA cA uA ra nob (nI (csC s0)) day last (csA s0) rst, xI G (ra 3) 16 (upd (csP s0) c 10), xI G (ra 4) 16 (csN s0), xI G (ra 6) 16 (upd (csD s0) c day), xZ G (ra 8) 16 (csB s0), oCards cA ca (nI nc) cn, xI G (ca 5) 16 bfrom, xI G (ca 6) 16 bto] H := hP
      have hD : va_D A [oRun rA cA uA ra nob (nI (csC s0)) day last (csA s0) rst, xI G (ra 3) 16 (upd (csP s0) c 10), xI G (ra 4) 16 (csN s0), xI G (ra 6) 16 (upd (csD s0) c day), xZ G (ra 8) 16 (csB s0), oCards cA ca (nI nc) cn, xI G (ca 5) 16 bfrom, xI G (ca 6) 16 bto] := hD
      refine lv_goto (tgt := 90) hx hb dX2_endColumn_78 (by decide) ?_
      have eF : ecF bfrom bto nc day s0 c k0 = (upd (csP s0) c 10, csN s0, csL s0, upd (csD s0) c day, csW s0, csB s0, csU s0, csH s0, (csC s0), csA s0) := by unfold ecF; rw [if_neg (fun h => c10 h.1)]; first | rw [if_neg c57] | rw [if_pos c57]
      rw [eF] at hq
      exact hq H locs 90 ls dX2_endColumn_90 (by skip; exact hP) (by skip; exact hD) hS
  · skip
    refine lv_aload_n hx hb dX2_endColumn_13 rfl (lv_at hl 0 rfl) ?_
    refine va_get (D := xD G) (ci := 2) (v := .ref (ra 8)) (C := RX2) (T := TX2) (N := 17) hx hb hts inX2 hown hK hP 0 rfl rfl 8 (by decide) kl28 (fun _ h9 => h9) rfl dX2_endColumn_14 ?_
    refine lv_iload_n hx hb dX2_endColumn_17 rfl (lv_at hl 1 rfl) ?_
    refine x_zald (i := c) hx hb hK hP 4 rfl (by first | omega | assumption) (by omega) dX2_endColumn_18 ?_
    refine lv_if_ne (x := (csB s0) c) (tgt := 47) hx hb dX2_endColumn_19 (by decide) (fun c19 => ?_) (fun c19 => ?_)
    · skip
      refine lv_iload_n hx hb dX2_endColumn_47 rfl (lv_at hl 2 rfl) ?_
      refine lv_aload_n hx hb dX2_endColumn_48 rfl (lv_at hl 0 rfl) ?_
      refine va_get (D := xD G) (ci := 2) (v := .ref cA) (C := RX2) (T := TX2) (N := 17) hx hb hts inX2 hown hK hP 0 rfl rfl 0 (by decide) kl40 (fun _ h9 => h9) rfl dX2_endColumn_49 ?_
      refine va_get (D := xD G) (ci := 0) (v := .int (nI nc)) (C := RX0) (T := TX0) (N := 9) hx hb hts inX0 hown hK hP 5 rfl rfl 0 (by decide) kl130 (fun _ h9 => h9) rfl dX2_endColumn_52 ?_
      refine lv_iconst (v := 1) hx hb dX2_endColumn_55 (by decide) ?_
      refine lv_isub hx hb dX2_endColumn_56 ?_
      refine lv_icmp_ne (x := nI k0) (y := (nI nc) - 1) (tgt := 81) hx hb dX2_endColumn_57 (by decide) (fun c57 => ?_) (fun c57 => ?_)
      · skip
        refine lv_aload_n hx hb dX2_endColumn_81 rfl (lv_at hl 0 rfl) ?_
        refine va_get (D := xD G) (ci := 2) (v := .ref (ra 4)) (C := RX2) (T := TX2) (N := 17) hx hb hts inX2 hown hK hP 0 rfl rfl 4 (by decide) kl15 (fun _ h9 => h9) rfl dX2_endColumn_82 ?_
        refine lv_iload_n hx hb dX2_endColumn_85 rfl (lv_at hl 1 rfl) ?_
        refine lv_iload_n hx hb dX2_endColumn_86 rfl (lv_at hl 2 rfl) ?_
        refine lv_iconst (v := 1) hx hb dX2_endColumn_87 (by decide) ?_
        refine lv_iadd hx hb dX2_endColumn_88 ?_
        refine x_top (y := nI (k0 + 1)) (nI_add k0 1) ?_
        refine x_iast (i := c) hx hb hK hP hD hS 2 rfl (by first | omega | assumption) (by omega) dX2_endColumn_89 (fun H locs hP hD hS => ?_)
        have hP : va_P (xD G) vwCl [oRun rA cA uA ra nob (nI (csC s0)) day last (csA s0) rst, xI G (ra 3) 16 (csP s0), xI G (ra 4) 16 (upd (csN s0) c (nI (k0 + 1))), xI G (ra 6) 16 (csD s0), xZ G (ra 8) 16 (csB s0), oCards cA ca (nI nc) cn, xI G (ca 5) 16 bfrom, xI G (ca 6) 16 bto] H := hP
        have hD : va_D A [oRun rA cA uA ra nob (nI (csC s0)) day last (csA s0) rst, xI G (ra 3) 16 (csP s0), xI G (ra 4) 16 (upd (csN s0) c (nI (k0 + 1))), xI G (ra 6) 16 (csD s0), xZ G (ra 8) 16 (csB s0), oCards cA ca (nI nc) cn, xI G (ca 5) 16 bfrom, xI G (ca 6) 16 bto] := hD
        have eF : ecF bfrom bto nc day s0 c k0 = (csP s0, upd (csN s0) c (nI (k0 + 1)), csL s0, csD s0, csW s0, csB s0, csU s0, csH s0, (csC s0), csA s0) := by unfold ecF; rw [if_neg (fun h => c19 h.2)]; first | rw [if_neg c57] | rw [if_pos c57]
        rw [eF] at hq
        exact hq H locs 90 ls dX2_endColumn_90 (by skip; exact hP) (by skip; exact hD) hS
      · skip
        refine lv_aload_n hx hb dX2_endColumn_60 rfl (lv_at hl 0 rfl) ?_
        refine va_get (D := xD G) (ci := 2) (v := .ref (ra 3)) (C := RX2) (T := TX2) (N := 17) hx hb hts inX2 hown hK hP 0 rfl rfl 3 (by decide) kl9 (fun _ h9 => h9) rfl dX2_endColumn_61 ?_
        refine lv_iload_n hx hb dX2_endColumn_64 rfl (lv_at hl 1 rfl) ?_
        refine lv_bipush (v := 10) hx hb dX2_endColumn_65 (by decide) ?_
        refine x_iast (i := c) hx hb hK hP hD hS 1 rfl (by first | omega | assumption) (by omega) dX2_endColumn_67 (fun H locs hP hD hS => ?_)
        have hP : va_P (xD G) vwCl [oRun rA cA uA ra nob (nI (csC s0)) day last (csA s0) rst, xI G (ra 3) 16 (upd (csP s0) c 10), xI G (ra 4) 16 (csN s0), xI G (ra 6) 16 (csD s0), xZ G (ra 8) 16 (csB s0), oCards cA ca (nI nc) cn, xI G (ca 5) 16 bfrom, xI G (ca 6) 16 bto] H := hP
        have hD : va_D A [oRun rA cA uA ra nob (nI (csC s0)) day last (csA s0) rst, xI G (ra 3) 16 (upd (csP s0) c 10), xI G (ra 4) 16 (csN s0), xI G (ra 6) 16 (csD s0), xZ G (ra 8) 16 (csB s0), oCards cA ca (nI nc) cn, xI G (ca 5) 16 bfrom, xI G (ca 6) 16 bto] := hD
        refine lv_aload_n hx hb dX2_endColumn_68 rfl (lv_at hl 0 rfl) ?_
        refine va_get (D := xD G) (ci := 2) (v := .ref (ra 6)) (C := RX2) (T := TX2) (N := 17) hx hb hts inX2 hown hK hP 0 rfl rfl 6 (by decide) kl21 (fun _ h9 => h9) rfl dX2_endColumn_69 ?_
        refine lv_iload_n hx hb dX2_endColumn_72 rfl (lv_at hl 1 rfl) ?_
        refine lv_aload_n hx hb dX2_endColumn_73 rfl (lv_at hl 0 rfl) ?_
        refine va_get (D := xD G) (ci := 2) (v := .int day) (C := RX2) (T := TX2) (N := 17) hx hb hts inX2 hown hK hP 0 rfl rfl 13 (by decide) kl62 (fun _ h9 => h9) rfl dX2_endColumn_74 ?_
        refine x_iast (i := c) hx hb hK hP hD hS 3 rfl (by first | omega | assumption) (by omega) dX2_endColumn_77 (fun H locs hP hD hS => ?_)
        have hP : va_P (xD G) vwCl [oRun rA cA uA ra nob (nI (csC s0)) day last (csA s0) rst, xI G (ra 3) 16 (upd (csP s0) c 10), xI G (ra 4) 16 (csN s0), xI G (ra 6) 16 (upd (csD s0) c day), xZ G (ra 8) 16 (csB s0), oCards cA ca (nI nc) cn, xI G (ca 5) 16 bfrom, xI G (ca 6) 16 bto] H := hP
        have hD : va_D A [oRun rA cA uA ra nob (nI (csC s0)) day last (csA s0) rst, xI G (ra 3) 16 (upd (csP s0) c 10), xI G (ra 4) 16 (csN s0), xI G (ra 6) 16 (upd (csD s0) c day), xZ G (ra 8) 16 (csB s0), oCards cA ca (nI nc) cn, xI G (ca 5) 16 bfrom, xI G (ca 6) 16 bto] := hD
        refine lv_goto (tgt := 90) hx hb dX2_endColumn_78 (by decide) ?_
        have eF : ecF bfrom bto nc day s0 c k0 = (upd (csP s0) c 10, csN s0, csL s0, upd (csD s0) c day, csW s0, csB s0, csU s0, csH s0, (csC s0), csA s0) := by unfold ecF; rw [if_neg (fun h => c19 h.2)]; first | rw [if_neg c57] | rw [if_pos c57]
        rw [eF] at hq
        exact hq H locs 90 ls dX2_endColumn_90 (by skip; exact hP) (by skip; exact hD) hS
    · skip
      refine lv_aload_n hx hb dX2_endColumn_22 rfl (lv_at hl 0 rfl) ?_
      refine va_get (D := xD G) (ci := 2) (v := .ref (ra 8)) (C := RX2) (T := TX2) (N := 17) hx hb hts inX2 hown hK hP 0 rfl rfl 8 (by decide) kl28 (fun _ h9 => h9) rfl dX2_endColumn_23 ?_
      refine lv_iload_n hx hb dX2_endColumn_26 rfl (lv_at hl 1 rfl) ?_
      refine lv_iconst (v := 1) hx hb dX2_endColumn_27 (by decide) ?_
      refine x_zast (i := c) hx hb hK hP hD hS 4 rfl (by first | omega | assumption) (by omega) rfl dX2_endColumn_28 (fun H locs hP hD hS => ?_)
      have hP : va_P (xD G) vwCl [oRun rA cA uA ra nob (nI (csC s0)) day last (csA s0) rst, xI G (ra 3) 16 (csP s0), xI G (ra 4) 16 (csN s0), xI G (ra 6) 16 (csD s0), xZ G (ra 8) 16 (upd (csB s0) c 1), oCards cA ca (nI nc) cn, xI G (ca 5) 16 bfrom, xI G (ca 6) 16 bto] H := hP
      have hD : va_D A [oRun rA cA uA ra nob (nI (csC s0)) day last (csA s0) rst, xI G (ra 3) 16 (csP s0), xI G (ra 4) 16 (csN s0), xI G (ra 6) 16 (csD s0), xZ G (ra 8) 16 (upd (csB s0) c 1), oCards cA ca (nI nc) cn, xI G (ca 5) 16 bfrom, xI G (ca 6) 16 bto] := hD
      refine lv_aload_n hx hb dX2_endColumn_29 rfl (lv_at hl 0 rfl) ?_
      refine va_get (D := xD G) (ci := 2) (v := .ref (ra 4)) (C := RX2) (T := TX2) (N := 17) hx hb hts inX2 hown hK hP 0 rfl rfl 4 (by decide) kl15 (fun _ h9 => h9) rfl dX2_endColumn_30 ?_
      refine lv_iload_n hx hb dX2_endColumn_33 rfl (lv_at hl 1 rfl) ?_
      refine lv_aload_n hx hb dX2_endColumn_34 rfl (lv_at hl 0 rfl) ?_
      refine va_get (D := xD G) (ci := 2) (v := .ref cA) (C := RX2) (T := TX2) (N := 17) hx hb hts inX2 hown hK hP 0 rfl rfl 0 (by decide) kl40 (fun _ h9 => h9) rfl dX2_endColumn_35 ?_
      refine va_get (D := xD G) (ci := 0) (v := .ref (ca 6)) (C := RX0) (T := TX0) (N := 9) hx hb hts inX0 hown hK hP 5 rfl rfl 6 (by decide) kl206 (fun _ h9 => h9) rfl dX2_endColumn_38 ?_
      refine lv_iload_n hx hb dX2_endColumn_41 rfl (lv_at hl 1 rfl) ?_
      refine x_iald (i := c) hx hb hK hP 7 rfl (by first | omega | assumption) (by omega) dX2_endColumn_42 ?_
      refine x_iast (i := c) hx hb hK hP hD hS 2 rfl (by first | omega | assumption) (by omega) dX2_endColumn_43 (fun H locs hP hD hS => ?_)
      have hP : va_P (xD G) vwCl [oRun rA cA uA ra nob (nI (csC s0)) day last (csA s0) rst, xI G (ra 3) 16 (csP s0), xI G (ra 4) 16 (upd (csN s0) c (bto c)), xI G (ra 6) 16 (csD s0), xZ G (ra 8) 16 (upd (csB s0) c 1), oCards cA ca (nI nc) cn, xI G (ca 5) 16 bfrom, xI G (ca 6) 16 bto] H := hP
      have hD : va_D A [oRun rA cA uA ra nob (nI (csC s0)) day last (csA s0) rst, xI G (ra 3) 16 (csP s0), xI G (ra 4) 16 (upd (csN s0) c (bto c)), xI G (ra 6) 16 (csD s0), xZ G (ra 8) 16 (upd (csB s0) c 1), oCards cA ca (nI nc) cn, xI G (ca 5) 16 bfrom, xI G (ca 6) 16 bto] := hD
      refine lv_goto (tgt := 90) hx hb dX2_endColumn_44 (by decide) ?_
      have eF : ecF bfrom bto nc day s0 c k0 = (csP s0, upd (csN s0) c (bto c), csL s0, csD s0, csW s0, upd (csB s0) c 1, csU s0, csH s0, (csC s0), csA s0) := by unfold ecF; rw [if_pos ⟨c10, c19⟩]
      rw [eF] at hq
      exact hq H locs 90 ls dX2_endColumn_90 (by skip; exact hP) (by skip; exact hD) hS
set_option maxHeartbeats 4000000 in
set_option maxRecDepth 100000 in
theorem mX2_workCard (l : Launch) (G : xG) (rA : Nat) (cA : Nat) (uA : Nat) (ra : Nat → Nat) (nob : Int32) (s0 : CS) (day : Int32) (last : Int32) (rst : Int32) (ca : Nat → Nat) (nc : Nat) (cn : Int32) (bfrom : Nat → Int32) (bto : Nat → Int32) (ua : Nat → Nat) (pac : Int32) (c : Nat) (k0 : Nat)  (hc : c < 16) (hk : k0 < 4) : xM l yX2_workCard wsX2_workCard ({ frames := 1, cells := 0, slots := 0, locals := 22 } : Room) [.ref rA, .int (nI c), .int (nI k0)] G [oRun rA cA uA ra nob (nI (csC s0)) day last (csA s0) rst, xI G (ra 3) 16 (csP s0), xI G (ra 4) 16 (csN s0), xI G (ra 5) 16 (csL s0), xI G (ra 6) 16 (csD s0), xZ G (ra 7) 16 (csW s0), xZ G (ra 8) 16 (csB s0), xI G (ra 9) 16 (csU s0), xI G (ra 11) 4 (csH s0), oCards cA ca (nI nc) cn, xI G (ca 5) 16 bfrom, xI G (ca 6) 16 bto, oRules uA ua pac] [oRun rA cA uA ra nob (nI (csC (wcF bfrom bto nc day pac s0 c k0))) day last (csA (wcF bfrom bto nc day pac s0 c k0)) rst, xI G (ra 3) 16 (csP (wcF bfrom bto nc day pac s0 c k0)), xI G (ra 4) 16 (csN (wcF bfrom bto nc day pac s0 c k0)), xI G (ra 5) 16 (csL (wcF bfrom bto nc day pac s0 c k0)), xI G (ra 6) 16 (csD (wcF bfrom bto nc day pac s0 c k0)), xZ G (ra 7) 16 (csW (wcF bfrom bto nc day pac s0 c k0)), xZ G (ra 8) 16 (csB (wcF bfrom bto nc day pac s0 c k0)), xI G (ra 9) 16 (csU (wcF bfrom bto nc day pac s0 c k0)), xI G (ra 11) 4 (csH (wcF bfrom bto nc day pac s0 c k0)), oCards cA ca (nI nc) cn, xI G (ca 5) 16 bfrom, xI G (ca 6) 16 bto, oRules uA ua pac] := by
  refine xM_of (cc := cX2_workCard) (maxL := 4) (by decide) rfl (Nat.le_of_ble_eq_true rfl) ?_
  intro p e s m below meth cO ls Q A hx hb hml hown hts hP hK hD hS hA hl hq
  have hown : s.vm.findClass RX2 = some m.cls := hown
  have kl18 := hts (.fieldLink RX2 18 "WorkBoard$Run" "left" "[I") (List.mem_of_getElem? (i := 1) rfl)
  have kl34 := hts (.fieldLink RX2 34 "WorkBoard$Run" "handsLeft" "[I") (List.mem_of_getElem? (i := 2) rfl)
  have kl44 := hts (.fieldLink RX2 44 "WorkBoard$Run" "rules" "LWorkBoard$Rules;") (List.mem_of_getElem? (i := 3) rfl)
  have kl192 := hts (.fieldLink RX2 192 "WorkBoard$Rules" "pace" "I") (List.mem_of_getElem? (i := 4) rfl)
  have kl24 := hts (.fieldLink RX2 24 "WorkBoard$Run" "worked" "[Z") (List.mem_of_getElem? (i := 9) rfl)
  have kl158 := hts (.fieldLink RX2 158 "WorkBoard$Run" "active" "Z") (List.mem_of_getElem? (i := 10) rfl)
  have inX1 : ∀ w ∈ u_ws RX1 TX1 4, w ∈ wsX2_workCard := (fun w h => List.mem_cons_of_mem _ (List.mem_append_left _ (List.mem_append_right _ h)))
  have inX2 : ∀ w ∈ u_ws RX2 TX2 17, w ∈ wsX2_workCard := (fun w h => List.mem_cons_of_mem _ (List.mem_append_left _ (List.mem_append_left _ (List.mem_append_right _ h))))
  have hl : lv_has ls 4 [(0, .ref rA), (1, .int (nI c)), (2, .int (nI k0))] := hl
  have hD : va_D A [oRun rA cA uA ra nob (nI (csC s0)) day last (csA s0) rst, xI G (ra 3) 16 (csP s0), xI G (ra 4) 16 (csN s0), xI G (ra 5) 16 (csL s0), xI G (ra 6) 16 (csD s0), xZ G (ra 7) 16 (csW s0), xZ G (ra 8) 16 (csB s0), xI G (ra 9) 16 (csU s0), xI G (ra 11) 4 (csH s0), oCards cA ca (nI nc) cn, xI G (ca 5) 16 bfrom, xI G (ca 6) 16 bto, oRules uA ua pac] := hD
  obtain ⟨H, hH⟩ : ∃ z, z = s.heap := ⟨_, rfl⟩
  obtain ⟨locs, hlocs⟩ : ∃ z : List Loc, z = [] := ⟨_, rfl⟩
  have hS : va_S A s.heap H locs := by rw [hH, hlocs]; exact hS
  have hP : va_P (xD G) vwCl [oRun rA cA uA ra nob (nI (csC s0)) day last (csA s0) rst, xI G (ra 3) 16 (csP s0), xI G (ra 4) 16 (csN s0), xI G (ra 5) 16 (csL s0), xI G (ra 6) 16 (csD s0), xZ G (ra 7) 16 (csW s0), xZ G (ra 8) 16 (csB s0), xI G (ra 9) 16 (csU s0), xI G (ra 11) 4 (csH s0), oCards cA ca (nI nc) cn, xI G (ca 5) 16 bfrom, xI G (ca 6) 16 bto, oRules uA ua pac] H := by rw [hH]; exact hP
  rw [← hH, ← hlocs]
  clear hH hlocs
  refine lv_aload_n hx hb dX2_workCard_0 rfl (lv_at hl 0 rfl) ?_
  refine va_get (D := xD G) (ci := 2) (v := .ref (ra 5)) (C := RX2) (T := TX2) (N := 17) hx hb hts inX2 hown hK hP 0 rfl rfl 5 (by decide) kl18 (fun _ h9 => h9) rfl dX2_workCard_1 ?_
  refine lv_iload_n hx hb dX2_workCard_4 rfl (lv_at hl 1 rfl) ?_
  refine x_iald (i := c) hx hb hK hP 3 rfl (by first | omega | assumption) (by omega) dX2_workCard_5 ?_
  refine lv_aload_n hx hb dX2_workCard_6 rfl (lv_at hl 0 rfl) ?_
  refine va_get (D := xD G) (ci := 2) (v := .ref (ra 11)) (C := RX2) (T := TX2) (N := 17) hx hb hts inX2 hown hK hP 0 rfl rfl 11 (by decide) kl34 (fun _ h9 => h9) rfl dX2_workCard_7 ?_
  refine lv_iload_n hx hb dX2_workCard_10 rfl (lv_at hl 2 rfl) ?_
  refine x_iald (i := k0) hx hb hK hP 8 rfl (by first | omega | assumption) (by omega) dX2_workCard_11 ?_
  refine lv_aload_n hx hb dX2_workCard_12 rfl (lv_at hl 0 rfl) ?_
  refine va_get (D := xD G) (ci := 2) (v := .ref uA) (C := RX2) (T := TX2) (N := 17) hx hb hts inX2 hown hK hP 0 rfl rfl 1 (by decide) kl44 (fun _ h9 => h9) rfl dX2_workCard_13 ?_
  refine va_get (D := xD G) (ci := 1) (v := .int pac) (C := RX1) (T := TX1) (N := 4) hx hb hts inX1 hown hK hP 12 rfl rfl 3 (by decide) kl192 (fun _ h9 => h9) rfl dX2_workCard_16 ?_
  refine va_mmin hx hb (hml.trans hl.1.symm) hown (hts (.methodLink RX2 195 Lib.Math.min.name) (List.mem_of_getElem? (i := 5) rfl)) (hts (.static Lib.Math.min.name) (List.mem_of_getElem? (i := 6) rfl)) (hts (.initialized "java/lang/Math") (List.mem_of_getElem? (i := 7) rfl)) (hts (.code Lib.Math.min.name Lib.Math.min.code 2 (some .int)) (List.mem_of_getElem? (i := 8) rfl)) (Nat.le_of_ble_eq_true rfl) (Nat.le_of_ble_eq_true rfl) (Nat.zero_le _) (Nat.zero_le _) dX2_workCard_19 ?_
  refine x_top (y := mn ((csH s0) k0) pac) rfl ?_
  refine va_mmin hx hb (hml.trans hl.1.symm) hown (hts (.methodLink RX2 195 Lib.Math.min.name) (List.mem_of_getElem? (i := 5) rfl)) (hts (.static Lib.Math.min.name) (List.mem_of_getElem? (i := 6) rfl)) (hts (.initialized "java/lang/Math") (List.mem_of_getElem? (i := 7) rfl)) (hts (.code Lib.Math.min.name Lib.Math.min.code 2 (some .int)) (List.mem_of_getElem? (i := 8) rfl)) (Nat.le_of_ble_eq_true rfl) (Nat.le_of_ble_eq_true rfl) (Nat.zero_le _) (Nat.zero_le _) dX2_workCard_22 ?_
  refine x_top (y := mn ((csL s0) c) (mn ((csH s0) k0) pac)) rfl ?_
  refine lv_istore_n (lv' := [(3, .int (mn ((csL s0) c) (mn ((csH s0) k0) pac))), (0, .ref rA), (1, .int (nI c)), (2, .int (nI k0))]) hx hb dX2_workCard_25 rfl hl (by decide) rfl (fun ls hl => ?_)
  refine lv_aload_n hx hb dX2_workCard_26 rfl (lv_at hl 1 rfl) ?_
  refine va_get (D := xD G) (ci := 2) (v := .ref (ra 5)) (C := RX2) (T := TX2) (N := 17) hx hb hts inX2 hown hK hP 0 rfl rfl 5 (by decide) kl18 (fun _ h9 => h9) rfl dX2_workCard_27 ?_
  refine lv_iload_n hx hb dX2_workCard_30 rfl (lv_at hl 2 rfl) ?_
  refine lv_dup2_11 hx hb dX2_workCard_31 rfl rfl ?_
  refine x_iald (i := c) hx hb hK hP 3 rfl (by first | omega | assumption) (by omega) dX2_workCard_32 ?_
  refine lv_iload_n hx hb dX2_workCard_33 rfl (lv_at hl 0 rfl) ?_
  refine lv_isub hx hb dX2_workCard_34 ?_
  refine x_iast (i := c) hx hb hK hP hD hS 3 rfl (by first | omega | assumption) (by omega) dX2_workCard_35 (fun H locs hP hD hS => ?_)
  have hP : va_P (xD G) vwCl [oRun rA cA uA ra nob (nI (csC s0)) day last (csA s0) rst, xI G (ra 3) 16 (csP s0), xI G (ra 4) 16 (csN s0), xI G (ra 5) 16 (upd (csL s0) c (((csL s0) c) - (mn ((csL s0) c) (mn ((csH s0) k0) pac)))), xI G (ra 6) 16 (csD s0), xZ G (ra 7) 16 (csW s0), xZ G (ra 8) 16 (csB s0), xI G (ra 9) 16 (csU s0), xI G (ra 11) 4 (csH s0), oCards cA ca (nI nc) cn, xI G (ca 5) 16 bfrom, xI G (ca 6) 16 bto, oRules uA ua pac] H := hP
  have hD : va_D A [oRun rA cA uA ra nob (nI (csC s0)) day last (csA s0) rst, xI G (ra 3) 16 (csP s0), xI G (ra 4) 16 (csN s0), xI G (ra 5) 16 (upd (csL s0) c (((csL s0) c) - (mn ((csL s0) c) (mn ((csH s0) k0) pac)))), xI G (ra 6) 16 (csD s0), xZ G (ra 7) 16 (csW s0), xZ G (ra 8) 16 (csB s0), xI G (ra 9) 16 (csU s0), xI G (ra 11) 4 (csH s0), oCards cA ca (nI nc) cn, xI G (ca 5) 16 bfrom, xI G (ca 6) 16 bto, oRules uA ua pac] := hD
  refine lv_aload_n hx hb dX2_workCard_36 rfl (lv_at hl 1 rfl) ?_
  refine va_get (D := xD G) (ci := 2) (v := .ref (ra 11)) (C := RX2) (T := TX2) (N := 17) hx hb hts inX2 hown hK hP 0 rfl rfl 11 (by decide) kl34 (fun _ h9 => h9) rfl dX2_workCard_37 ?_
  refine lv_iload_n hx hb dX2_workCard_40 rfl (lv_at hl 3 rfl) ?_
  refine lv_dup2_11 hx hb dX2_workCard_41 rfl rfl ?_
  refine x_iald (i := k0) hx hb hK hP 8 rfl (by first | omega | assumption) (by omega) dX2_workCard_42 ?_
  refine lv_iload_n hx hb dX2_workCard_43 rfl (lv_at hl 0 rfl) ?_
  refine lv_isub hx hb dX2_workCard_44 ?_
  refine x_iast (i := k0) hx hb hK hP hD hS 8 rfl (by first | omega | assumption) (by omega) dX2_workCard_45 (fun H locs hP hD hS => ?_)
  have hP : va_P (xD G) vwCl [oRun rA cA uA ra nob (nI (csC s0)) day last (csA s0) rst, xI G (ra 3) 16 (csP s0), xI G (ra 4) 16 (csN s0), xI G (ra 5) 16 (upd (csL s0) c (((csL s0) c) - (mn ((csL s0) c) (mn ((csH s0) k0) pac)))), xI G (ra 6) 16 (csD s0), xZ G (ra 7) 16 (csW s0), xZ G (ra 8) 16 (csB s0), xI G (ra 9) 16 (csU s0), xI G (ra 11) 4 (upd (csH s0) k0 (((csH s0) k0) - (mn ((csL s0) c) (mn ((csH s0) k0) pac)))), oCards cA ca (nI nc) cn, xI G (ca 5) 16 bfrom, xI G (ca 6) 16 bto, oRules uA ua pac] H := hP
  have hD : va_D A [oRun rA cA uA ra nob (nI (csC s0)) day last (csA s0) rst, xI G (ra 3) 16 (csP s0), xI G (ra 4) 16 (csN s0), xI G (ra 5) 16 (upd (csL s0) c (((csL s0) c) - (mn ((csL s0) c) (mn ((csH s0) k0) pac)))), xI G (ra 6) 16 (csD s0), xZ G (ra 7) 16 (csW s0), xZ G (ra 8) 16 (csB s0), xI G (ra 9) 16 (csU s0), xI G (ra 11) 4 (upd (csH s0) k0 (((csH s0) k0) - (mn ((csL s0) c) (mn ((csH s0) k0) pac)))), oCards cA ca (nI nc) cn, xI G (ca 5) 16 bfrom, xI G (ca 6) 16 bto, oRules uA ua pac] := hD
  refine lv_aload_n hx hb dX2_workCard_46 rfl (lv_at hl 1 rfl) ?_
  refine va_get (D := xD G) (ci := 2) (v := .ref (ra 5)) (C := RX2) (T := TX2) (N := 17) hx hb hts inX2 hown hK hP 0 rfl rfl 5 (by decide) kl18 (fun _ h9 => h9) rfl dX2_workCard_47 ?_
  refine lv_iload_n hx hb dX2_workCard_50 rfl (lv_at hl 2 rfl) ?_
  refine x_iald (i := c) hx hb hK hP 3 rfl (by first | omega | assumption) (by omega) dX2_workCard_51 ?_
  refine lv_if_ne (x := (upd (csL s0) c (((csL s0) c) - (mn ((csL s0) c) (mn ((csH s0) k0) pac)))) c) (tgt := 61) hx hb dX2_workCard_52 (by decide) (fun c52 => ?_) (fun c52 => ?_)
  · skip
    have eW : wc2 bfrom bto nc day pac s0 c k0 = wc1 pac s0 c k0 := if_neg c52
    refine lv_iload_n hx hb dX2_workCard_61 rfl (lv_at hl 0 rfl) ?_
    refine lv_if_gt (x := mn ((csL s0) c) (mn ((csH s0) k0) pac)) (tgt := 74) hx hb dX2_workCard_62 (by decide) (fun c62 => ?_) (fun c62 => ?_)
    · skip
      refine lv_aload_n hx hb dX2_workCard_74 rfl (lv_at hl 1 rfl) ?_
      refine va_get (D := xD G) (ci := 2) (v := .ref (ra 7)) (C := RX2) (T := TX2) (N := 17) hx hb hts inX2 hown hK hP 0 rfl rfl 7 (by decide) kl24 (fun _ h9 => h9) rfl dX2_workCard_75 ?_
      refine lv_iload_n hx hb dX2_workCard_78 rfl (lv_at hl 2 rfl) ?_
      refine lv_iconst (v := 1) hx hb dX2_workCard_79 (by decide) ?_
      refine x_zast (i := c) hx hb hK hP hD hS 5 rfl (by first | omega | assumption) (by omega) rfl dX2_workCard_80 (fun H locs hP hD hS => ?_)
      have hP : va_P (xD G) vwCl [oRun rA cA uA ra nob (nI (csC s0)) day last (csA s0) rst, xI G (ra 3) 16 (csP s0), xI G (ra 4) 16 (csN s0), xI G (ra 5) 16 (upd (csL s0) c (((csL s0) c) - (mn ((csL s0) c) (mn ((csH s0) k0) pac)))), xI G (ra 6) 16 (csD s0), xZ G (ra 7) 16 (upd (csW s0) c 1), xZ G (ra 8) 16 (csB s0), xI G (ra 9) 16 (csU s0), xI G (ra 11) 4 (upd (csH s0) k0 (((csH s0) k0) - (mn ((csL s0) c) (mn ((csH s0) k0) pac)))), oCards cA ca (nI nc) cn, xI G (ca 5) 16 bfrom, xI G (ca 6) 16 bto, oRules uA ua pac] H := hP
      have hD : va_D A [oRun rA cA uA ra nob (nI (csC s0)) day last (csA s0) rst, xI G (ra 3) 16 (csP s0), xI G (ra 4) 16 (csN s0), xI G (ra 5) 16 (upd (csL s0) c (((csL s0) c) - (mn ((csL s0) c) (mn ((csH s0) k0) pac)))), xI G (ra 6) 16 (csD s0), xZ G (ra 7) 16 (upd (csW s0) c 1), xZ G (ra 8) 16 (csB s0), xI G (ra 9) 16 (csU s0), xI G (ra 11) 4 (upd (csH s0) k0 (((csH s0) k0) - (mn ((csL s0) c) (mn ((csH s0) k0) pac)))), oCards cA ca (nI nc) cn, xI G (ca 5) 16 bfrom, xI G (ca 6) 16 bto, oRules uA ua pac] := hD
      refine lv_aload_n hx hb dX2_workCard_81 rfl (lv_at hl 1 rfl) ?_
      refine lv_iconst (v := 1) hx hb dX2_workCard_82 (by decide) ?_
      refine va_put (D := xD G) (ci := 2) (v := .int 1) (ty := .boolean) (C := RX2) (T := TX2) (N := 17) hx hb hts inX2 tyX2 tyX2_ok nmX2 hown hK hP hD hS 0 rfl rfl 15 (by decide) kl158 (fun _ h9 => h9) rfl (by decide +kernel) rfl rfl (Nat.le_of_ble_eq_true rfl) dX2_workCard_83 (fun H locs hP hD hS => ?_)
      have hP : va_P (xD G) vwCl [oRun rA cA uA ra nob (nI (csC s0)) day last 1 rst, xI G (ra 3) 16 (csP s0), xI G (ra 4) 16 (csN s0), xI G (ra 5) 16 (upd (csL s0) c (((csL s0) c) - (mn ((csL s0) c) (mn ((csH s0) k0) pac)))), xI G (ra 6) 16 (csD s0), xZ G (ra 7) 16 (upd (csW s0) c 1), xZ G (ra 8) 16 (csB s0), xI G (ra 9) 16 (csU s0), xI G (ra 11) 4 (upd (csH s0) k0 (((csH s0) k0) - (mn ((csL s0) c) (mn ((csH s0) k0) pac)))), oCards cA ca (nI nc) cn, xI G (ca 5) 16 bfrom, xI G (ca 6) 16 bto, oRules uA ua pac] H := hP
      have hD : va_D A [oRun rA cA uA ra nob (nI (csC s0)) day last 1 rst, xI G (ra 3) 16 (csP s0), xI G (ra 4) 16 (csN s0), xI G (ra 5) 16 (upd (csL s0) c (((csL s0) c) - (mn ((csL s0) c) (mn ((csH s0) k0) pac)))), xI G (ra 6) 16 (csD s0), xZ G (ra 7) 16 (upd (csW s0) c 1), xZ G (ra 8) 16 (csB s0), xI G (ra 9) 16 (csU s0), xI G (ra 11) 4 (upd (csH s0) k0 (((csH s0) k0) - (mn ((csL s0) c) (mn ((csH s0) k0) pac)))), oCards cA ca (nI nc) cn, xI G (ca 5) 16 bfrom, xI G (ca 6) 16 bto, oRules uA ua pac] := hD
      have eF : wcF bfrom bto nc day pac s0 c k0 = wcW (wc2 bfrom bto nc day pac s0 c k0) c := by first | exact if_pos (Or.inl c62) | exact if_pos (Or.inr (by rw [eW, ecF_L]; exact c52))
      rw [eF, eW] at hq
      try simp only [wcW_P, wcW_N, wcW_L, wcW_D, wcW_W, wcW_B, wcW_U, wcW_H, wcW_C, wcW_A, ecF_L, ecF_W, ecF_U, ecF_H, ecF_C, ecF_A] at hq hP hD
      exact hq H locs 86 ls dX2_workCard_86 (by skip; exact hP) (by skip; exact hD) hS
    · skip
      refine lv_aload_n hx hb dX2_workCard_65 rfl (lv_at hl 1 rfl) ?_
      refine va_get (D := xD G) (ci := 2) (v := .ref (ra 5)) (C := RX2) (T := TX2) (N := 17) hx hb hts inX2 hown hK hP 0 rfl rfl 5 (by decide) kl18 (fun _ h9 => h9) rfl dX2_workCard_66 ?_
      refine lv_iload_n hx hb dX2_workCard_69 rfl (lv_at hl 2 rfl) ?_
      refine x_iald (i := c) hx hb hK hP 3 rfl (by first | omega | assumption) (by omega) dX2_workCard_70 ?_
      refine lv_if_ne (x := (upd (csL s0) c (((csL s0) c) - (mn ((csL s0) c) (mn ((csH s0) k0) pac)))) c) (tgt := 86) hx hb dX2_workCard_71 (by decide) (fun c71 => ?_) (fun c71 => ?_)
      · skip
        have eF : wcF bfrom bto nc day pac s0 c k0 = wc2 bfrom bto nc day pac s0 c k0 := if_neg (fun h => h.elim c62 (fun z => c52 (by rw [eW] at z; exact z)))
        rw [eF, eW] at hq
        try simp only [wcW_P, wcW_N, wcW_L, wcW_D, wcW_W, wcW_B, wcW_U, wcW_H, wcW_C, wcW_A, ecF_L, ecF_W, ecF_U, ecF_H, ecF_C, ecF_A] at hq hP hD
        exact hq H locs 86 ls dX2_workCard_86 (by skip; exact hP) (by skip; exact hD) hS
      · skip
        exact absurd c71 c52
  · skip
    have eW : wc2 bfrom bto nc day pac s0 c k0 = ecF bfrom bto nc day (wc1 pac s0 c k0) c k0 := if_pos c52
    refine lv_aload_n hx hb dX2_workCard_55 rfl (lv_at hl 1 rfl) ?_
    refine lv_iload_n hx hb dX2_workCard_56 rfl (lv_at hl 2 rfl) ?_
    refine lv_iload_n hx hb dX2_workCard_57 rfl (lv_at hl 3 rfl) ?_
    refine x_callM (As := [.int (nI c), .int (nI k0)]) (rest := []) (w2 := [oRun rA cA uA ra nob (nI (csC (ecF bfrom bto nc day (wc1 pac s0 c k0) c k0))) day last (csA (ecF bfrom bto nc day (wc1 pac s0 c k0) c k0)) rst, xI G (ra 3) 16 (csP (ecF bfrom bto nc day (wc1 pac s0 c k0) c k0)), xI G (ra 4) 16 (csN (ecF bfrom bto nc day (wc1 pac s0 c k0) c k0)), xI G (ra 5) 16 (upd (csL s0) c (((csL s0) c) - (mn ((csL s0) c) (mn ((csH s0) k0) pac)))), xI G (ra 6) 16 (csD (ecF bfrom bto nc day (wc1 pac s0 c k0) c k0)), xZ G (ra 7) 16 (csW s0), xZ G (ra 8) 16 (csB (ecF bfrom bto nc day (wc1 pac s0 c k0) c k0)), xI G (ra 9) 16 (csU s0), xI G (ra 11) 4 (upd (csH s0) k0 (((csH s0) k0) - (mn ((csL s0) c) (mn ((csH s0) k0) pac)))), oCards cA ca (nI nc) cn, xI G (ca 5) 16 bfrom, xI G (ca 6) 16 bto, oRules uA ua pac]) (wr := [xI G (ra 5) 16 (upd (csL s0) c (((csL s0) c) - (mn ((csL s0) c) (mn ((csH s0) k0) pac)))), xZ G (ra 7) 16 (csW s0), xI G (ra 9) 16 (csU s0), xI G (ra 11) 4 (upd (csH s0) k0 (((csH s0) k0) - (mn ((csL s0) c) (mn ((csH s0) k0) pac)))), oRules uA ua pac]) (ci := 2) (q0 := 0) ⟨hx, hb, hml, hown, hts⟩ (mX2_endColumn l G rA cA uA ra nob (wc1 pac s0 c k0) day last rst ca nc cn bfrom bto c k0 (by first | assumption | omega) (by first | assumption | omega)) (cwV 2 hts gX2_workCard_X2_endColumn rfl rfl rfl (by decide +kernel) ⟨Nat.le_of_ble_eq_true rfl, Nat.le_of_ble_eq_true rfl⟩) hK hP hD hS hA [0, 1, 2, 4, 6, 9, 10, 11] [3, 5, 7, 8, 12] [5, 6, 7, 0, 8, 1, 9, 2, 3, 10, 11, 12, 4] rfl rfl rfl rfl rfl (by decide) rfl rfl rfl rfl rfl rfl rfl hl.1 rfl (Nat.le_of_ble_eq_true rfl) dX2_workCard_58 ⟨Nat.zero_le _, Nat.zero_le _⟩ (fun H locs hP hD hS => ?_)
    refine lv_iload_n hx hb dX2_workCard_61 rfl (lv_at hl 0 rfl) ?_
    refine lv_if_gt (x := mn ((csL s0) c) (mn ((csH s0) k0) pac)) (tgt := 74) hx hb dX2_workCard_62 (by decide) (fun c62 => ?_) (fun c62 => ?_)
    · skip
      refine lv_aload_n hx hb dX2_workCard_74 rfl (lv_at hl 1 rfl) ?_
      refine va_get (D := xD G) (ci := 2) (v := .ref (ra 7)) (C := RX2) (T := TX2) (N := 17) hx hb hts inX2 hown hK hP 0 rfl rfl 7 (by decide) kl24 (fun _ h9 => h9) rfl dX2_workCard_75 ?_
      refine lv_iload_n hx hb dX2_workCard_78 rfl (lv_at hl 2 rfl) ?_
      refine lv_iconst (v := 1) hx hb dX2_workCard_79 (by decide) ?_
      refine x_zast (i := c) hx hb hK hP hD hS 5 rfl (by first | omega | assumption) (by omega) rfl dX2_workCard_80 (fun H locs hP hD hS => ?_)
      have hP : va_P (xD G) vwCl [oRun rA cA uA ra nob (nI (csC (ecF bfrom bto nc day (wc1 pac s0 c k0) c k0))) day last (csA (ecF bfrom bto nc day (wc1 pac s0 c k0) c k0)) rst, xI G (ra 3) 16 (csP (ecF bfrom bto nc day (wc1 pac s0 c k0) c k0)), xI G (ra 4) 16 (csN (ecF bfrom bto nc day (wc1 pac s0 c k0) c k0)), xI G (ra 5) 16 (upd (csL s0) c (((csL s0) c) - (mn ((csL s0) c) (mn ((csH s0) k0) pac)))), xI G (ra 6) 16 (csD (ecF bfrom bto nc day (wc1 pac s0 c k0) c k0)), xZ G (ra 7) 16 (upd (csW s0) c 1), xZ G (ra 8) 16 (csB (ecF bfrom bto nc day (wc1 pac s0 c k0) c k0)), xI G (ra 9) 16 (csU s0), xI G (ra 11) 4 (upd (csH s0) k0 (((csH s0) k0) - (mn ((csL s0) c) (mn ((csH s0) k0) pac)))), oCards cA ca (nI nc) cn, xI G (ca 5) 16 bfrom, xI G (ca 6) 16 bto, oRules uA ua pac] H := hP
      have hD : va_D A [oRun rA cA uA ra nob (nI (csC (ecF bfrom bto nc day (wc1 pac s0 c k0) c k0))) day last (csA (ecF bfrom bto nc day (wc1 pac s0 c k0) c k0)) rst, xI G (ra 3) 16 (csP (ecF bfrom bto nc day (wc1 pac s0 c k0) c k0)), xI G (ra 4) 16 (csN (ecF bfrom bto nc day (wc1 pac s0 c k0) c k0)), xI G (ra 5) 16 (upd (csL s0) c (((csL s0) c) - (mn ((csL s0) c) (mn ((csH s0) k0) pac)))), xI G (ra 6) 16 (csD (ecF bfrom bto nc day (wc1 pac s0 c k0) c k0)), xZ G (ra 7) 16 (upd (csW s0) c 1), xZ G (ra 8) 16 (csB (ecF bfrom bto nc day (wc1 pac s0 c k0) c k0)), xI G (ra 9) 16 (csU s0), xI G (ra 11) 4 (upd (csH s0) k0 (((csH s0) k0) - (mn ((csL s0) c) (mn ((csH s0) k0) pac)))), oCards cA ca (nI nc) cn, xI G (ca 5) 16 bfrom, xI G (ca 6) 16 bto, oRules uA ua pac] := hD
      refine lv_aload_n hx hb dX2_workCard_81 rfl (lv_at hl 1 rfl) ?_
      refine lv_iconst (v := 1) hx hb dX2_workCard_82 (by decide) ?_
      refine va_put (D := xD G) (ci := 2) (v := .int 1) (ty := .boolean) (C := RX2) (T := TX2) (N := 17) hx hb hts inX2 tyX2 tyX2_ok nmX2 hown hK hP hD hS 0 rfl rfl 15 (by decide) kl158 (fun _ h9 => h9) rfl (by decide +kernel) rfl rfl (Nat.le_of_ble_eq_true rfl) dX2_workCard_83 (fun H locs hP hD hS => ?_)
      have hP : va_P (xD G) vwCl [oRun rA cA uA ra nob (nI (csC (ecF bfrom bto nc day (wc1 pac s0 c k0) c k0))) day last 1 rst, xI G (ra 3) 16 (csP (ecF bfrom bto nc day (wc1 pac s0 c k0) c k0)), xI G (ra 4) 16 (csN (ecF bfrom bto nc day (wc1 pac s0 c k0) c k0)), xI G (ra 5) 16 (upd (csL s0) c (((csL s0) c) - (mn ((csL s0) c) (mn ((csH s0) k0) pac)))), xI G (ra 6) 16 (csD (ecF bfrom bto nc day (wc1 pac s0 c k0) c k0)), xZ G (ra 7) 16 (upd (csW s0) c 1), xZ G (ra 8) 16 (csB (ecF bfrom bto nc day (wc1 pac s0 c k0) c k0)), xI G (ra 9) 16 (csU s0), xI G (ra 11) 4 (upd (csH s0) k0 (((csH s0) k0) - (mn ((csL s0) c) (mn ((csH s0) k0) pac)))), oCards cA ca (nI nc) cn, xI G (ca 5) 16 bfrom, xI G (ca 6) 16 bto, oRules uA ua pac] H := hP
      have hD : va_D A [oRun rA cA uA ra nob (nI (csC (ecF bfrom bto nc day (wc1 pac s0 c k0) c k0))) day last 1 rst, xI G (ra 3) 16 (csP (ecF bfrom bto nc day (wc1 pac s0 c k0) c k0)), xI G (ra 4) 16 (csN (ecF bfrom bto nc day (wc1 pac s0 c k0) c k0)), xI G (ra 5) 16 (upd (csL s0) c (((csL s0) c) - (mn ((csL s0) c) (mn ((csH s0) k0) pac)))), xI G (ra 6) 16 (csD (ecF bfrom bto nc day (wc1 pac s0 c k0) c k0)), xZ G (ra 7) 16 (upd (csW s0) c 1), xZ G (ra 8) 16 (csB (ecF bfrom bto nc day (wc1 pac s0 c k0) c k0)), xI G (ra 9) 16 (csU s0), xI G (ra 11) 4 (upd (csH s0) k0 (((csH s0) k0) - (mn ((csL s0) c) (mn ((csH s0) k0) pac)))), oCards cA ca (nI nc) cn, xI G (ca 5) 16 bfrom, xI G (ca 6) 16 bto, oRules uA ua pac] := hD
      have eF : wcF bfrom bto nc day pac s0 c k0 = wcW (wc2 bfrom bto nc day pac s0 c k0) c := by first | exact if_pos (Or.inl c62) | exact if_pos (Or.inr (by rw [eW, ecF_L]; exact c52))
      rw [eF, eW] at hq
      try simp only [wcW_P, wcW_N, wcW_L, wcW_D, wcW_W, wcW_B, wcW_U, wcW_H, wcW_C, wcW_A, ecF_L, ecF_W, ecF_U, ecF_H, ecF_C, ecF_A] at hq hP hD
      exact hq H locs 86 ls dX2_workCard_86 (by skip; exact hP) (by skip; exact hD) hS
    · skip
      refine lv_aload_n hx hb dX2_workCard_65 rfl (lv_at hl 1 rfl) ?_
      refine va_get (D := xD G) (ci := 2) (v := .ref (ra 5)) (C := RX2) (T := TX2) (N := 17) hx hb hts inX2 hown hK hP 0 rfl rfl 5 (by decide) kl18 (fun _ h9 => h9) rfl dX2_workCard_66 ?_
      refine lv_iload_n hx hb dX2_workCard_69 rfl (lv_at hl 2 rfl) ?_
      refine x_iald (i := c) hx hb hK hP 3 rfl (by first | omega | assumption) (by omega) dX2_workCard_70 ?_
      refine lv_if_ne (x := (upd (csL s0) c (((csL s0) c) - (mn ((csL s0) c) (mn ((csH s0) k0) pac)))) c) (tgt := 86) hx hb dX2_workCard_71 (by decide) (fun c71 => ?_) (fun c71 => ?_)
      · skip
        exact absurd c52 c71
      · skip
        refine lv_aload_n hx hb dX2_workCard_74 rfl (lv_at hl 1 rfl) ?_
        refine va_get (D := xD G) (ci := 2) (v := .ref (ra 7)) (C := RX2) (T := TX2) (N := 17) hx hb hts inX2 hown hK hP 0 rfl rfl 7 (by decide) kl24 (fun _ h9 => h9) rfl dX2_workCard_75 ?_
        refine lv_iload_n hx hb dX2_workCard_78 rfl (lv_at hl 2 rfl) ?_
        refine lv_iconst (v := 1) hx hb dX2_workCard_79 (by decide) ?_
        refine x_zast (i := c) hx hb hK hP hD hS 5 rfl (by first | omega | assumption) (by omega) rfl dX2_workCard_80 (fun H locs hP hD hS => ?_)
        have hP : va_P (xD G) vwCl [oRun rA cA uA ra nob (nI (csC (ecF bfrom bto nc day (wc1 pac s0 c k0) c k0))) day last (csA (ecF bfrom bto nc day (wc1 pac s0 c k0) c k0)) rst, xI G (ra 3) 16 (csP (ecF bfrom bto nc day (wc1 pac s0 c k0) c k0)), xI G (ra 4) 16 (csN (ecF bfrom bto nc day (wc1 pac s0 c k0) c k0)), xI G (ra 5) 16 (upd (csL s0) c (((csL s0) c) - (mn ((csL s0) c) (mn ((csH s0) k0) pac)))), xI G (ra 6) 16 (csD (ecF bfrom bto nc day (wc1 pac s0 c k0) c k0)), xZ G (ra 7) 16 (upd (csW s0) c 1), xZ G (ra 8) 16 (csB (ecF bfrom bto nc day (wc1 pac s0 c k0) c k0)), xI G (ra 9) 16 (csU s0), xI G (ra 11) 4 (upd (csH s0) k0 (((csH s0) k0) - (mn ((csL s0) c) (mn ((csH s0) k0) pac)))), oCards cA ca (nI nc) cn, xI G (ca 5) 16 bfrom, xI G (ca 6) 16 bto, oRules uA ua pac] H := hP
        have hD : va_D A [oRun rA cA uA ra nob (nI (csC (ecF bfrom bto nc day (wc1 pac s0 c k0) c k0))) day last (csA (ecF bfrom bto nc day (wc1 pac s0 c k0) c k0)) rst, xI G (ra 3) 16 (csP (ecF bfrom bto nc day (wc1 pac s0 c k0) c k0)), xI G (ra 4) 16 (csN (ecF bfrom bto nc day (wc1 pac s0 c k0) c k0)), xI G (ra 5) 16 (upd (csL s0) c (((csL s0) c) - (mn ((csL s0) c) (mn ((csH s0) k0) pac)))), xI G (ra 6) 16 (csD (ecF bfrom bto nc day (wc1 pac s0 c k0) c k0)), xZ G (ra 7) 16 (upd (csW s0) c 1), xZ G (ra 8) 16 (csB (ecF bfrom bto nc day (wc1 pac s0 c k0) c k0)), xI G (ra 9) 16 (csU s0), xI G (ra 11) 4 (upd (csH s0) k0 (((csH s0) k0) - (mn ((csL s0) c) (mn ((csH s0) k0) pac)))), oCards cA ca (nI nc) cn, xI G (ca 5) 16 bfrom, xI G (ca 6) 16 bto, oRules uA ua pac] := hD
        refine lv_aload_n hx hb dX2_workCard_81 rfl (lv_at hl 1 rfl) ?_
        refine lv_iconst (v := 1) hx hb dX2_workCard_82 (by decide) ?_
        refine va_put (D := xD G) (ci := 2) (v := .int 1) (ty := .boolean) (C := RX2) (T := TX2) (N := 17) hx hb hts inX2 tyX2 tyX2_ok nmX2 hown hK hP hD hS 0 rfl rfl 15 (by decide) kl158 (fun _ h9 => h9) rfl (by decide +kernel) rfl rfl (Nat.le_of_ble_eq_true rfl) dX2_workCard_83 (fun H locs hP hD hS => ?_)
        have hP : va_P (xD G) vwCl [oRun rA cA uA ra nob (nI (csC (ecF bfrom bto nc day (wc1 pac s0 c k0) c k0))) day last 1 rst, xI G (ra 3) 16 (csP (ecF bfrom bto nc day (wc1 pac s0 c k0) c k0)), xI G (ra 4) 16 (csN (ecF bfrom bto nc day (wc1 pac s0 c k0) c k0)), xI G (ra 5) 16 (upd (csL s0) c (((csL s0) c) - (mn ((csL s0) c) (mn ((csH s0) k0) pac)))), xI G (ra 6) 16 (csD (ecF bfrom bto nc day (wc1 pac s0 c k0) c k0)), xZ G (ra 7) 16 (upd (csW s0) c 1), xZ G (ra 8) 16 (csB (ecF bfrom bto nc day (wc1 pac s0 c k0) c k0)), xI G (ra 9) 16 (csU s0), xI G (ra 11) 4 (upd (csH s0) k0 (((csH s0) k0) - (mn ((csL s0) c) (mn ((csH s0) k0) pac)))), oCards cA ca (nI nc) cn, xI G (ca 5) 16 bfrom, xI G (ca 6) 16 bto, oRules uA ua pac] H := hP
        have hD : va_D A [oRun rA cA uA ra nob (nI (csC (ecF bfrom bto nc day (wc1 pac s0 c k0) c k0))) day last 1 rst, xI G (ra 3) 16 (csP (ecF bfrom bto nc day (wc1 pac s0 c k0) c k0)), xI G (ra 4) 16 (csN (ecF bfrom bto nc day (wc1 pac s0 c k0) c k0)), xI G (ra 5) 16 (upd (csL s0) c (((csL s0) c) - (mn ((csL s0) c) (mn ((csH s0) k0) pac)))), xI G (ra 6) 16 (csD (ecF bfrom bto nc day (wc1 pac s0 c k0) c k0)), xZ G (ra 7) 16 (upd (csW s0) c 1), xZ G (ra 8) 16 (csB (ecF bfrom bto nc day (wc1 pac s0 c k0) c k0)), xI G (ra 9) 16 (csU s0), xI G (ra 11) 4 (upd (csH s0) k0 (((csH s0) k0) - (mn ((csL s0) c) (mn ((csH s0) k0) pac)))), oCards cA ca (nI nc) cn, xI G (ca 5) 16 bfrom, xI G (ca 6) 16 bto, oRules uA ua pac] := hD
        have eF : wcF bfrom bto nc day pac s0 c k0 = wcW (wc2 bfrom bto nc day pac s0 c k0) c := by first | exact if_pos (Or.inl c62) | exact if_pos (Or.inr (by rw [eW, ecF_L]; exact c52))
        rw [eF, eW] at hq
        try simp only [wcW_P, wcW_N, wcW_L, wcW_D, wcW_W, wcW_B, wcW_U, wcW_H, wcW_C, wcW_A, ecF_L, ecF_W, ecF_U, ecF_H, ecF_C, ecF_A] at hq hP hD
        exact hq H locs 86 ls dX2_workCard_86 (by skip; exact hP) (by skip; exact hD) hS
set_option maxHeartbeats 4000000 in
set_option maxRecDepth 100000 in
theorem mX2_beginDay (l : Launch) (G : xG) (rA : Nat) (cA : Nat) (uA : Nat) (ra : Nat → Nat) (nob : Int32) (s0 : CS) (j0 : Nat) (last : Int32) (rst : Int32) (ca : Nat → Nat) (cols : Int32) (n : Nat) (cday : Nat → Int32)  (hn : n ≤ 16) : xM l yX2_beginDay wsX2_beginDay ({ frames := 0, cells := 0, slots := 0, locals := 0 } : Room) [.ref rA] G [oRun rA cA uA ra nob (nI (csC s0)) (dn j0) last (csA s0) rst, xI G (ra 3) 16 (csP s0), xI G (ra 4) 16 (csN s0), xI G (ra 5) 16 (csL s0), xI G (ra 6) 16 (csD s0), xZ G (ra 7) 16 (csW s0), xZ G (ra 8) 16 (csB s0), xI G (ra 9) 16 (csU s0), xI G (ra 11) 4 (csH s0), oCards cA ca cols (nI n), xI G (ca 2) 16 cday] [oRun rA cA uA ra nob (nI (csC (bgF cday n (nI j0) s0))) (nI j0) last (csA (bgF cday n (nI j0) s0)) rst, xI G (ra 3) 16 (csP (bgF cday n (nI j0) s0)), xI G (ra 4) 16 (csN (bgF cday n (nI j0) s0)), xI G (ra 5) 16 (csL (bgF cday n (nI j0) s0)), xI G (ra 6) 16 (csD (bgF cday n (nI j0) s0)), xZ G (ra 7) 16 (csW (bgF cday n (nI j0) s0)), xZ G (ra 8) 16 (csB (bgF cday n (nI j0) s0)), xI G (ra 9) 16 (csU (bgF cday n (nI j0) s0)), xI G (ra 11) 4 (csH (bgF cday n (nI j0) s0)), oCards cA ca cols (nI n), xI G (ca 2) 16 cday] := by
  refine xM_of (cc := cX2_beginDay) (maxL := 2) (by decide) rfl (Nat.le_of_ble_eq_true rfl) ?_
  intro p e s m below meth cO ls Q A hx hb hml hown hts hP hK hD hS hA hl hq
  have hown : s.vm.findClass RX2 = some m.cls := hown
  have kl62 := hts (.fieldLink RX2 62 "WorkBoard$Run" "day" "I") (List.mem_of_getElem? (i := 1) rfl)
  have kl158 := hts (.fieldLink RX2 158 "WorkBoard$Run" "active" "Z") (List.mem_of_getElem? (i := 2) rfl)
  have kl40 := hts (.fieldLink RX2 40 "WorkBoard$Run" "cards" "LWorkBoard$Cards;") (List.mem_of_getElem? (i := 3) rfl)
  have kl99 := hts (.fieldLink RX2 99 "WorkBoard$Cards" "count" "I") (List.mem_of_getElem? (i := 4) rfl)
  have kl24 := hts (.fieldLink RX2 24 "WorkBoard$Run" "worked" "[Z") (List.mem_of_getElem? (i := 5) rfl)
  have kl91 := hts (.fieldLink RX2 91 "WorkBoard$Cards" "day" "[I") (List.mem_of_getElem? (i := 6) rfl)
  have kl9 := hts (.fieldLink RX2 9 "WorkBoard$Run" "place" "[I") (List.mem_of_getElem? (i := 7) rfl)
  have kl15 := hts (.fieldLink RX2 15 "WorkBoard$Run" "next" "[I") (List.mem_of_getElem? (i := 8) rfl)
  have inX0 : ∀ w ∈ u_ws RX0 TX0 9, w ∈ wsX2_beginDay := (fun w h => List.mem_cons_of_mem _ (List.mem_append_right _ h))
  have inX2 : ∀ w ∈ u_ws RX2 TX2 17, w ∈ wsX2_beginDay := (fun w h => List.mem_cons_of_mem _ (List.mem_append_left _ (List.mem_append_right _ h)))
  have hl : lv_has ls 2 [(0, .ref rA)] := hl
  have hD : va_D A [oRun rA cA uA ra nob (nI (csC s0)) (dn j0) last (csA s0) rst, xI G (ra 3) 16 (csP s0), xI G (ra 4) 16 (csN s0), xI G (ra 5) 16 (csL s0), xI G (ra 6) 16 (csD s0), xZ G (ra 7) 16 (csW s0), xZ G (ra 8) 16 (csB s0), xI G (ra 9) 16 (csU s0), xI G (ra 11) 4 (csH s0), oCards cA ca cols (nI n), xI G (ca 2) 16 cday] := hD
  obtain ⟨H, hH⟩ : ∃ z, z = s.heap := ⟨_, rfl⟩
  obtain ⟨locs, hlocs⟩ : ∃ z : List Loc, z = [] := ⟨_, rfl⟩
  have hS : va_S A s.heap H locs := by rw [hH, hlocs]; exact hS
  have hP : va_P (xD G) vwCl [oRun rA cA uA ra nob (nI (csC s0)) (dn j0) last (csA s0) rst, xI G (ra 3) 16 (csP s0), xI G (ra 4) 16 (csN s0), xI G (ra 5) 16 (csL s0), xI G (ra 6) 16 (csD s0), xZ G (ra 7) 16 (csW s0), xZ G (ra 8) 16 (csB s0), xI G (ra 9) 16 (csU s0), xI G (ra 11) 4 (csH s0), oCards cA ca cols (nI n), xI G (ca 2) 16 cday] H := by rw [hH]; exact hP
  rw [← hH, ← hlocs]
  clear hH hlocs
  refine lv_aload_n hx hb dX2_beginDay_0 rfl (lv_at hl 0 rfl) ?_
  refine lv_dup hx hb dX2_beginDay_1 rfl ?_
  refine va_get (D := xD G) (ci := 2) (v := .int (dn j0)) (C := RX2) (T := TX2) (N := 17) hx hb hts inX2 hown hK hP 0 rfl rfl 13 (by decide) kl62 (fun _ h9 => h9) rfl dX2_beginDay_2 ?_
  refine lv_iconst (v := 1) hx hb dX2_beginDay_5 (by decide) ?_
  refine lv_iadd hx hb dX2_beginDay_6 ?_
  refine x_top (y := nI j0) (dn_1 j0) ?_
  refine va_put (D := xD G) (ci := 2) (v := .int (nI j0)) (ty := .int) (C := RX2) (T := TX2) (N := 17) hx hb hts inX2 tyX2 tyX2_ok nmX2 hown hK hP hD hS 0 rfl rfl 13 (by decide) kl62 (fun _ h9 => h9) rfl (by decide +kernel) rfl rfl (Nat.le_of_ble_eq_true rfl) dX2_beginDay_7 (fun H locs hP hD hS => ?_)
  have hP : va_P (xD G) vwCl [oRun rA cA uA ra nob (nI (csC s0)) (nI j0) last (csA s0) rst, xI G (ra 3) 16 (csP s0), xI G (ra 4) 16 (csN s0), xI G (ra 5) 16 (csL s0), xI G (ra 6) 16 (csD s0), xZ G (ra 7) 16 (csW s0), xZ G (ra 8) 16 (csB s0), xI G (ra 9) 16 (csU s0), xI G (ra 11) 4 (csH s0), oCards cA ca cols (nI n), xI G (ca 2) 16 cday] H := hP
  have hD : va_D A [oRun rA cA uA ra nob (nI (csC s0)) (nI j0) last (csA s0) rst, xI G (ra 3) 16 (csP s0), xI G (ra 4) 16 (csN s0), xI G (ra 5) 16 (csL s0), xI G (ra 6) 16 (csD s0), xZ G (ra 7) 16 (csW s0), xZ G (ra 8) 16 (csB s0), xI G (ra 9) 16 (csU s0), xI G (ra 11) 4 (csH s0), oCards cA ca cols (nI n), xI G (ca 2) 16 cday] := hD
  refine lv_aload_n hx hb dX2_beginDay_10 rfl (lv_at hl 0 rfl) ?_
  refine lv_iconst (v := 0) hx hb dX2_beginDay_11 (by decide) ?_
  refine va_put (D := xD G) (ci := 2) (v := .int 0) (ty := .boolean) (C := RX2) (T := TX2) (N := 17) hx hb hts inX2 tyX2 tyX2_ok nmX2 hown hK hP hD hS 0 rfl rfl 15 (by decide) kl158 (fun _ h9 => h9) rfl (by decide +kernel) rfl rfl (Nat.le_of_ble_eq_true rfl) dX2_beginDay_12 (fun H locs hP hD hS => ?_)
  have hP : va_P (xD G) vwCl [oRun rA cA uA ra nob (nI (csC s0)) (nI j0) last 0 rst, xI G (ra 3) 16 (csP s0), xI G (ra 4) 16 (csN s0), xI G (ra 5) 16 (csL s0), xI G (ra 6) 16 (csD s0), xZ G (ra 7) 16 (csW s0), xZ G (ra 8) 16 (csB s0), xI G (ra 9) 16 (csU s0), xI G (ra 11) 4 (csH s0), oCards cA ca cols (nI n), xI G (ca 2) 16 cday] H := hP
  have hD : va_D A [oRun rA cA uA ra nob (nI (csC s0)) (nI j0) last 0 rst, xI G (ra 3) 16 (csP s0), xI G (ra 4) 16 (csN s0), xI G (ra 5) 16 (csL s0), xI G (ra 6) 16 (csD s0), xZ G (ra 7) 16 (csW s0), xZ G (ra 8) 16 (csB s0), xI G (ra 9) 16 (csU s0), xI G (ra 11) 4 (csH s0), oCards cA ca cols (nI n), xI G (ca 2) 16 cday] := hD
  refine lv_iconst (v := 0) hx hb dX2_beginDay_15 (by decide) ?_
  refine lv_istore_n (lv' := [(1, .int 0), (0, .ref rA)]) hx hb dX2_beginDay_16 rfl hl (by decide) rfl (fun ls hl => ?_)
  have L17 : ∀ (kk17 i : Nat) (s1 : CS), i ≤ n → n + 1 ≤ i + kk17 → (s1 = itN (bgB cday (nI j0)) (bg0 s0) i) → ∀ (H : Heap) (locs : List Loc), va_P (xD G) vwCl [oRun rA cA uA ra nob (nI (csC s1)) (nI j0) last (csA s1) rst, xI G (ra 3) 16 (csP s1), xI G (ra 4) 16 (csN s1), xI G (ra 5) 16 (csL s1), xI G (ra 6) 16 (csD s1), xZ G (ra 7) 16 (csW s1), xZ G (ra 8) 16 (csB s1), xI G (ra 9) 16 (csU s1), xI G (ra 11) 4 (csH s1), oCards cA ca cols (nI n), xI G (ca 2) 16 cday] H → va_D A [oRun rA cA uA ra nob (nI (csC s1)) (nI j0) last (csA s1) rst, xI G (ra 3) 16 (csP s1), xI G (ra 4) 16 (csN s1), xI G (ra 5) 16 (csL s1), xI G (ra 6) 16 (csD s1), xZ G (ra 7) 16 (csW s1), xZ G (ra 8) 16 (csB s1), xI G (ra 9) 16 (csU s1), xI G (ra 11) 4 (csH s1), oCards cA ca cols (nI n), xI G (ca 2) 16 cday] → va_S A s.heap H locs → ∀ (ls : Array Slot), lv_has ls 2 [(1, .int (nI i)), (0, .ref rA)] → W p l e ({ frames := 0, cells := 0, slots := 0, locals := 0 } : Room) s m #[Value.ref rA] below meth cO H locs 0 0 Q (F0 m 17 ls []) := by
    intro kk17
    induction kk17 with
    | zero => intro i s1 h1 h2; exact absurd h2 (by omega)
    | succ kk17 ih17 =>
      intro i s1 hi17 hk17 es H locs hP hD hS ls hl
      refine lv_iload_n hx hb dX2_beginDay_17 rfl (lv_at hl 0 rfl) ?_
      refine lv_aload_n hx hb dX2_beginDay_18 rfl (lv_at hl 1 rfl) ?_
      refine va_get (D := xD G) (ci := 2) (v := .ref cA) (C := RX2) (T := TX2) (N := 17) hx hb hts inX2 hown hK hP 0 rfl rfl 0 (by decide) kl40 (fun _ h9 => h9) rfl dX2_beginDay_19 ?_
      refine va_get (D := xD G) (ci := 0) (v := .int (nI n)) (C := RX0) (T := TX0) (N := 9) hx hb hts inX0 hown hK hP 9 rfl rfl 1 (by decide) kl99 (fun _ h9 => h9) rfl dX2_beginDay_22 ?_
      refine x_icmp_ge (x := i) (y := n) (tgt := 72) hx hb (by omega) (by omega) dX2_beginDay_25 (by decide) (fun c25 => ?_) (fun c25 => ?_)
      · skip
        have e_2 : i = n := by omega
        rw [e_2] at es
        subst es
        exact hq H locs 72 ls dX2_beginDay_72 (by skip; exact hP) (by skip; exact hD) hS
      · skip
        refine lv_aload_n hx hb dX2_beginDay_28 rfl (lv_at hl 1 rfl) ?_
        refine va_get (D := xD G) (ci := 2) (v := .ref (ra 7)) (C := RX2) (T := TX2) (N := 17) hx hb hts inX2 hown hK hP 0 rfl rfl 7 (by decide) kl24 (fun _ h9 => h9) rfl dX2_beginDay_29 ?_
        refine lv_iload_n hx hb dX2_beginDay_32 rfl (lv_at hl 0 rfl) ?_
        refine lv_iconst (v := 0) hx hb dX2_beginDay_33 (by decide) ?_
        refine x_zast (i := i) hx hb hK hP hD hS 5 rfl (by first | omega | assumption) (by omega) rfl dX2_beginDay_34 (fun H locs hP hD hS => ?_)
        have hP : va_P (xD G) vwCl [oRun rA cA uA ra nob (nI (csC s1)) (nI j0) last (csA s1) rst, xI G (ra 3) 16 (csP s1), xI G (ra 4) 16 (csN s1), xI G (ra 5) 16 (csL s1), xI G (ra 6) 16 (csD s1), xZ G (ra 7) 16 (upd (csW s1) i 0), xZ G (ra 8) 16 (csB s1), xI G (ra 9) 16 (csU s1), xI G (ra 11) 4 (csH s1), oCards cA ca cols (nI n), xI G (ca 2) 16 cday] H := hP
        have hD : va_D A [oRun rA cA uA ra nob (nI (csC s1)) (nI j0) last (csA s1) rst, xI G (ra 3) 16 (csP s1), xI G (ra 4) 16 (csN s1), xI G (ra 5) 16 (csL s1), xI G (ra 6) 16 (csD s1), xZ G (ra 7) 16 (upd (csW s1) i 0), xZ G (ra 8) 16 (csB s1), xI G (ra 9) 16 (csU s1), xI G (ra 11) 4 (csH s1), oCards cA ca cols (nI n), xI G (ca 2) 16 cday] := hD
        refine lv_aload_n hx hb dX2_beginDay_35 rfl (lv_at hl 1 rfl) ?_
        refine va_get (D := xD G) (ci := 2) (v := .ref cA) (C := RX2) (T := TX2) (N := 17) hx hb hts inX2 hown hK hP 0 rfl rfl 0 (by decide) kl40 (fun _ h9 => h9) rfl dX2_beginDay_36 ?_
        refine va_get (D := xD G) (ci := 0) (v := .ref (ca 2)) (C := RX0) (T := TX0) (N := 9) hx hb hts inX0 hown hK hP 9 rfl rfl 2 (by decide) kl91 (fun _ h9 => h9) rfl dX2_beginDay_39 ?_
        refine lv_iload_n hx hb dX2_beginDay_42 rfl (lv_at hl 0 rfl) ?_
        refine x_iald (i := i) hx hb hK hP 10 rfl (by first | omega | assumption) (by omega) dX2_beginDay_43 ?_
        refine lv_aload_n hx hb dX2_beginDay_44 rfl (lv_at hl 1 rfl) ?_
        refine va_get (D := xD G) (ci := 2) (v := .int (nI j0)) (C := RX2) (T := TX2) (N := 17) hx hb hts inX2 hown hK hP 0 rfl rfl 13 (by decide) kl62 (fun _ h9 => h9) rfl dX2_beginDay_45 ?_
        refine lv_icmp_ne (x := cday i) (y := nI j0) (tgt := 66) hx hb dX2_beginDay_48 (by decide) (fun c48 => ?_) (fun c48 => ?_)
        · skip
          refine lv_iinc (v := nI (i + 1)) (lv' := [(1, .int (nI (i + 1))), (0, .ref rA)]) hx hb dX2_beginDay_66 hl (k := 0) rfl (by exact nI_add i 1) (by decide) rfl (fun ls hl => ?_)
          refine lv_goto (tgt := 17) hx hb dX2_beginDay_69 (by decide) ?_
          exact ih17 (i + 1) (csP s1, csN s1, csL s1, csD s1, upd (csW s1) i 0, csB s1, csU s1, csH s1, (csC s1), csA s1) (by omega) (by omega) (by simp only [itN, ← es]; unfold bgB; first | rw [if_pos c48] | rw [if_neg c48]) H locs hP hD hS ls (lv_sub hl [0, 1] rfl)
        · skip
          refine lv_aload_n hx hb dX2_beginDay_51 rfl (lv_at hl 1 rfl) ?_
          refine va_get (D := xD G) (ci := 2) (v := .ref (ra 3)) (C := RX2) (T := TX2) (N := 17) hx hb hts inX2 hown hK hP 0 rfl rfl 3 (by decide) kl9 (fun _ h9 => h9) rfl dX2_beginDay_52 ?_
          refine lv_iload_n hx hb dX2_beginDay_55 rfl (lv_at hl 0 rfl) ?_
          refine lv_bipush (v := 11) hx hb dX2_beginDay_56 (by decide) ?_
          refine x_iast (i := i) hx hb hK hP hD hS 1 rfl (by first | omega | assumption) (by omega) dX2_beginDay_58 (fun H locs hP hD hS => ?_)
          have hP : va_P (xD G) vwCl [oRun rA cA uA ra nob (nI (csC s1)) (nI j0) last (csA s1) rst, xI G (ra 3) 16 (upd (csP s1) i 11), xI G (ra 4) 16 (csN s1), xI G (ra 5) 16 (csL s1), xI G (ra 6) 16 (csD s1), xZ G (ra 7) 16 (upd (csW s1) i 0), xZ G (ra 8) 16 (csB s1), xI G (ra 9) 16 (csU s1), xI G (ra 11) 4 (csH s1), oCards cA ca cols (nI n), xI G (ca 2) 16 cday] H := hP
          have hD : va_D A [oRun rA cA uA ra nob (nI (csC s1)) (nI j0) last (csA s1) rst, xI G (ra 3) 16 (upd (csP s1) i 11), xI G (ra 4) 16 (csN s1), xI G (ra 5) 16 (csL s1), xI G (ra 6) 16 (csD s1), xZ G (ra 7) 16 (upd (csW s1) i 0), xZ G (ra 8) 16 (csB s1), xI G (ra 9) 16 (csU s1), xI G (ra 11) 4 (csH s1), oCards cA ca cols (nI n), xI G (ca 2) 16 cday] := hD
          refine lv_aload_n hx hb dX2_beginDay_59 rfl (lv_at hl 1 rfl) ?_
          refine va_get (D := xD G) (ci := 2) (v := .ref (ra 4)) (C := RX2) (T := TX2) (N := 17) hx hb hts inX2 hown hK hP 0 rfl rfl 4 (by decide) kl15 (fun _ h9 => h9) rfl dX2_beginDay_60 ?_
          refine lv_iload_n hx hb dX2_beginDay_63 rfl (lv_at hl 0 rfl) ?_
          refine lv_iconst (v := 0) hx hb dX2_beginDay_64 (by decide) ?_
          refine x_iast (i := i) hx hb hK hP hD hS 2 rfl (by first | omega | assumption) (by omega) dX2_beginDay_65 (fun H locs hP hD hS => ?_)
          have hP : va_P (xD G) vwCl [oRun rA cA uA ra nob (nI (csC s1)) (nI j0) last (csA s1) rst, xI G (ra 3) 16 (upd (csP s1) i 11), xI G (ra 4) 16 (upd (csN s1) i 0), xI G (ra 5) 16 (csL s1), xI G (ra 6) 16 (csD s1), xZ G (ra 7) 16 (upd (csW s1) i 0), xZ G (ra 8) 16 (csB s1), xI G (ra 9) 16 (csU s1), xI G (ra 11) 4 (csH s1), oCards cA ca cols (nI n), xI G (ca 2) 16 cday] H := hP
          have hD : va_D A [oRun rA cA uA ra nob (nI (csC s1)) (nI j0) last (csA s1) rst, xI G (ra 3) 16 (upd (csP s1) i 11), xI G (ra 4) 16 (upd (csN s1) i 0), xI G (ra 5) 16 (csL s1), xI G (ra 6) 16 (csD s1), xZ G (ra 7) 16 (upd (csW s1) i 0), xZ G (ra 8) 16 (csB s1), xI G (ra 9) 16 (csU s1), xI G (ra 11) 4 (csH s1), oCards cA ca cols (nI n), xI G (ca 2) 16 cday] := hD
          refine lv_iinc (v := nI (i + 1)) (lv' := [(1, .int (nI (i + 1))), (0, .ref rA)]) hx hb dX2_beginDay_66 hl (k := 0) rfl (by exact nI_add i 1) (by decide) rfl (fun ls hl => ?_)
          refine lv_goto (tgt := 17) hx hb dX2_beginDay_69 (by decide) ?_
          exact ih17 (i + 1) (upd (csP s1) i 11, upd (csN s1) i 0, csL s1, csD s1, upd (csW s1) i 0, csB s1, csU s1, csH s1, (csC s1), csA s1) (by omega) (by omega) (by simp only [itN, ← es]; unfold bgB; first | rw [if_pos c48] | rw [if_neg c48]) H locs hP hD hS ls (lv_sub hl [0, 1] rfl)
  exact L17 (n + 1) 0 (bg0 s0) (by omega) (by omega) (rfl) H locs hP hD hS ls (lv_sub hl [0, 1] rfl)
set_option maxHeartbeats 4000000 in
set_option maxRecDepth 100000 in
theorem mX2_pullInto (l : Launch) (G : xG) (rA : Nat) (cA : Nat) (uA : Nat) (ra : Nat → Nat) (nob : Int32) (s0 : CS) (day : Int32) (last : Int32) (rst : Int32) (ca : Nat → Nat) (cols : Int32) (n : Nat) (urg : Nat → Int32) (waits : Nat → Int32) (byd : Nat → Int32) (szs : Nat → Int32) (k0 : Nat) (u : Bool) (most : Int32)  (hn : n ≤ 16) (hk : k0 < 4) (hby : ∀ t9, t9 < n → vp_in (byd t9) n) (hu : UV n s0) : xM l yX2_pullInto wsX2_pullInto ({ frames := 2, cells := 0, slots := 0, locals := 45 } : Room) [.ref rA, .int (nI k0), .int (b2 (u = true)), .int most] G [oRun rA cA uA ra nob (nI (csC s0)) day last (csA s0) rst, xI G (ra 3) 16 (csP s0), xI G (ra 4) 16 (csN s0), xI G (ra 5) 16 (csL s0), xI G (ra 6) 16 (csD s0), xZ G (ra 7) 16 (csW s0), xZ G (ra 8) 16 (csB s0), xI G (ra 9) 16 (csU s0), xI G (ra 11) 4 (csH s0), oCards cA ca cols (nI n), xZ G (ca 3) 16 urg, xI G (ca 4) 16 waits, xI G (ca 7) 16 byd, xI G (ca 8) 64 szs] [oRun rA cA uA ra nob (nI (csC (piF urg waits byd szs n nob day k0 u most n 0 s0))) day last (csA (piF urg waits byd szs n nob day k0 u most n 0 s0)) rst, xI G (ra 3) 16 (csP (piF urg waits byd szs n nob day k0 u most n 0 s0)), xI G (ra 4) 16 (csN (piF urg waits byd szs n nob day k0 u most n 0 s0)), xI G (ra 5) 16 (csL (piF urg waits byd szs n nob day k0 u most n 0 s0)), xI G (ra 6) 16 (csD (piF urg waits byd szs n nob day k0 u most n 0 s0)), xZ G (ra 7) 16 (csW (piF urg waits byd szs n nob day k0 u most n 0 s0)), xZ G (ra 8) 16 (csB (piF urg waits byd szs n nob day k0 u most n 0 s0)), xI G (ra 9) 16 (csU (piF urg waits byd szs n nob day k0 u most n 0 s0)), xI G (ra 11) 4 (csH (piF urg waits byd szs n nob day k0 u most n 0 s0)), oCards cA ca cols (nI n), xZ G (ca 3) 16 urg, xI G (ca 4) 16 waits, xI G (ca 7) 16 byd, xI G (ca 8) 64 szs] := by
  refine xM_of (cc := cX2_pullInto) (maxL := 6) (by decide) rfl (Nat.le_of_ble_eq_true rfl) ?_
  intro p e s m below meth cO ls Q A hx hb hml hown hts hP hK hD hS hA hl hq
  have hown : s.vm.findClass RX2 = some m.cls := hown
  have kl40 := hts (.fieldLink RX2 40 "WorkBoard$Run" "cards" "LWorkBoard$Cards;") (List.mem_of_getElem? (i := 1) rfl)
  have kl99 := hts (.fieldLink RX2 99 "WorkBoard$Cards" "count" "I") (List.mem_of_getElem? (i := 2) rfl)
  have kl164 := hts (.fieldLink RX2 164 "WorkBoard$Cards" "byDay" "[I") (List.mem_of_getElem? (i := 3) rfl)
  have kl15 := hts (.fieldLink RX2 15 "WorkBoard$Run" "next" "[I") (List.mem_of_getElem? (i := 4) rfl)
  have inX0 : ∀ w ∈ u_ws RX0 TX0 9, w ∈ wsX2_pullInto := (fun w h => List.mem_cons_of_mem _ (List.mem_append_right _ h))
  have inX2 : ∀ w ∈ u_ws RX2 TX2 17, w ∈ wsX2_pullInto := (fun w h => List.mem_cons_of_mem _ (List.mem_append_left _ (List.mem_append_right _ h)))
  have hl : lv_has ls 6 [(0, .ref rA), (1, .int (nI k0)), (2, .int (b2 (u = true))), (3, .int most)] := hl
  have hD : va_D A [oRun rA cA uA ra nob (nI (csC s0)) day last (csA s0) rst, xI G (ra 3) 16 (csP s0), xI G (ra 4) 16 (csN s0), xI G (ra 5) 16 (csL s0), xI G (ra 6) 16 (csD s0), xZ G (ra 7) 16 (csW s0), xZ G (ra 8) 16 (csB s0), xI G (ra 9) 16 (csU s0), xI G (ra 11) 4 (csH s0), oCards cA ca cols (nI n), xZ G (ca 3) 16 urg, xI G (ca 4) 16 waits, xI G (ca 7) 16 byd, xI G (ca 8) 64 szs] := hD
  obtain ⟨H, hH⟩ : ∃ z, z = s.heap := ⟨_, rfl⟩
  obtain ⟨locs, hlocs⟩ : ∃ z : List Loc, z = [] := ⟨_, rfl⟩
  have hS : va_S A s.heap H locs := by rw [hH, hlocs]; exact hS
  have hP : va_P (xD G) vwCl [oRun rA cA uA ra nob (nI (csC s0)) day last (csA s0) rst, xI G (ra 3) 16 (csP s0), xI G (ra 4) 16 (csN s0), xI G (ra 5) 16 (csL s0), xI G (ra 6) 16 (csD s0), xZ G (ra 7) 16 (csW s0), xZ G (ra 8) 16 (csB s0), xI G (ra 9) 16 (csU s0), xI G (ra 11) 4 (csH s0), oCards cA ca cols (nI n), xZ G (ca 3) 16 urg, xI G (ca 4) 16 waits, xI G (ca 7) 16 byd, xI G (ca 8) 64 szs] H := by rw [hH]; exact hP
  rw [← hH, ← hlocs]
  clear hH hlocs
  refine lv_iconst (v := 0) hx hb dX2_pullInto_0 (by decide) ?_
  refine lv_istore (lv' := [(4, .int 0), (0, .ref rA), (1, .int (nI k0)), (2, .int (b2 (u = true))), (3, .int most)]) hx hb dX2_pullInto_1 hl (by decide) rfl (fun ls hl => ?_)
  have L3 : ∀ (kk3 i : Nat) (s1 : CS), i ≤ n → n + 1 ≤ i + kk3 → (piF urg waits byd szs n nob day k0 u most (n - i) i s1 = piF urg waits byd szs n nob day k0 u most n 0 s0) → (UV n s1) → ∀ (H : Heap) (locs : List Loc), va_P (xD G) vwCl [oRun rA cA uA ra nob (nI (csC s1)) day last (csA s1) rst, xI G (ra 3) 16 (csP s1), xI G (ra 4) 16 (csN s1), xI G (ra 5) 16 (csL s1), xI G (ra 6) 16 (csD s1), xZ G (ra 7) 16 (csW s1), xZ G (ra 8) 16 (csB s1), xI G (ra 9) 16 (csU s1), xI G (ra 11) 4 (csH s1), oCards cA ca cols (nI n), xZ G (ca 3) 16 urg, xI G (ca 4) 16 waits, xI G (ca 7) 16 byd, xI G (ca 8) 64 szs] H → va_D A [oRun rA cA uA ra nob (nI (csC s1)) day last (csA s1) rst, xI G (ra 3) 16 (csP s1), xI G (ra 4) 16 (csN s1), xI G (ra 5) 16 (csL s1), xI G (ra 6) 16 (csD s1), xZ G (ra 7) 16 (csW s1), xZ G (ra 8) 16 (csB s1), xI G (ra 9) 16 (csU s1), xI G (ra 11) 4 (csH s1), oCards cA ca cols (nI n), xZ G (ca 3) 16 urg, xI G (ca 4) 16 waits, xI G (ca 7) 16 byd, xI G (ca 8) 64 szs] → va_S A s.heap H locs → ∀ (ls : Array Slot), lv_has ls 6 [(4, .int (nI i)), (0, .ref rA), (1, .int (nI k0)), (2, .int (b2 (u = true))), (3, .int most)] → W p l e ({ frames := 2, cells := 0, slots := 0, locals := 45 } : Room) s m #[Value.ref rA, Value.int (nI k0), Value.int (b2 (u = true)), Value.int most] below meth cO H locs 0 0 Q (F0 m 3 ls []) := by
    intro kk3
    induction kk3 with
    | zero => intro i s1 h1 h2; exact absurd h2 (by omega)
    | succ kk3 ih3 =>
      intro i s1 hi3 hk3 es hu1 H locs hP hD hS ls hl
      refine lv_iload hx hb dX2_pullInto_3 (lv_at hl 0 rfl) ?_
      refine lv_aload_n hx hb dX2_pullInto_5 rfl (lv_at hl 1 rfl) ?_
      refine va_get (D := xD G) (ci := 2) (v := .ref cA) (C := RX2) (T := TX2) (N := 17) hx hb hts inX2 hown hK hP 0 rfl rfl 0 (by decide) kl40 (fun _ h9 => h9) rfl dX2_pullInto_6 ?_
      refine va_get (D := xD G) (ci := 0) (v := .int (nI n)) (C := RX0) (T := TX0) (N := 9) hx hb hts inX0 hown hK hP 9 rfl rfl 1 (by decide) kl99 (fun _ h9 => h9) rfl dX2_pullInto_9 ?_
      refine x_icmp_ge (x := i) (y := n) (tgt := 81) hx hb (by omega) (by omega) dX2_pullInto_12 (by decide) (fun c12 => ?_) (fun c12 => ?_)
      · skip
        have eF : piF urg waits byd szs n nob day k0 u most n 0 s0 = s1 := by rw [← es, show n - i = 0 by omega]; rfl
        rw [eF] at hq
        exact hq H locs 81 ls dX2_pullInto_81 (by skip; exact hP) (by skip; exact hD) hS
      · skip
        have hv : ix byd i < n := vp_lt (hby i c12)
        have hu2 := hu1.1
        have hcl := cnt_le (fun b => ciP urg nob u k0 (csP s1) b) n
        refine lv_aload_n hx hb dX2_pullInto_15 rfl (lv_at hl 1 rfl) ?_
        refine va_get (D := xD G) (ci := 2) (v := .ref cA) (C := RX2) (T := TX2) (N := 17) hx hb hts inX2 hown hK hP 0 rfl rfl 0 (by decide) kl40 (fun _ h9 => h9) rfl dX2_pullInto_16 ?_
        refine va_get (D := xD G) (ci := 0) (v := .ref (ca 7)) (C := RX0) (T := TX0) (N := 9) hx hb hts inX0 hown hK hP 9 rfl rfl 7 (by decide) kl164 (fun _ h9 => h9) rfl dX2_pullInto_19 ?_
        refine lv_iload hx hb dX2_pullInto_22 (lv_at hl 0 rfl) ?_
        refine x_iald (i := i) hx hb hK hP 12 rfl (by first | omega | assumption) (by omega) dX2_pullInto_24 ?_
        refine x_top (y := nI (ix byd i)) (nI_self (hby i c12)) ?_
        refine lv_istore (lv' := [(5, .int (nI (ix byd i))), (4, .int (nI i)), (0, .ref rA), (1, .int (nI k0)), (2, .int (b2 (u = true))), (3, .int most)]) hx hb dX2_pullInto_25 hl (by decide) rfl (fun ls hl => ?_)
        refine lv_aload_n hx hb dX2_pullInto_27 rfl (lv_at hl 2 rfl) ?_
        refine va_get (D := xD G) (ci := 2) (v := .ref (ra 4)) (C := RX2) (T := TX2) (N := 17) hx hb hts inX2 hown hK hP 0 rfl rfl 4 (by decide) kl15 (fun _ h9 => h9) rfl dX2_pullInto_28 ?_
        refine lv_iload hx hb dX2_pullInto_31 (lv_at hl 0 rfl) ?_
        refine x_iald (i := ix byd i) hx hb hK hP 2 rfl (by first | omega | assumption) (by omega) dX2_pullInto_33 ?_
        refine lv_iload_n hx hb dX2_pullInto_34 rfl (lv_at hl 3 rfl) ?_
        refine lv_icmp_ne (x := (csN s1) (ix byd i)) (y := nI k0) (tgt := 75) hx hb dX2_pullInto_35 (by decide) (fun c35 => ?_) (fun c35 => ?_)
        · skip
          refine lv_iinc (v := nI (i + 1)) (lv' := [(4, .int (nI (i + 1))), (5, .int (nI (ix byd i))), (0, .ref rA), (1, .int (nI k0)), (2, .int (b2 (u = true))), (3, .int most)]) hx hb dX2_pullInto_75 hl (k := 1) rfl (by exact nI_add i 1) (by decide) rfl (fun ls hl => ?_)
          refine lv_goto (tgt := 3) hx hb dX2_pullInto_78 (by decide) ?_
          exact ih3 (i + 1) (csP s1, csN s1, csL s1, csD s1, csW s1, csB s1, csU s1, csH s1, (csC s1), csA s1) (by omega) (by omega) (by rw [show n - i = (n - (i + 1)) + 1 by omega, piF_s] at es; rw [if_neg (fun h => c35 h.1)] at es; exact es) (hu1) H locs hP hD hS ls (lv_sub hl [0, 2, 3, 4, 5] rfl)
        · skip
          refine lv_aload_n hx hb dX2_pullInto_38 rfl (lv_at hl 2 rfl) ?_
          refine lv_iload hx hb dX2_pullInto_39 (lv_at hl 0 rfl) ?_
          refine x_callR (As := [.int (nI (ix byd i))]) (rest := []) (ci := 2) (q0 := 0) ⟨hx, hb, hml, hown, hts⟩ (mX2_isUrgent l G rA cA uA ra nob (nI (csC s1)) day last (csA s1) rst ca cols (nI n) urg (ix byd i) (by first | assumption | omega)) (cwV 1 hts gX2_pullInto_X2_isUrgent rfl rfl rfl (by decide +kernel) ⟨Nat.le_of_ble_eq_true rfl, Nat.le_of_ble_eq_true rfl⟩) hK hP hD [0, 9, 10] rfl rfl rfl rfl rfl rfl rfl hl.1 rfl (Nat.le_of_ble_eq_true rfl) dX2_pullInto_41 ⟨Nat.zero_le _, Nat.zero_le _⟩ (fun r hr => ?_)
          subst hr
          refine lv_iload_n hx hb dX2_pullInto_44 rfl (lv_at hl 4 rfl) ?_
          refine x_bcmp_ne (P := urgP urg nob (ix byd i)) (U := u = true) (tgt := 75) hx hb dX2_pullInto_45 (by decide) (fun c45 => ?_) (fun c45 => ?_)
          · skip
            refine lv_iinc (v := nI (i + 1)) (lv' := [(4, .int (nI (i + 1))), (5, .int (nI (ix byd i))), (0, .ref rA), (1, .int (nI k0)), (2, .int (b2 (u = true))), (3, .int most)]) hx hb dX2_pullInto_75 hl (k := 1) rfl (by exact nI_add i 1) (by decide) rfl (fun ls hl => ?_)
            refine lv_goto (tgt := 3) hx hb dX2_pullInto_78 (by decide) ?_
            exact ih3 (i + 1) (csP s1, csN s1, csL s1, csD s1, csW s1, csB s1, csU s1, csH s1, (csC s1), csA s1) (by omega) (by omega) (by rw [show n - i = (n - (i + 1)) + 1 by omega, piF_s] at es; rw [if_neg (fun h => c45 h.2.1)] at es; exact es) (hu1) H locs hP hD hS ls (lv_sub hl [0, 2, 3, 4, 5] rfl)
          · skip
            refine lv_aload_n hx hb dX2_pullInto_48 rfl (lv_at hl 2 rfl) ?_
            refine lv_iload hx hb dX2_pullInto_49 (lv_at hl 0 rfl) ?_
            refine x_callR (As := [.int (nI (ix byd i))]) (rest := []) (ci := 2) (q0 := 0) ⟨hx, hb, hml, hown, hts⟩ (mX2_isWaiting l G rA cA uA ra nob (nI (csC s1)) day last (csA s1) rst (csP s1) (csD s1) ca cols n waits (ix byd i) (by first | assumption | omega) (by first | assumption | omega)) (cwV 1 hts gX2_pullInto_X2_isWaiting rfl rfl rfl (by decide +kernel) ⟨Nat.le_of_ble_eq_true rfl, Nat.le_of_ble_eq_true rfl⟩) hK hP hD [0, 1, 4, 9, 11] rfl rfl rfl rfl rfl rfl rfl hl.1 rfl (Nat.le_of_ble_eq_true rfl) dX2_pullInto_51 ⟨Nat.zero_le _, Nat.zero_le _⟩ (fun r hr => ?_)
            subst hr
            refine x_if_ne (P := wtP (csP s1) (csD s1) waits n day (ix byd i)) (tgt := 75) hx hb dX2_pullInto_54 (by decide) (fun c54 => ?_) (fun c54 => ?_)
            · skip
              refine lv_iinc (v := nI (i + 1)) (lv' := [(4, .int (nI (i + 1))), (5, .int (nI (ix byd i))), (0, .ref rA), (1, .int (nI k0)), (2, .int (b2 (u = true))), (3, .int most)]) hx hb dX2_pullInto_75 hl (k := 1) rfl (by exact nI_add i 1) (by decide) rfl (fun ls hl => ?_)
              refine lv_goto (tgt := 3) hx hb dX2_pullInto_78 (by decide) ?_
              exact ih3 (i + 1) (csP s1, csN s1, csL s1, csD s1, csW s1, csB s1, csU s1, csH s1, (csC s1), csA s1) (by omega) (by omega) (by rw [show n - i = (n - (i + 1)) + 1 by omega, piF_s] at es; rw [if_neg (fun h => h.2.2 c54)] at es; exact es) (hu1) H locs hP hD hS ls (lv_sub hl [0, 2, 3, 4, 5] rfl)
            · skip
              refine lv_aload_n hx hb dX2_pullInto_57 rfl (lv_at hl 2 rfl) ?_
              refine lv_iload_n hx hb dX2_pullInto_58 rfl (lv_at hl 3 rfl) ?_
              refine lv_iload_n hx hb dX2_pullInto_59 rfl (lv_at hl 4 rfl) ?_
              refine x_callR (As := [.int (nI k0), .int (b2 (u = true))]) (rest := []) (ci := 2) (q0 := 0) ⟨hx, hb, hml, hown, hts⟩ (mX2_countIn l G rA cA uA ra nob (nI (csC s1)) day last (csA s1) rst (csP s1) ca cols n urg k0 u (by first | assumption | omega) (by first | assumption | omega)) (cwV 2 hts gX2_pullInto_X2_countIn rfl rfl rfl (by decide +kernel) ⟨Nat.le_of_ble_eq_true rfl, Nat.le_of_ble_eq_true rfl⟩) hK hP hD [0, 1, 9, 10] rfl rfl rfl rfl rfl rfl rfl hl.1 rfl (Nat.le_of_ble_eq_true rfl) dX2_pullInto_60 ⟨Nat.zero_le _, Nat.zero_le _⟩ (fun r hr => ?_)
              subst hr
              refine lv_iload_n hx hb dX2_pullInto_63 rfl (lv_at hl 5 rfl) ?_
              refine lv_icmp_lt (x := nI (cnt (fun b => ciP urg nob u k0 (csP s1) b) n)) (y := most) (tgt := 68) hx hb dX2_pullInto_64 (by decide) (fun c64 => ?_) (fun c64 => ?_)
              · skip
                refine lv_aload_n hx hb dX2_pullInto_68 rfl (lv_at hl 2 rfl) ?_
                refine lv_iload hx hb dX2_pullInto_69 (lv_at hl 0 rfl) ?_
                refine lv_iload_n hx hb dX2_pullInto_71 rfl (lv_at hl 3 rfl) ?_
                refine x_callM (As := [.int (nI (ix byd i)), .int (nI k0)]) (rest := []) (w2 := [oRun rA cA uA ra nob (nI (csC (puF szs k0 s1 (ix byd i)))) day last (csA (puF szs k0 s1 (ix byd i))) rst, xI G (ra 3) 16 (csP (puF szs k0 s1 (ix byd i))), xI G (ra 4) 16 (csN (puF szs k0 s1 (ix byd i))), xI G (ra 5) 16 (csL (puF szs k0 s1 (ix byd i))), xI G (ra 6) 16 (csD s1), xZ G (ra 7) 16 (csW s1), xZ G (ra 8) 16 (csB s1), xI G (ra 9) 16 (csU (puF szs k0 s1 (ix byd i))), xI G (ra 11) 4 (csH s1), oCards cA ca cols (nI n), xZ G (ca 3) 16 urg, xI G (ca 4) 16 waits, xI G (ca 7) 16 byd, xI G (ca 8) 64 szs]) (wr := [xI G (ra 6) 16 (csD s1), xZ G (ra 7) 16 (csW s1), xZ G (ra 8) 16 (csB s1), xI G (ra 11) 4 (csH s1), xZ G (ca 3) 16 urg, xI G (ca 4) 16 waits, xI G (ca 7) 16 byd]) (ci := 2) (q0 := 0) ⟨hx, hb, hml, hown, hts⟩ (mX2_pullCard l G rA cA uA ra nob s1 day last rst ca cols (nI n) szs (ix byd i) k0 (by first | assumption | omega) (by first | assumption | omega) (by first | assumption | omega)) (cwV 2 hts gX2_pullInto_X2_pullCard rfl rfl rfl (by decide +kernel) ⟨Nat.le_of_ble_eq_true rfl, Nat.le_of_ble_eq_true rfl⟩) hK hP hD hS hA [0, 1, 2, 3, 7, 9, 13] [4, 5, 6, 8, 10, 11, 12] [7, 8, 9, 10, 0, 1, 2, 11, 3, 12, 4, 5, 6, 13] rfl rfl rfl rfl rfl (by decide) rfl rfl rfl rfl rfl rfl rfl hl.1 rfl (Nat.le_of_ble_eq_true rfl) dX2_pullInto_72 ⟨Nat.zero_le _, Nat.zero_le _⟩ (fun H locs hP hD hS => ?_)
                refine lv_iinc (v := nI (i + 1)) (lv' := [(4, .int (nI (i + 1))), (5, .int (nI (ix byd i))), (0, .ref rA), (1, .int (nI k0)), (2, .int (b2 (u = true))), (3, .int most)]) hx hb dX2_pullInto_75 hl (k := 1) rfl (by exact nI_add i 1) (by decide) rfl (fun ls hl => ?_)
                refine lv_goto (tgt := 3) hx hb dX2_pullInto_78 (by decide) ?_
                exact ih3 (i + 1) (csP (puF szs k0 s1 (ix byd i)), csN (puF szs k0 s1 (ix byd i)), csL (puF szs k0 s1 (ix byd i)), csD s1, csW s1, csB s1, csU (puF szs k0 s1 (ix byd i)), csH s1, (csC (puF szs k0 s1 (ix byd i))), csA (puF szs k0 s1 (ix byd i))) (by omega) (by omega) (by rw [show n - i = (n - (i + 1)) + 1 by omega, piF_s] at es; rw [if_pos ⟨c35, c45, c54⟩, if_pos c64] at es; exact es) (UV_pu hu1 hv (by omega)) H locs hP hD hS ls (lv_sub hl [0, 2, 3, 4, 5] rfl)
              · skip
                have eF : piF urg waits byd szs n nob day k0 u most n 0 s0 = s1 := by rw [← es, show n - i = (n - (i + 1)) + 1 by omega, piF_s, if_pos ⟨c35, c45, c54⟩, if_neg c64]
                rw [eF] at hq
                exact hq H locs 67 ls dX2_pullInto_67 (by skip; exact hP) (by skip; exact hD) hS
  exact L3 (n + 1) 0 s0 (by omega) (by omega) (rfl) (hu) H locs hP hD hS ls (lv_sub hl [0, 1, 2, 3, 4] rfl)
set_option maxHeartbeats 4000000 in
set_option maxRecDepth 100000 in
theorem mX2_workThose (l : Launch) (G : xG) (rA : Nat) (cA : Nat) (uA : Nat) (ra : Nat → Nat) (nob : Int32) (s0 : CS) (day : Int32) (last : Int32) (rst : Int32) (ca : Nat → Nat) (nc : Nat) (n : Nat) (urg : Nat → Int32) (bfrom : Nat → Int32) (bto : Nat → Int32) (ua : Nat → Nat) (pac : Int32) (u : Bool)  (hn : n ≤ 16) (hnc : nc ≤ 4) (hu : UV n s0) : xM l yX2_workThose wsX2_workThose ({ frames := 2, cells := 0, slots := 0, locals := 45 } : Room) [.ref rA, .int (b2 (u = true))] G [oRun rA cA uA ra nob (nI (csC s0)) day last (csA s0) rst, xI G (ra 3) 16 (csP s0), xI G (ra 4) 16 (csN s0), xI G (ra 5) 16 (csL s0), xI G (ra 6) 16 (csD s0), xZ G (ra 7) 16 (csW s0), xZ G (ra 8) 16 (csB s0), xI G (ra 9) 16 (csU s0), xI G (ra 11) 4 (csH s0), oCards cA ca (nI nc) (nI n), xZ G (ca 3) 16 urg, xI G (ca 5) 16 bfrom, xI G (ca 6) 16 bto, oRules uA ua pac] [oRun rA cA uA ra nob (nI (csC (twF urg bfrom bto nc nob day pac u s0))) day last (csA (twF urg bfrom bto nc nob day pac u s0)) rst, xI G (ra 3) 16 (csP (twF urg bfrom bto nc nob day pac u s0)), xI G (ra 4) 16 (csN (twF urg bfrom bto nc nob day pac u s0)), xI G (ra 5) 16 (csL (twF urg bfrom bto nc nob day pac u s0)), xI G (ra 6) 16 (csD (twF urg bfrom bto nc nob day pac u s0)), xZ G (ra 7) 16 (csW (twF urg bfrom bto nc nob day pac u s0)), xZ G (ra 8) 16 (csB (twF urg bfrom bto nc nob day pac u s0)), xI G (ra 9) 16 (csU (twF urg bfrom bto nc nob day pac u s0)), xI G (ra 11) 4 (csH (twF urg bfrom bto nc nob day pac u s0)), oCards cA ca (nI nc) (nI n), xZ G (ca 3) 16 urg, xI G (ca 5) 16 bfrom, xI G (ca 6) 16 bto, oRules uA ua pac] := by
  refine xM_of (cc := cX2_workThose) (maxL := 5) (by decide) rfl (Nat.le_of_ble_eq_true rfl) ?_
  intro p e s m below meth cO ls Q A hx hb hml hown hts hP hK hD hS hA hl hq
  have hown : s.vm.findClass RX2 = some m.cls := hown
  have kl58 := hts (.fieldLink RX2 58 "WorkBoard$Run" "pulledCount" "I") (List.mem_of_getElem? (i := 1) rfl)
  have kl31 := hts (.fieldLink RX2 31 "WorkBoard$Run" "pulled" "[I") (List.mem_of_getElem? (i := 2) rfl)
  have kl9 := hts (.fieldLink RX2 9 "WorkBoard$Run" "place" "[I") (List.mem_of_getElem? (i := 3) rfl)
  have kl40 := hts (.fieldLink RX2 40 "WorkBoard$Run" "cards" "LWorkBoard$Cards;") (List.mem_of_getElem? (i := 4) rfl)
  have kl15 := hts (.fieldLink RX2 15 "WorkBoard$Run" "next" "[I") (List.mem_of_getElem? (i := 5) rfl)
  have inX2 : ∀ w ∈ u_ws RX2 TX2 17, w ∈ wsX2_workThose := (fun w h => List.mem_cons_of_mem _ (List.mem_append_left _ (List.mem_append_left _ (List.mem_append_right _ h))))
  have hl : lv_has ls 5 [(0, .ref rA), (1, .int (b2 (u = true)))] := hl
  have hD : va_D A [oRun rA cA uA ra nob (nI (csC s0)) day last (csA s0) rst, xI G (ra 3) 16 (csP s0), xI G (ra 4) 16 (csN s0), xI G (ra 5) 16 (csL s0), xI G (ra 6) 16 (csD s0), xZ G (ra 7) 16 (csW s0), xZ G (ra 8) 16 (csB s0), xI G (ra 9) 16 (csU s0), xI G (ra 11) 4 (csH s0), oCards cA ca (nI nc) (nI n), xZ G (ca 3) 16 urg, xI G (ca 5) 16 bfrom, xI G (ca 6) 16 bto, oRules uA ua pac] := hD
  obtain ⟨H, hH⟩ : ∃ z, z = s.heap := ⟨_, rfl⟩
  obtain ⟨locs, hlocs⟩ : ∃ z : List Loc, z = [] := ⟨_, rfl⟩
  have hS : va_S A s.heap H locs := by rw [hH, hlocs]; exact hS
  have hP : va_P (xD G) vwCl [oRun rA cA uA ra nob (nI (csC s0)) day last (csA s0) rst, xI G (ra 3) 16 (csP s0), xI G (ra 4) 16 (csN s0), xI G (ra 5) 16 (csL s0), xI G (ra 6) 16 (csD s0), xZ G (ra 7) 16 (csW s0), xZ G (ra 8) 16 (csB s0), xI G (ra 9) 16 (csU s0), xI G (ra 11) 4 (csH s0), oCards cA ca (nI nc) (nI n), xZ G (ca 3) 16 urg, xI G (ca 5) 16 bfrom, xI G (ca 6) 16 bto, oRules uA ua pac] H := by rw [hH]; exact hP
  rw [← hH, ← hlocs]
  clear hH hlocs
  refine lv_iconst (v := 0) hx hb dX2_workThose_0 (by decide) ?_
  refine lv_istore_n (lv' := [(2, .int 0), (0, .ref rA), (1, .int (b2 (u = true)))]) hx hb dX2_workThose_1 rfl hl (by decide) rfl (fun ls hl => ?_)
  have L2 : ∀ (kk2 i : Nat) (s1 : CS), i ≤ csC s0 → csC s0 + 1 ≤ i + kk2 → (s1 = itN (twB urg bfrom bto nc nob day pac u) s0 i) → (csU s1 = csU s0) → (csC s1 = csC s0) → ∀ (H : Heap) (locs : List Loc), va_P (xD G) vwCl [oRun rA cA uA ra nob (nI (csC s1)) day last (csA s1) rst, xI G (ra 3) 16 (csP s1), xI G (ra 4) 16 (csN s1), xI G (ra 5) 16 (csL s1), xI G (ra 6) 16 (csD s1), xZ G (ra 7) 16 (csW s1), xZ G (ra 8) 16 (csB s1), xI G (ra 9) 16 (csU s1), xI G (ra 11) 4 (csH s1), oCards cA ca (nI nc) (nI n), xZ G (ca 3) 16 urg, xI G (ca 5) 16 bfrom, xI G (ca 6) 16 bto, oRules uA ua pac] H → va_D A [oRun rA cA uA ra nob (nI (csC s1)) day last (csA s1) rst, xI G (ra 3) 16 (csP s1), xI G (ra 4) 16 (csN s1), xI G (ra 5) 16 (csL s1), xI G (ra 6) 16 (csD s1), xZ G (ra 7) 16 (csW s1), xZ G (ra 8) 16 (csB s1), xI G (ra 9) 16 (csU s1), xI G (ra 11) 4 (csH s1), oCards cA ca (nI nc) (nI n), xZ G (ca 3) 16 urg, xI G (ca 5) 16 bfrom, xI G (ca 6) 16 bto, oRules uA ua pac] → va_S A s.heap H locs → ∀ (ls : Array Slot), lv_has ls 5 [(2, .int (nI i)), (0, .ref rA), (1, .int (b2 (u = true)))] → W p l e ({ frames := 2, cells := 0, slots := 0, locals := 45 } : Room) s m #[Value.ref rA, Value.int (b2 (u = true))] below meth cO H locs 0 0 Q (F0 m 2 ls []) := by
    intro kk2
    induction kk2 with
    | zero => intro i s1 h1 h2; exact absurd h2 (by omega)
    | succ kk2 ih2 =>
      intro i s1 hi2 hk2 es eU eC H locs hP hD hS ls hl
      have hu2 := hu.1
      refine lv_iload_n hx hb dX2_workThose_2 rfl (lv_at hl 0 rfl) ?_
      refine lv_aload_n hx hb dX2_workThose_3 rfl (lv_at hl 1 rfl) ?_
      refine va_get (D := xD G) (ci := 2) (v := .int (nI (csC s1))) (C := RX2) (T := TX2) (N := 17) hx hb hts inX2 hown hK hP 0 rfl rfl 10 (by decide) kl58 (fun _ h9 => h9) rfl dX2_workThose_4 ?_
      refine x_icmp_ge (x := i) (y := csC s1) (tgt := 69) hx hb (by omega) (by omega) dX2_workThose_7 (by decide) (fun c7 => ?_) (fun c7 => ?_)
      · skip
        have e_2 : i = csC s0 := by omega
        rw [e_2] at es
        subst es
        exact hq H locs 69 ls dX2_workThose_69 (by skip; exact hP) (by skip; exact hD) hS
      · skip
        have hv1 : vp_in (csU s1 i) n := by rw [eU]; exact hu.2 i (by omega)
        have hv2 : ix (csU s1) i < n := vp_lt hv1
        refine lv_aload_n hx hb dX2_workThose_10 rfl (lv_at hl 1 rfl) ?_
        refine va_get (D := xD G) (ci := 2) (v := .ref (ra 9)) (C := RX2) (T := TX2) (N := 17) hx hb hts inX2 hown hK hP 0 rfl rfl 9 (by decide) kl31 (fun _ h9 => h9) rfl dX2_workThose_11 ?_
        refine lv_iload_n hx hb dX2_workThose_14 rfl (lv_at hl 0 rfl) ?_
        refine x_iald (i := i) hx hb hK hP 7 rfl (by first | omega | assumption) (by omega) dX2_workThose_15 ?_
        refine x_top (y := nI (ix (csU s1) i)) (nI_self hv1) ?_
        refine lv_istore_n (lv' := [(3, .int (nI (ix (csU s1) i))), (2, .int (nI i)), (0, .ref rA), (1, .int (b2 (u = true)))]) hx hb dX2_workThose_16 rfl hl (by decide) rfl (fun ls hl => ?_)
        refine lv_aload_n hx hb dX2_workThose_17 rfl (lv_at hl 2 rfl) ?_
        refine va_get (D := xD G) (ci := 2) (v := .ref (ra 3)) (C := RX2) (T := TX2) (N := 17) hx hb hts inX2 hown hK hP 0 rfl rfl 3 (by decide) kl9 (fun _ h9 => h9) rfl dX2_workThose_18 ?_
        refine lv_iload_n hx hb dX2_workThose_21 rfl (lv_at hl 0 rfl) ?_
        refine x_iald (i := ix (csU s1) i) hx hb hK hP 1 rfl (by first | omega | assumption) (by omega) dX2_workThose_22 ?_
        refine lv_istore (lv' := [(4, .int ((csP s1) (ix (csU s1) i))), (3, .int (nI (ix (csU s1) i))), (2, .int (nI i)), (0, .ref rA), (1, .int (b2 (u = true)))]) hx hb dX2_workThose_23 hl (by decide) rfl (fun ls hl => ?_)
        refine lv_aload_n hx hb dX2_workThose_25 rfl (lv_at hl 3 rfl) ?_
        refine va_get (D := xD G) (ci := 2) (v := .ref cA) (C := RX2) (T := TX2) (N := 17) hx hb hts inX2 hown hK hP 0 rfl rfl 0 (by decide) kl40 (fun _ h9 => h9) rfl dX2_workThose_26 ?_
        refine lv_iload hx hb dX2_workThose_29 (lv_at hl 0 rfl) ?_
        refine x_callR (As := [.int ((csP s1) (ix (csU s1) i))]) (rest := []) (ci := 0) (q0 := 9) ⟨hx, hb, hml, hown, hts⟩ (mX0_hasColumn l G cA ca (nI nc) (nI n) ((csP s1) (ix (csU s1) i)) ) (cwV 1 hts gX2_workThose_X0_hasColumn rfl rfl rfl (by decide +kernel) ⟨Nat.le_of_ble_eq_true rfl, Nat.le_of_ble_eq_true rfl⟩) hK hP hD [9] rfl rfl rfl rfl rfl rfl rfl hl.1 rfl (Nat.le_of_ble_eq_true rfl) dX2_workThose_31 ⟨Nat.zero_le _, Nat.zero_le _⟩ (fun r hr => ?_)
        subst hr
        refine x_if_eq (P := inC ((csP s1) (ix (csU s1) i)) (nI nc)) (tgt := 63) hx hb dX2_workThose_34 (by decide) (fun c34 => ?_) (fun c34 => ?_)
        · skip
          refine lv_iinc (v := nI (i + 1)) (lv' := [(2, .int (nI (i + 1))), (4, .int ((csP s1) (ix (csU s1) i))), (3, .int (nI (ix (csU s1) i))), (0, .ref rA), (1, .int (b2 (u = true)))]) hx hb dX2_workThose_63 hl (k := 2) rfl (by exact nI_add i 1) (by decide) rfl (fun ls hl => ?_)
          refine lv_goto (tgt := 2) hx hb dX2_workThose_66 (by decide) ?_
          exact ih2 (i + 1) (csP s1, csN s1, csL s1, csD s1, csW s1, csB s1, csU s1, csH s1, (csC s1), csA s1) (by omega) (by omega) (by simp only [itN, ← es]; unfold twB; exact (if_neg (fun h => c34 h.1)).symm) (by first | exact eU | exact (wcF_U ..).trans eU) (by first | exact eC | exact (wcF_C ..).trans eC) H locs hP hD hS ls (lv_sub hl [0, 3, 4] rfl)
        · skip
          have hk9 := vp_of c34.1 c34.2 (by omega)
          have hk8 : ix (csP s1) (ix (csU s1) i) < nc := vp_lt hk9
          refine lv_aload_n hx hb dX2_workThose_37 rfl (lv_at hl 3 rfl) ?_
          refine va_get (D := xD G) (ci := 2) (v := .ref (ra 4)) (C := RX2) (T := TX2) (N := 17) hx hb hts inX2 hown hK hP 0 rfl rfl 4 (by decide) kl15 (fun _ h9 => h9) rfl dX2_workThose_38 ?_
          refine lv_iload_n hx hb dX2_workThose_41 rfl (lv_at hl 1 rfl) ?_
          refine x_iald (i := ix (csU s1) i) hx hb hK hP 2 rfl (by first | omega | assumption) (by omega) dX2_workThose_42 ?_
          refine lv_iconst (v := (-1)) hx hb dX2_workThose_43 (by decide) ?_
          refine lv_icmp_ne (x := (csN s1) (ix (csU s1) i)) (y := (-1)) (tgt := 63) hx hb dX2_workThose_44 (by decide) (fun c44 => ?_) (fun c44 => ?_)
          · skip
            refine lv_iinc (v := nI (i + 1)) (lv' := [(2, .int (nI (i + 1))), (4, .int ((csP s1) (ix (csU s1) i))), (3, .int (nI (ix (csU s1) i))), (0, .ref rA), (1, .int (b2 (u = true)))]) hx hb dX2_workThose_63 hl (k := 2) rfl (by exact nI_add i 1) (by decide) rfl (fun ls hl => ?_)
            refine lv_goto (tgt := 2) hx hb dX2_workThose_66 (by decide) ?_
            exact ih2 (i + 1) (csP s1, csN s1, csL s1, csD s1, csW s1, csB s1, csU s1, csH s1, (csC s1), csA s1) (by omega) (by omega) (by simp only [itN, ← es]; unfold twB; exact (if_neg (fun h => c44 h.2.1)).symm) (by first | exact eU | exact (wcF_U ..).trans eU) (by first | exact eC | exact (wcF_C ..).trans eC) H locs hP hD hS ls (lv_sub hl [0, 3, 4] rfl)
          · skip
            refine lv_aload_n hx hb dX2_workThose_47 rfl (lv_at hl 3 rfl) ?_
            refine lv_iload_n hx hb dX2_workThose_48 rfl (lv_at hl 1 rfl) ?_
            refine x_callR (As := [.int (nI (ix (csU s1) i))]) (rest := []) (ci := 2) (q0 := 0) ⟨hx, hb, hml, hown, hts⟩ (mX2_isUrgent l G rA cA uA ra nob (nI (csC s1)) day last (csA s1) rst ca (nI nc) (nI n) urg (ix (csU s1) i) (by first | assumption | omega)) (cwV 1 hts gX2_workThose_X2_isUrgent rfl rfl rfl (by decide +kernel) ⟨Nat.le_of_ble_eq_true rfl, Nat.le_of_ble_eq_true rfl⟩) hK hP hD [0, 9, 10] rfl rfl rfl rfl rfl rfl rfl hl.1 rfl (Nat.le_of_ble_eq_true rfl) dX2_workThose_49 ⟨Nat.zero_le _, Nat.zero_le _⟩ (fun r hr => ?_)
            subst hr
            refine lv_iload_n hx hb dX2_workThose_52 rfl (lv_at hl 4 rfl) ?_
            refine x_bcmp_ne (P := urgP urg nob (ix (csU s1) i)) (U := u = true) (tgt := 63) hx hb dX2_workThose_53 (by decide) (fun c53 => ?_) (fun c53 => ?_)
            · skip
              refine lv_iinc (v := nI (i + 1)) (lv' := [(2, .int (nI (i + 1))), (4, .int ((csP s1) (ix (csU s1) i))), (3, .int (nI (ix (csU s1) i))), (0, .ref rA), (1, .int (b2 (u = true)))]) hx hb dX2_workThose_63 hl (k := 2) rfl (by exact nI_add i 1) (by decide) rfl (fun ls hl => ?_)
              refine lv_goto (tgt := 2) hx hb dX2_workThose_66 (by decide) ?_
              exact ih2 (i + 1) (csP s1, csN s1, csL s1, csD s1, csW s1, csB s1, csU s1, csH s1, (csC s1), csA s1) (by omega) (by omega) (by simp only [itN, ← es]; unfold twB; exact (if_neg (fun h => c53 h.2.2)).symm) (by first | exact eU | exact (wcF_U ..).trans eU) (by first | exact eC | exact (wcF_C ..).trans eC) H locs hP hD hS ls (lv_sub hl [0, 3, 4] rfl)
            · skip
              refine lv_aload_n hx hb dX2_workThose_56 rfl (lv_at hl 3 rfl) ?_
              refine lv_iload_n hx hb dX2_workThose_57 rfl (lv_at hl 1 rfl) ?_
              refine lv_iload hx hb dX2_workThose_58 (lv_at hl 0 rfl) ?_
              refine x_top (y := nI (ix (csP s1) (ix (csU s1) i))) (nI_self hk9) ?_
              refine x_callM (As := [.int (nI (ix (csU s1) i)), .int (nI (ix (csP s1) (ix (csU s1) i)))]) (rest := []) (w2 := [oRun rA cA uA ra nob (nI (csC (wcF bfrom bto nc day pac s1 (ix (csU s1) i) (ix (csP s1) (ix (csU s1) i))))) day last (csA (wcF bfrom bto nc day pac s1 (ix (csU s1) i) (ix (csP s1) (ix (csU s1) i)))) rst, xI G (ra 3) 16 (csP (wcF bfrom bto nc day pac s1 (ix (csU s1) i) (ix (csP s1) (ix (csU s1) i)))), xI G (ra 4) 16 (csN (wcF bfrom bto nc day pac s1 (ix (csU s1) i) (ix (csP s1) (ix (csU s1) i)))), xI G (ra 5) 16 (csL (wcF bfrom bto nc day pac s1 (ix (csU s1) i) (ix (csP s1) (ix (csU s1) i)))), xI G (ra 6) 16 (csD (wcF bfrom bto nc day pac s1 (ix (csU s1) i) (ix (csP s1) (ix (csU s1) i)))), xZ G (ra 7) 16 (csW (wcF bfrom bto nc day pac s1 (ix (csU s1) i) (ix (csP s1) (ix (csU s1) i)))), xZ G (ra 8) 16 (csB (wcF bfrom bto nc day pac s1 (ix (csU s1) i) (ix (csP s1) (ix (csU s1) i)))), xI G (ra 9) 16 (csU (wcF bfrom bto nc day pac s1 (ix (csU s1) i) (ix (csP s1) (ix (csU s1) i)))), xI G (ra 11) 4 (csH (wcF bfrom bto nc day pac s1 (ix (csU s1) i) (ix (csP s1) (ix (csU s1) i)))), oCards cA ca (nI nc) (nI n), xZ G (ca 3) 16 urg, xI G (ca 5) 16 bfrom, xI G (ca 6) 16 bto, oRules uA ua pac]) (wr := [xZ G (ca 3) 16 urg]) (ci := 2) (q0 := 0) ⟨hx, hb, hml, hown, hts⟩ (mX2_workCard l G rA cA uA ra nob s1 day last rst ca nc (nI n) bfrom bto ua pac (ix (csU s1) i) (ix (csP s1) (ix (csU s1) i)) (by first | assumption | omega) (by first | assumption | omega)) (cwV 2 hts gX2_workThose_X2_workCard rfl rfl rfl (by decide +kernel) ⟨Nat.le_of_ble_eq_true rfl, Nat.le_of_ble_eq_true rfl⟩) hK hP hD hS hA [0, 1, 2, 3, 4, 5, 6, 7, 8, 9, 11, 12, 13] [10] [1, 2, 3, 4, 5, 6, 7, 8, 9, 10, 0, 11, 12, 13] rfl rfl rfl rfl rfl (by decide) rfl rfl rfl rfl rfl rfl rfl hl.1 rfl (Nat.le_of_ble_eq_true rfl) dX2_workThose_60 ⟨Nat.zero_le _, Nat.zero_le _⟩ (fun H locs hP hD hS => ?_)
              refine lv_iinc (v := nI (i + 1)) (lv' := [(2, .int (nI (i + 1))), (4, .int ((csP s1) (ix (csU s1) i))), (3, .int (nI (ix (csU s1) i))), (0, .ref rA), (1, .int (b2 (u = true)))]) hx hb dX2_workThose_63 hl (k := 2) rfl (by exact nI_add i 1) (by decide) rfl (fun ls hl => ?_)
              refine lv_goto (tgt := 2) hx hb dX2_workThose_66 (by decide) ?_
              exact ih2 (i + 1) (csP (wcF bfrom bto nc day pac s1 (ix (csU s1) i) (ix (csP s1) (ix (csU s1) i))), csN (wcF bfrom bto nc day pac s1 (ix (csU s1) i) (ix (csP s1) (ix (csU s1) i))), csL (wcF bfrom bto nc day pac s1 (ix (csU s1) i) (ix (csP s1) (ix (csU s1) i))), csD (wcF bfrom bto nc day pac s1 (ix (csU s1) i) (ix (csP s1) (ix (csU s1) i))), csW (wcF bfrom bto nc day pac s1 (ix (csU s1) i) (ix (csP s1) (ix (csU s1) i))), csB (wcF bfrom bto nc day pac s1 (ix (csU s1) i) (ix (csP s1) (ix (csU s1) i))), csU (wcF bfrom bto nc day pac s1 (ix (csU s1) i) (ix (csP s1) (ix (csU s1) i))), csH (wcF bfrom bto nc day pac s1 (ix (csU s1) i) (ix (csP s1) (ix (csU s1) i))), (csC (wcF bfrom bto nc day pac s1 (ix (csU s1) i) (ix (csP s1) (ix (csU s1) i)))), csA (wcF bfrom bto nc day pac s1 (ix (csU s1) i) (ix (csP s1) (ix (csU s1) i)))) (by omega) (by omega) (by simp only [itN, ← es]; unfold twB; exact (if_pos ⟨c34, c44, c53⟩).symm) (by first | exact eU | exact (wcF_U ..).trans eU) (by first | exact eC | exact (wcF_C ..).trans eC) H locs hP hD hS ls (lv_sub hl [0, 3, 4] rfl)
  exact L2 (csC s0 + 1) 0 s0 (by omega) (by omega) (rfl) (rfl) (rfl) H locs hP hD hS ls (lv_sub hl [0, 1, 2] rfl)
set_option maxHeartbeats 4000000 in
set_option maxRecDepth 100000 in
theorem mX2_runNextDay (l : Launch) (G : xG) (rA : Nat) (cA : Nat) (uA : Nat) (ra : Nat → Nat) (nob : Int32) (s0 : CS) (j0 : Nat) (last : Int32) (rst : Int32) (ca : Nat → Nat) (nc : Nat) (n : Nat) (cday : Nat → Int32) (urg : Nat → Int32) (waits : Nat → Int32) (bfrom : Nat → Int32) (bto : Nat → Int32) (byd : Nat → Int32) (szs : Nat → Int32) (ua : Nat → Nat) (pac : Int32) (lim : Nat → Int32) (lan : Nat → Int32) (han : Nat → Int32)  (hn : n ≤ 16) (hnc : nc ≤ 4) (hby : ∀ t9, t9 < n → vp_in (byd t9) n) (hu : UV n s0) (hj : j0 ≤ 4000) : xM l yX2_runNextDay wsX2_runNextDay ({ frames := 3, cells := 0, slots := 0, locals := 70 } : Room) [.ref rA] G [oRun rA cA uA ra nob (nI (csC s0)) (dn j0) last (csA s0) rst, xI G (ra 3) 16 (csP s0), xI G (ra 4) 16 (csN s0), xI G (ra 5) 16 (csL s0), xI G (ra 6) 16 (csD s0), xZ G (ra 7) 16 (csW s0), xZ G (ra 8) 16 (csB s0), xI G (ra 9) 16 (csU s0), xI G (ra 11) 4 (csH s0), oCards cA ca (nI nc) (nI n), xI G (ca 2) 16 cday, xZ G (ca 3) 16 urg, xI G (ca 4) 16 waits, xI G (ca 5) 16 bfrom, xI G (ca 6) 16 bto, xI G (ca 7) 16 byd, xI G (ca 8) 64 szs, oRules uA ua pac, xI G (ua 0) 4 lim, xI G (ua 1) 4 lan, xI G (ua 2) 4 han] [oRun rA cA uA ra nob (nI (csC (ndF cday urg waits bfrom bto byd szs lim lan han n nc nob pac j0 s0))) (nI j0) (ndL cday urg waits bfrom bto byd szs lim lan han n nc nob pac j0 s0 last) (csA (ndF cday urg waits bfrom bto byd szs lim lan han n nc nob pac j0 s0)) (ndR cday urg waits bfrom bto byd szs lim lan han n nc nob pac j0 s0), xI G (ra 3) 16 (csP (ndF cday urg waits bfrom bto byd szs lim lan han n nc nob pac j0 s0)), xI G (ra 4) 16 (csN (ndF cday urg waits bfrom bto byd szs lim lan han n nc nob pac j0 s0)), xI G (ra 5) 16 (csL (ndF cday urg waits bfrom bto byd szs lim lan han n nc nob pac j0 s0)), xI G (ra 6) 16 (csD (ndF cday urg waits bfrom bto byd szs lim lan han n nc nob pac j0 s0)), xZ G (ra 7) 16 (csW (ndF cday urg waits bfrom bto byd szs lim lan han n nc nob pac j0 s0)), xZ G (ra 8) 16 (csB (ndF cday urg waits bfrom bto byd szs lim lan han n nc nob pac j0 s0)), xI G (ra 9) 16 (csU (ndF cday urg waits bfrom bto byd szs lim lan han n nc nob pac j0 s0)), xI G (ra 11) 4 (csH (ndF cday urg waits bfrom bto byd szs lim lan han n nc nob pac j0 s0)), oCards cA ca (nI nc) (nI n), xI G (ca 2) 16 cday, xZ G (ca 3) 16 urg, xI G (ca 4) 16 waits, xI G (ca 5) 16 bfrom, xI G (ca 6) 16 bto, xI G (ca 7) 16 byd, xI G (ca 8) 64 szs, oRules uA ua pac, xI G (ua 0) 4 lim, xI G (ua 1) 4 lan, xI G (ua 2) 4 han] := by
  refine xM_of (cc := cX2_runNextDay) (maxL := 2) (by decide) rfl (Nat.le_of_ble_eq_true rfl) ?_
  intro p e s m below meth cO ls Q A hx hb hml hown hts hP hK hD hS hA hl hq
  have hown : s.vm.findClass RX2 = some m.cls := hown
  have kl40 := hts (.fieldLink RX2 40 "WorkBoard$Run" "cards" "LWorkBoard$Cards;") (List.mem_of_getElem? (i := 1) rfl)
  have kl130 := hts (.fieldLink RX2 130 "WorkBoard$Cards" "columns" "I") (List.mem_of_getElem? (i := 2) rfl)
  have kl44 := hts (.fieldLink RX2 44 "WorkBoard$Run" "rules" "LWorkBoard$Rules;") (List.mem_of_getElem? (i := 3) rfl)
  have kl133 := hts (.fieldLink RX2 133 "WorkBoard$Rules" "lane" "[I") (List.mem_of_getElem? (i := 4) rfl)
  have kl142 := hts (.fieldLink RX2 142 "WorkBoard$Rules" "limit" "[I") (List.mem_of_getElem? (i := 5) rfl)
  have kl145 := hts (.fieldLink RX2 145 "WorkBoard$Rules" "hands" "[I") (List.mem_of_getElem? (i := 6) rfl)
  have kl34 := hts (.fieldLink RX2 34 "WorkBoard$Run" "handsLeft" "[I") (List.mem_of_getElem? (i := 7) rfl)
  have kl158 := hts (.fieldLink RX2 158 "WorkBoard$Run" "active" "Z") (List.mem_of_getElem? (i := 12) rfl)
  have kl62 := hts (.fieldLink RX2 62 "WorkBoard$Run" "day" "I") (List.mem_of_getElem? (i := 13) rfl)
  have kl65 := hts (.fieldLink RX2 65 "WorkBoard$Run" "lastActive" "I") (List.mem_of_getElem? (i := 14) rfl)
  have kl68 := hts (.fieldLink RX2 68 "WorkBoard$Run" "resting" "Z") (List.mem_of_getElem? (i := 15) rfl)
  have inX0 : ∀ w ∈ u_ws RX0 TX0 9, w ∈ wsX2_runNextDay := (fun w h => List.mem_cons_of_mem _ (List.mem_append_left _ (List.mem_append_right _ h)))
  have inX1 : ∀ w ∈ u_ws RX1 TX1 4, w ∈ wsX2_runNextDay := (fun w h => List.mem_cons_of_mem _ (List.mem_append_right _ h))
  have inX2 : ∀ w ∈ u_ws RX2 TX2 17, w ∈ wsX2_runNextDay := (fun w h => List.mem_cons_of_mem _ (List.mem_append_left _ (List.mem_append_left _ (List.mem_append_right _ h))))
  have hl : lv_has ls 2 [(0, .ref rA)] := hl
  have hD : va_D A [oRun rA cA uA ra nob (nI (csC s0)) (dn j0) last (csA s0) rst, xI G (ra 3) 16 (csP s0), xI G (ra 4) 16 (csN s0), xI G (ra 5) 16 (csL s0), xI G (ra 6) 16 (csD s0), xZ G (ra 7) 16 (csW s0), xZ G (ra 8) 16 (csB s0), xI G (ra 9) 16 (csU s0), xI G (ra 11) 4 (csH s0), oCards cA ca (nI nc) (nI n), xI G (ca 2) 16 cday, xZ G (ca 3) 16 urg, xI G (ca 4) 16 waits, xI G (ca 5) 16 bfrom, xI G (ca 6) 16 bto, xI G (ca 7) 16 byd, xI G (ca 8) 64 szs, oRules uA ua pac, xI G (ua 0) 4 lim, xI G (ua 1) 4 lan, xI G (ua 2) 4 han] := hD
  obtain ⟨H, hH⟩ : ∃ z, z = s.heap := ⟨_, rfl⟩
  obtain ⟨locs, hlocs⟩ : ∃ z : List Loc, z = [] := ⟨_, rfl⟩
  have hS : va_S A s.heap H locs := by rw [hH, hlocs]; exact hS
  have hP : va_P (xD G) vwCl [oRun rA cA uA ra nob (nI (csC s0)) (dn j0) last (csA s0) rst, xI G (ra 3) 16 (csP s0), xI G (ra 4) 16 (csN s0), xI G (ra 5) 16 (csL s0), xI G (ra 6) 16 (csD s0), xZ G (ra 7) 16 (csW s0), xZ G (ra 8) 16 (csB s0), xI G (ra 9) 16 (csU s0), xI G (ra 11) 4 (csH s0), oCards cA ca (nI nc) (nI n), xI G (ca 2) 16 cday, xZ G (ca 3) 16 urg, xI G (ca 4) 16 waits, xI G (ca 5) 16 bfrom, xI G (ca 6) 16 bto, xI G (ca 7) 16 byd, xI G (ca 8) 64 szs, oRules uA ua pac, xI G (ua 0) 4 lim, xI G (ua 1) 4 lan, xI G (ua 2) 4 han] H := by rw [hH]; exact hP
  rw [← hH, ← hlocs]
  clear hH hlocs
  refine lv_aload_n hx hb dX2_runNextDay_0 rfl (lv_at hl 0 rfl) ?_
  refine x_callM (As := []) (rest := []) (w2 := [oRun rA cA uA ra nob (nI (csC (bgF cday n (nI j0) s0))) (nI j0) last (csA (bgF cday n (nI j0) s0)) rst, xI G (ra 3) 16 (csP (bgF cday n (nI j0) s0)), xI G (ra 4) 16 (csN (bgF cday n (nI j0) s0)), xI G (ra 5) 16 (csL (bgF cday n (nI j0) s0)), xI G (ra 6) 16 (csD (bgF cday n (nI j0) s0)), xZ G (ra 7) 16 (csW (bgF cday n (nI j0) s0)), xZ G (ra 8) 16 (csB (bgF cday n (nI j0) s0)), xI G (ra 9) 16 (csU (bgF cday n (nI j0) s0)), xI G (ra 11) 4 (csH (bgF cday n (nI j0) s0)), oCards cA ca (nI nc) (nI n), xI G (ca 2) 16 cday, xZ G (ca 3) 16 urg, xI G (ca 4) 16 waits, xI G (ca 5) 16 bfrom, xI G (ca 6) 16 bto, xI G (ca 7) 16 byd, xI G (ca 8) 64 szs, oRules uA ua pac, xI G (ua 0) 4 lim, xI G (ua 1) 4 lan, xI G (ua 2) 4 han]) (wr := [xZ G (ca 3) 16 urg, xI G (ca 4) 16 waits, xI G (ca 5) 16 bfrom, xI G (ca 6) 16 bto, xI G (ca 7) 16 byd, xI G (ca 8) 64 szs, oRules uA ua pac, xI G (ua 0) 4 lim, xI G (ua 1) 4 lan, xI G (ua 2) 4 han]) (ci := 2) (q0 := 0) ⟨hx, hb, hml, hown, hts⟩ (mX2_beginDay l G rA cA uA ra nob s0 j0 last rst ca (nI nc) n cday (by first | assumption | omega)) (cwV 0 hts gX2_runNextDay_X2_beginDay rfl rfl rfl (by decide +kernel) ⟨Nat.le_of_ble_eq_true rfl, Nat.le_of_ble_eq_true rfl⟩) hK hP hD hS hA [0, 1, 2, 3, 4, 5, 6, 7, 8, 9, 10] [11, 12, 13, 14, 15, 16, 17, 18, 19, 20] [10, 11, 12, 13, 14, 15, 16, 17, 18, 19, 20, 0, 1, 2, 3, 4, 5, 6, 7, 8, 9] rfl rfl rfl rfl rfl (by decide) rfl rfl rfl rfl rfl rfl rfl hl.1 rfl (Nat.le_of_ble_eq_true rfl) dX2_runNextDay_1 ⟨Nat.zero_le _, Nat.zero_le _⟩ (fun H locs hP hD hS => ?_)
  refine lv_aload_n hx hb dX2_runNextDay_4 rfl (lv_at hl 0 rfl) ?_
  refine va_get (D := xD G) (ci := 2) (v := .ref cA) (C := RX2) (T := TX2) (N := 17) hx hb hts inX2 hown hK hP 0 rfl rfl 0 (by decide) kl40 (fun _ h9 => h9) rfl dX2_runNextDay_5 ?_
  refine va_get (D := xD G) (ci := 0) (v := .int (nI nc)) (C := RX0) (T := TX0) (N := 9) hx hb hts inX0 hown hK hP 9 rfl rfl 0 (by decide) kl130 (fun _ h9 => h9) rfl dX2_runNextDay_8 ?_
  refine lv_iconst (v := 1) hx hb dX2_runNextDay_11 (by decide) ?_
  refine lv_isub hx hb dX2_runNextDay_12 ?_
  refine x_top (y := dn nc) (dn_of nc) ?_
  refine lv_istore_n (lv' := [(1, .int (dn nc)), (0, .ref rA)]) hx hb dX2_runNextDay_13 rfl hl (by decide) rfl (fun ls hl => ?_)
  have L14 : ∀ (j : Nat) (s1 : CS), j ≤ nc → (plF urg waits byd szs lim lan n nob (nI j0) j s1 = plF urg waits byd szs lim lan n nob (nI j0) nc (bgF cday n (nI j0) s0)) → (UV n s1) → ∀ (H : Heap) (locs : List Loc), va_P (xD G) vwCl [oRun rA cA uA ra nob (nI (csC s1)) (nI j0) last (csA s1) rst, xI G (ra 3) 16 (csP s1), xI G (ra 4) 16 (csN s1), xI G (ra 5) 16 (csL s1), xI G (ra 6) 16 (csD s1), xZ G (ra 7) 16 (csW s1), xZ G (ra 8) 16 (csB s1), xI G (ra 9) 16 (csU s1), xI G (ra 11) 4 (csH s1), oCards cA ca (nI nc) (nI n), xI G (ca 2) 16 cday, xZ G (ca 3) 16 urg, xI G (ca 4) 16 waits, xI G (ca 5) 16 bfrom, xI G (ca 6) 16 bto, xI G (ca 7) 16 byd, xI G (ca 8) 64 szs, oRules uA ua pac, xI G (ua 0) 4 lim, xI G (ua 1) 4 lan, xI G (ua 2) 4 han] H → va_D A [oRun rA cA uA ra nob (nI (csC s1)) (nI j0) last (csA s1) rst, xI G (ra 3) 16 (csP s1), xI G (ra 4) 16 (csN s1), xI G (ra 5) 16 (csL s1), xI G (ra 6) 16 (csD s1), xZ G (ra 7) 16 (csW s1), xZ G (ra 8) 16 (csB s1), xI G (ra 9) 16 (csU s1), xI G (ra 11) 4 (csH s1), oCards cA ca (nI nc) (nI n), xI G (ca 2) 16 cday, xZ G (ca 3) 16 urg, xI G (ca 4) 16 waits, xI G (ca 5) 16 bfrom, xI G (ca 6) 16 bto, xI G (ca 7) 16 byd, xI G (ca 8) 64 szs, oRules uA ua pac, xI G (ua 0) 4 lim, xI G (ua 1) 4 lan, xI G (ua 2) 4 han] → va_S A s.heap H locs → ∀ (ls : Array Slot), lv_has ls 2 [(1, .int (dn j)), (0, .ref rA)] → W p l e ({ frames := 3, cells := 0, slots := 0, locals := 70 } : Room) s m #[Value.ref rA] below meth cO H locs 0 0 Q (F0 m 14 ls []) := by
    intro j
    induction j with
    | zero =>
      intro s1 hi14 es hu1 H locs hP hD hS ls hl
      have hl : lv_has ls 2 [(1, .int (-1)), (0, .ref rA)] := hl
      refine lv_iload_n hx hb dX2_runNextDay_14 rfl (lv_at hl 0 rfl) ?_
      refine lv_if_lt (x := (-1)) (tgt := 54) hx hb dX2_runNextDay_15 (by decide) (fun c15 => ?_) (fun c15 => ?_)
      · skip
        have hu5 : UV n (hsF han (plF urg waits byd szs lim lan n nob (nI j0) nc (bgF cday n (nI j0) s0))) := UV_pl urg waits byd szs lim lan n nob hby hn nc _ (UV_bg hu)
        have es : s1 = (plF urg waits byd szs lim lan n nob (nI j0) nc (bgF cday n (nI j0) s0)) := es
        subst es
        refine lv_aload_n hx hb dX2_runNextDay_54 rfl (lv_at hl 1 rfl) ?_
        refine va_get (D := xD G) (ci := 2) (v := .ref uA) (C := RX2) (T := TX2) (N := 17) hx hb hts inX2 hown hK hP 0 rfl rfl 1 (by decide) kl44 (fun _ h9 => h9) rfl dX2_runNextDay_55 ?_
        refine va_get (D := xD G) (ci := 1) (v := .ref (ua 2)) (C := RX1) (T := TX1) (N := 4) hx hb hts inX1 hown hK hP 17 rfl rfl 2 (by decide) kl145 (fun _ h9 => h9) rfl dX2_runNextDay_58 ?_
        refine lv_iconst (v := 0) hx hb dX2_runNextDay_61 (by decide) ?_
        refine lv_aload_n hx hb dX2_runNextDay_62 rfl (lv_at hl 1 rfl) ?_
        refine va_get (D := xD G) (ci := 2) (v := .ref (ra 11)) (C := RX2) (T := TX2) (N := 17) hx hb hts inX2 hown hK hP 0 rfl rfl 11 (by decide) kl34 (fun _ h9 => h9) rfl dX2_runNextDay_63 ?_
        refine lv_iconst (v := 0) hx hb dX2_runNextDay_66 (by decide) ?_
        refine lv_iconst (v := 4) hx hb dX2_runNextDay_67 (by decide) ?_
        refine va_copyi hx hb (hml.trans hl.1.symm) hown (hts (.methodLink RX2 148 arraycopyName) (List.mem_of_getElem? (i := 8) rfl)) (hts (.native arraycopyName) (List.mem_of_getElem? (i := 9) rfl)) (hts (.static arraycopyName) (List.mem_of_getElem? (i := 10) rfl)) (hts (.initialized "java/lang/System") (List.mem_of_getElem? (i := 11) rfl)) hK hP hD hS 20 8 0 0 rfl rfl rfl rfl rfl (by decide) (by decide) (by decide) (Nat.le_of_ble_eq_true rfl) (Nat.le_of_ble_eq_true rfl) (fun _ _ => rfl) (Nat.le_of_ble_eq_true rfl) (Nat.le_of_ble_eq_true rfl) dX2_runNextDay_68 (fun H locs hP hD hS => ?_)
        have hP : va_P (xD G) vwCl [oRun rA cA uA ra nob (nI (csC (plF urg waits byd szs lim lan n nob (nI j0) nc (bgF cday n (nI j0) s0)))) (nI j0) last (csA (plF urg waits byd szs lim lan n nob (nI j0) nc (bgF cday n (nI j0) s0))) rst, xI G (ra 3) 16 (csP (plF urg waits byd szs lim lan n nob (nI j0) nc (bgF cday n (nI j0) s0))), xI G (ra 4) 16 (csN (plF urg waits byd szs lim lan n nob (nI j0) nc (bgF cday n (nI j0) s0))), xI G (ra 5) 16 (csL (plF urg waits byd szs lim lan n nob (nI j0) nc (bgF cday n (nI j0) s0))), xI G (ra 6) 16 (csD (plF urg waits byd szs lim lan n nob (nI j0) nc (bgF cday n (nI j0) s0))), xZ G (ra 7) 16 (csW (plF urg waits byd szs lim lan n nob (nI j0) nc (bgF cday n (nI j0) s0))), xZ G (ra 8) 16 (csB (plF urg waits byd szs lim lan n nob (nI j0) nc (bgF cday n (nI j0) s0))), xI G (ra 9) 16 (csU (plF urg waits byd szs lim lan n nob (nI j0) nc (bgF cday n (nI j0) s0))), xI G (ra 11) 4 (va_cpy han (csH (plF urg waits byd szs lim lan n nob (nI j0) nc (bgF cday n (nI j0) s0))) 0 0 4), oCards cA ca (nI nc) (nI n), xI G (ca 2) 16 cday, xZ G (ca 3) 16 urg, xI G (ca 4) 16 waits, xI G (ca 5) 16 bfrom, xI G (ca 6) 16 bto, xI G (ca 7) 16 byd, xI G (ca 8) 64 szs, oRules uA ua pac, xI G (ua 0) 4 lim, xI G (ua 1) 4 lan, xI G (ua 2) 4 han] H := hP
        have hD : va_D A [oRun rA cA uA ra nob (nI (csC (plF urg waits byd szs lim lan n nob (nI j0) nc (bgF cday n (nI j0) s0)))) (nI j0) last (csA (plF urg waits byd szs lim lan n nob (nI j0) nc (bgF cday n (nI j0) s0))) rst, xI G (ra 3) 16 (csP (plF urg waits byd szs lim lan n nob (nI j0) nc (bgF cday n (nI j0) s0))), xI G (ra 4) 16 (csN (plF urg waits byd szs lim lan n nob (nI j0) nc (bgF cday n (nI j0) s0))), xI G (ra 5) 16 (csL (plF urg waits byd szs lim lan n nob (nI j0) nc (bgF cday n (nI j0) s0))), xI G (ra 6) 16 (csD (plF urg waits byd szs lim lan n nob (nI j0) nc (bgF cday n (nI j0) s0))), xZ G (ra 7) 16 (csW (plF urg waits byd szs lim lan n nob (nI j0) nc (bgF cday n (nI j0) s0))), xZ G (ra 8) 16 (csB (plF urg waits byd szs lim lan n nob (nI j0) nc (bgF cday n (nI j0) s0))), xI G (ra 9) 16 (csU (plF urg waits byd szs lim lan n nob (nI j0) nc (bgF cday n (nI j0) s0))), xI G (ra 11) 4 (va_cpy han (csH (plF urg waits byd szs lim lan n nob (nI j0) nc (bgF cday n (nI j0) s0))) 0 0 4), oCards cA ca (nI nc) (nI n), xI G (ca 2) 16 cday, xZ G (ca 3) 16 urg, xI G (ca 4) 16 waits, xI G (ca 5) 16 bfrom, xI G (ca 6) 16 bto, xI G (ca 7) 16 byd, xI G (ca 8) 64 szs, oRules uA ua pac, xI G (ua 0) 4 lim, xI G (ua 1) 4 lan, xI G (ua 2) 4 han] := hD
        refine lv_aload_n hx hb dX2_runNextDay_71 rfl (lv_at hl 1 rfl) ?_
        refine lv_iconst (v := 1) hx hb dX2_runNextDay_72 (by decide) ?_
        refine x_callM (As := [.int 1]) (rest := []) (w2 := [oRun rA cA uA ra nob (nI (csC (twF urg bfrom bto nc nob (nI j0) pac true (hsF han (plF urg waits byd szs lim lan n nob (nI j0) nc (bgF cday n (nI j0) s0)))))) (nI j0) last (csA (twF urg bfrom bto nc nob (nI j0) pac true (hsF han (plF urg waits byd szs lim lan n nob (nI j0) nc (bgF cday n (nI j0) s0))))) rst, xI G (ra 3) 16 (csP (twF urg bfrom bto nc nob (nI j0) pac true (hsF han (plF urg waits byd szs lim lan n nob (nI j0) nc (bgF cday n (nI j0) s0))))), xI G (ra 4) 16 (csN (twF urg bfrom bto nc nob (nI j0) pac true (hsF han (plF urg waits byd szs lim lan n nob (nI j0) nc (bgF cday n (nI j0) s0))))), xI G (ra 5) 16 (csL (twF urg bfrom bto nc nob (nI j0) pac true (hsF han (plF urg waits byd szs lim lan n nob (nI j0) nc (bgF cday n (nI j0) s0))))), xI G (ra 6) 16 (csD (twF urg bfrom bto nc nob (nI j0) pac true (hsF han (plF urg waits byd szs lim lan n nob (nI j0) nc (bgF cday n (nI j0) s0))))), xZ G (ra 7) 16 (csW (twF urg bfrom bto nc nob (nI j0) pac true (hsF han (plF urg waits byd szs lim lan n nob (nI j0) nc (bgF cday n (nI j0) s0))))), xZ G (ra 8) 16 (csB (twF urg bfrom bto nc nob (nI j0) pac true (hsF han (plF urg waits byd szs lim lan n nob (nI j0) nc (bgF cday n (nI j0) s0))))), xI G (ra 9) 16 (csU (twF urg bfrom bto nc nob (nI j0) pac true (hsF han (plF urg waits byd szs lim lan n nob (nI j0) nc (bgF cday n (nI j0) s0))))), xI G (ra 11) 4 (csH (twF urg bfrom bto nc nob (nI j0) pac true (hsF han (plF urg waits byd szs lim lan n nob (nI j0) nc (bgF cday n (nI j0) s0))))), oCards cA ca (nI nc) (nI n), xI G (ca 2) 16 cday, xZ G (ca 3) 16 urg, xI G (ca 4) 16 waits, xI G (ca 5) 16 bfrom, xI G (ca 6) 16 bto, xI G (ca 7) 16 byd, xI G (ca 8) 64 szs, oRules uA ua pac, xI G (ua 0) 4 lim, xI G (ua 1) 4 lan, xI G (ua 2) 4 han]) (wr := [xI G (ca 2) 16 cday, xI G (ca 4) 16 waits, xI G (ca 7) 16 byd, xI G (ca 8) 64 szs, xI G (ua 0) 4 lim, xI G (ua 1) 4 lan, xI G (ua 2) 4 han]) (ci := 2) (q0 := 0) ⟨hx, hb, hml, hown, hts⟩ (mX2_workThose l G rA cA uA ra nob (hsF han (plF urg waits byd szs lim lan n nob (nI j0) nc (bgF cday n (nI j0) s0))) (nI j0) last rst ca nc n urg bfrom bto ua pac true (by first | assumption | omega) (by first | assumption | omega) (hu5)) (cwV 1 hts gX2_runNextDay_X2_workThose rfl rfl rfl (by decide +kernel) ⟨Nat.le_of_ble_eq_true rfl, Nat.le_of_ble_eq_true rfl⟩) hK hP hD hS hA [0, 1, 2, 3, 4, 5, 6, 7, 8, 9, 11, 13, 14, 17] [10, 12, 15, 16, 18, 19, 20] [7, 8, 9, 10, 11, 12, 13, 14, 15, 16, 0, 17, 1, 18, 19, 2, 3, 20, 4, 5, 6] rfl rfl rfl rfl rfl (by decide) rfl rfl rfl rfl rfl rfl rfl hl.1 rfl (Nat.le_of_ble_eq_true rfl) dX2_runNextDay_73 ⟨Nat.zero_le _, Nat.zero_le _⟩ (fun H locs hP hD hS => ?_)
        refine lv_aload_n hx hb dX2_runNextDay_76 rfl (lv_at hl 1 rfl) ?_
        refine lv_iconst (v := 0) hx hb dX2_runNextDay_77 (by decide) ?_
        refine x_callM (As := [.int 0]) (rest := []) (w2 := [oRun rA cA uA ra nob (nI (csC (twF urg bfrom bto nc nob (nI j0) pac false (twF urg bfrom bto nc nob (nI j0) pac true (hsF han (plF urg waits byd szs lim lan n nob (nI j0) nc (bgF cday n (nI j0) s0))))))) (nI j0) last (csA (twF urg bfrom bto nc nob (nI j0) pac false (twF urg bfrom bto nc nob (nI j0) pac true (hsF han (plF urg waits byd szs lim lan n nob (nI j0) nc (bgF cday n (nI j0) s0)))))) rst, xI G (ra 3) 16 (csP (twF urg bfrom bto nc nob (nI j0) pac false (twF urg bfrom bto nc nob (nI j0) pac true (hsF han (plF urg waits byd szs lim lan n nob (nI j0) nc (bgF cday n (nI j0) s0)))))), xI G (ra 4) 16 (csN (twF urg bfrom bto nc nob (nI j0) pac false (twF urg bfrom bto nc nob (nI j0) pac true (hsF han (plF urg waits byd szs lim lan n nob (nI j0) nc (bgF cday n (nI j0) s0)))))), xI G (ra 5) 16 (csL (twF urg bfrom bto nc nob (nI j0) pac false (twF urg bfrom bto nc nob (nI j0) pac true (hsF han (plF urg waits byd szs lim lan n nob (nI j0) nc (bgF cday n (nI j0) s0)))))), xI G (ra 6) 16 (csD (twF urg bfrom bto nc nob (nI j0) pac false (twF urg bfrom bto nc nob (nI j0) pac true (hsF han (plF urg waits byd szs lim lan n nob (nI j0) nc (bgF cday n (nI j0) s0)))))), xZ G (ra 7) 16 (csW (twF urg bfrom bto nc nob (nI j0) pac false (twF urg bfrom bto nc nob (nI j0) pac true (hsF han (plF urg waits byd szs lim lan n nob (nI j0) nc (bgF cday n (nI j0) s0)))))), xZ G (ra 8) 16 (csB (twF urg bfrom bto nc nob (nI j0) pac false (twF urg bfrom bto nc nob (nI j0) pac true (hsF han (plF urg waits byd szs lim lan n nob (nI j0) nc (bgF cday n (nI j0) s0)))))), xI G (ra 9) 16 (csU (twF urg bfrom bto nc nob (nI j0) pac false (twF urg bfrom bto nc nob (nI j0) pac true (hsF han (plF urg waits byd szs lim lan n nob (nI j0) nc (bgF cday n (nI j0) s0)))))), xI G (ra 11) 4 (csH (twF urg bfrom bto nc nob (nI j0) pac false (twF urg bfrom bto nc nob (nI j0) pac true (hsF han (plF urg waits byd szs lim lan n nob (nI j0) nc (bgF cday n (nI j0) s0)))))), oCards cA ca (nI nc) (nI n), xI G (ca 2) 16 cday, xZ G (ca 3) 16 urg, xI G (ca 4) 16 waits, xI G (ca 5) 16 bfrom, xI G (ca 6) 16 bto, xI G (ca 7) 16 byd, xI G (ca 8) 64 szs, oRules uA ua pac, xI G (ua 0) 4 lim, xI G (ua 1) 4 lan, xI G (ua 2) 4 han]) (wr := [xI G (ca 2) 16 cday, xI G (ca 4) 16 waits, xI G (ca 7) 16 byd, xI G (ca 8) 64 szs, xI G (ua 0) 4 lim, xI G (ua 1) 4 lan, xI G (ua 2) 4 han]) (ci := 2) (q0 := 0) ⟨hx, hb, hml, hown, hts⟩ (mX2_workThose l G rA cA uA ra nob (twF urg bfrom bto nc nob (nI j0) pac true (hsF han (plF urg waits byd szs lim lan n nob (nI j0) nc (bgF cday n (nI j0) s0)))) (nI j0) last rst ca nc n urg bfrom bto ua pac false (by first | assumption | omega) (by first | assumption | omega) (UV_twF hu5)) (cwV 1 hts gX2_runNextDay_X2_workThose rfl rfl rfl (by decide +kernel) ⟨Nat.le_of_ble_eq_true rfl, Nat.le_of_ble_eq_true rfl⟩) hK hP hD hS hA [0, 1, 2, 3, 4, 5, 6, 7, 8, 9, 11, 13, 14, 17] [10, 12, 15, 16, 18, 19, 20] [7, 8, 9, 10, 11, 12, 13, 14, 15, 16, 0, 17, 1, 18, 19, 2, 3, 20, 4, 5, 6] rfl rfl rfl rfl rfl (by decide) rfl rfl rfl rfl rfl rfl rfl hl.1 rfl (Nat.le_of_ble_eq_true rfl) dX2_runNextDay_78 ⟨Nat.zero_le _, Nat.zero_le _⟩ (fun H locs hP hD hS => ?_)
        refine lv_aload_n hx hb dX2_runNextDay_81 rfl (lv_at hl 1 rfl) ?_
        refine va_get (D := xD G) (ci := 2) (v := .int (csA (twF urg bfrom bto nc nob (nI j0) pac false (twF urg bfrom bto nc nob (nI j0) pac true (hsF han (plF urg waits byd szs lim lan n nob (nI j0) nc (bgF cday n (nI j0) s0))))))) (C := RX2) (T := TX2) (N := 17) hx hb hts inX2 hown hK hP 0 rfl rfl 15 (by decide) kl158 (fun _ h9 => h9) rfl dX2_runNextDay_82 ?_
        refine lv_if_eq (x := csA (twF urg bfrom bto nc nob (nI j0) pac false (twF urg bfrom bto nc nob (nI j0) pac true (hsF han (plF urg waits byd szs lim lan n nob (nI j0) nc (bgF cday n (nI j0) s0)))))) (tgt := 96) hx hb dX2_runNextDay_85 (by decide) (fun c85 => ?_) (fun c85 => ?_)
        · skip
          refine lv_aload_n hx hb dX2_runNextDay_96 rfl (lv_at hl 1 rfl) ?_
          refine lv_aload_n hx hb dX2_runNextDay_97 rfl (lv_at hl 1 rfl) ?_
          refine va_get (D := xD G) (ci := 2) (v := .int (csA (twF urg bfrom bto nc nob (nI j0) pac false (twF urg bfrom bto nc nob (nI j0) pac true (hsF han (plF urg waits byd szs lim lan n nob (nI j0) nc (bgF cday n (nI j0) s0))))))) (C := RX2) (T := TX2) (N := 17) hx hb hts inX2 hown hK hP 0 rfl rfl 15 (by decide) kl158 (fun _ h9 => h9) rfl dX2_runNextDay_98 ?_
          refine lv_if_ne (x := csA (twF urg bfrom bto nc nob (nI j0) pac false (twF urg bfrom bto nc nob (nI j0) pac true (hsF han (plF urg waits byd szs lim lan n nob (nI j0) nc (bgF cday n (nI j0) s0)))))) (tgt := 122) hx hb dX2_runNextDay_101 (by decide) (fun c101 => ?_) (fun c101 => ?_)
          · skip
            exact absurd c85 c101
          · skip
            refine lv_aload_n hx hb dX2_runNextDay_104 rfl (lv_at hl 1 rfl) ?_
            refine va_get (D := xD G) (ci := 2) (v := .int (nI j0)) (C := RX2) (T := TX2) (N := 17) hx hb hts inX2 hown hK hP 0 rfl rfl 13 (by decide) kl62 (fun _ h9 => h9) rfl dX2_runNextDay_105 ?_
            refine lv_aload_n hx hb dX2_runNextDay_108 rfl (lv_at hl 1 rfl) ?_
            refine va_get (D := xD G) (ci := 2) (v := .ref cA) (C := RX2) (T := TX2) (N := 17) hx hb hts inX2 hown hK hP 0 rfl rfl 0 (by decide) kl40 (fun _ h9 => h9) rfl dX2_runNextDay_109 ?_
            refine x_callR (As := []) (rest := [.int (nI j0), .ref rA]) (ci := 0) (q0 := 9) ⟨hx, hb, hml, hown, hts⟩ (mX0_lastComing l G cA ca (nI nc) n cday byd (by first | assumption | omega) (fun t h => vp_mono (hby t h) hn)) (cwV 0 hts gX2_runNextDay_X0_lastComing rfl rfl rfl (by decide +kernel) ⟨Nat.le_of_ble_eq_true rfl, Nat.le_of_ble_eq_true rfl⟩) hK hP hD [9, 10, 15] rfl rfl rfl rfl rfl rfl rfl hl.1 rfl (Nat.le_of_ble_eq_true rfl) dX2_runNextDay_112 ⟨Nat.zero_le _, Nat.zero_le _⟩ (fun r hr => ?_)
            subst hr
            refine lv_icmp_lt (x := nI j0) (y := lcF cday byd n) (tgt := 122) hx hb dX2_runNextDay_115 (by decide) (fun c115 => ?_) (fun c115 => ?_)
            · skip
              refine lv_iconst (v := 0) hx hb dX2_runNextDay_122 (by decide) ?_
              refine va_put (D := xD G) (ci := 2) (v := .int 0) (ty := .boolean) (C := RX2) (T := TX2) (N := 17) hx hb hts inX2 tyX2 tyX2_ok nmX2 hown hK hP hD hS 0 rfl rfl 16 (by decide) kl68 (fun _ h9 => h9) rfl (by decide +kernel) rfl rfl (Nat.le_of_ble_eq_true rfl) dX2_runNextDay_123 (fun H locs hP hD hS => ?_)
              have hP : va_P (xD G) vwCl [oRun rA cA uA ra nob (nI (csC (twF urg bfrom bto nc nob (nI j0) pac false (twF urg bfrom bto nc nob (nI j0) pac true (hsF han (plF urg waits byd szs lim lan n nob (nI j0) nc (bgF cday n (nI j0) s0))))))) (nI j0) last (csA (twF urg bfrom bto nc nob (nI j0) pac false (twF urg bfrom bto nc nob (nI j0) pac true (hsF han (plF urg waits byd szs lim lan n nob (nI j0) nc (bgF cday n (nI j0) s0)))))) 0, xI G (ra 3) 16 (csP (twF urg bfrom bto nc nob (nI j0) pac false (twF urg bfrom bto nc nob (nI j0) pac true (hsF han (plF urg waits byd szs lim lan n nob (nI j0) nc (bgF cday n (nI j0) s0)))))), xI G (ra 4) 16 (csN (twF urg bfrom bto nc nob (nI j0) pac false (twF urg bfrom bto nc nob (nI j0) pac true (hsF han (plF urg waits byd szs lim lan n nob (nI j0) nc (bgF cday n (nI j0) s0)))))), xI G (ra 5) 16 (csL (twF urg bfrom bto nc nob (nI j0) pac false (twF urg bfrom bto nc nob (nI j0) pac true (hsF han (plF urg waits byd szs lim lan n nob (nI j0) nc (bgF cday n (nI j0) s0)))))), xI G (ra 6) 16 (csD (twF urg bfrom bto nc nob (nI j0) pac false (twF urg bfrom bto nc nob (nI j0) pac true (hsF han (plF urg waits byd szs lim lan n nob (nI j0) nc (bgF cday n (nI j0) s0)))))), xZ G (ra 7) 16 (csW (twF urg bfrom bto nc nob (nI j0) pac false (twF urg bfrom bto nc nob (nI j0) pac true (hsF han (plF urg waits byd szs lim lan n nob (nI j0) nc (bgF cday n (nI j0) s0)))))), xZ G (ra 8) 16 (csB (twF urg bfrom bto nc nob (nI j0) pac false (twF urg bfrom bto nc nob (nI j0) pac true (hsF han (plF urg waits byd szs lim lan n nob (nI j0) nc (bgF cday n (nI j0) s0)))))), xI G (ra 9) 16 (csU (twF urg bfrom bto nc nob (nI j0) pac false (twF urg bfrom bto nc nob (nI j0) pac true (hsF han (plF urg waits byd szs lim lan n nob (nI j0) nc (bgF cday n (nI j0) s0)))))), xI G (ra 11) 4 (csH (twF urg bfrom bto nc nob (nI j0) pac false (twF urg bfrom bto nc nob (nI j0) pac true (hsF han (plF urg waits byd szs lim lan n nob (nI j0) nc (bgF cday n (nI j0) s0)))))), oCards cA ca (nI nc) (nI n), xI G (ca 2) 16 cday, xZ G (ca 3) 16 urg, xI G (ca 4) 16 waits, xI G (ca 5) 16 bfrom, xI G (ca 6) 16 bto, xI G (ca 7) 16 byd, xI G (ca 8) 64 szs, oRules uA ua pac, xI G (ua 0) 4 lim, xI G (ua 1) 4 lan, xI G (ua 2) 4 han] H := hP
              have hD : va_D A [oRun rA cA uA ra nob (nI (csC (twF urg bfrom bto nc nob (nI j0) pac false (twF urg bfrom bto nc nob (nI j0) pac true (hsF han (plF urg waits byd szs lim lan n nob (nI j0) nc (bgF cday n (nI j0) s0))))))) (nI j0) last (csA (twF urg bfrom bto nc nob (nI j0) pac false (twF urg bfrom bto nc nob (nI j0) pac true (hsF han (plF urg waits byd szs lim lan n nob (nI j0) nc (bgF cday n (nI j0) s0)))))) 0, xI G (ra 3) 16 (csP (twF urg bfrom bto nc nob (nI j0) pac false (twF urg bfrom bto nc nob (nI j0) pac true (hsF han (plF urg waits byd szs lim lan n nob (nI j0) nc (bgF cday n (nI j0) s0)))))), xI G (ra 4) 16 (csN (twF urg bfrom bto nc nob (nI j0) pac false (twF urg bfrom bto nc nob (nI j0) pac true (hsF han (plF urg waits byd szs lim lan n nob (nI j0) nc (bgF cday n (nI j0) s0)))))), xI G (ra 5) 16 (csL (twF urg bfrom bto nc nob (nI j0) pac false (twF urg bfrom bto nc nob (nI j0) pac true (hsF han (plF urg waits byd szs lim lan n nob (nI j0) nc (bgF cday n (nI j0) s0)))))), xI G (ra 6) 16 (csD (twF urg bfrom bto nc nob (nI j0) pac false (twF urg bfrom bto nc nob (nI j0) pac true (hsF han (plF urg waits byd szs lim lan n nob (nI j0) nc (bgF cday n (nI j0) s0)))))), xZ G (ra 7) 16 (csW (twF urg bfrom bto nc nob (nI j0) pac false (twF urg bfrom bto nc nob (nI j0) pac true (hsF han (plF urg waits byd szs lim lan n nob (nI j0) nc (bgF cday n (nI j0) s0)))))), xZ G (ra 8) 16 (csB (twF urg bfrom bto nc nob (nI j0) pac false (twF urg bfrom bto nc nob (nI j0) pac true (hsF han (plF urg waits byd szs lim lan n nob (nI j0) nc (bgF cday n (nI j0) s0)))))), xI G (ra 9) 16 (csU (twF urg bfrom bto nc nob (nI j0) pac false (twF urg bfrom bto nc nob (nI j0) pac true (hsF han (plF urg waits byd szs lim lan n nob (nI j0) nc (bgF cday n (nI j0) s0)))))), xI G (ra 11) 4 (csH (twF urg bfrom bto nc nob (nI j0) pac false (twF urg bfrom bto nc nob (nI j0) pac true (hsF han (plF urg waits byd szs lim lan n nob (nI j0) nc (bgF cday n (nI j0) s0)))))), oCards cA ca (nI nc) (nI n), xI G (ca 2) 16 cday, xZ G (ca 3) 16 urg, xI G (ca 4) 16 waits, xI G (ca 5) 16 bfrom, xI G (ca 6) 16 bto, xI G (ca 7) 16 byd, xI G (ca 8) 64 szs, oRules uA ua pac, xI G (ua 0) 4 lim, xI G (ua 1) 4 lan, xI G (ua 2) 4 han] := hD
              have eL : ndL cday urg waits bfrom bto byd szs lim lan han n nc nob pac j0 s0 last = last := if_pos c85
              have eR : ndR cday urg waits bfrom bto byd szs lim lan han n nc nob pac j0 s0 = 0 := b2_f (fun h => h.2 c115)
              rw [eL, eR] at hq
              exact hq H locs 126 ls dX2_runNextDay_126 (by skip; exact hP) (by skip; exact hD) hS
            · skip
              refine lv_iconst (v := 1) hx hb dX2_runNextDay_118 (by decide) ?_
              refine lv_goto (tgt := 123) hx hb dX2_runNextDay_119 (by decide) ?_
              refine va_put (D := xD G) (ci := 2) (v := .int 1) (ty := .boolean) (C := RX2) (T := TX2) (N := 17) hx hb hts inX2 tyX2 tyX2_ok nmX2 hown hK hP hD hS 0 rfl rfl 16 (by decide) kl68 (fun _ h9 => h9) rfl (by decide +kernel) rfl rfl (Nat.le_of_ble_eq_true rfl) dX2_runNextDay_123 (fun H locs hP hD hS => ?_)
              have hP : va_P (xD G) vwCl [oRun rA cA uA ra nob (nI (csC (twF urg bfrom bto nc nob (nI j0) pac false (twF urg bfrom bto nc nob (nI j0) pac true (hsF han (plF urg waits byd szs lim lan n nob (nI j0) nc (bgF cday n (nI j0) s0))))))) (nI j0) last (csA (twF urg bfrom bto nc nob (nI j0) pac false (twF urg bfrom bto nc nob (nI j0) pac true (hsF han (plF urg waits byd szs lim lan n nob (nI j0) nc (bgF cday n (nI j0) s0)))))) 1, xI G (ra 3) 16 (csP (twF urg bfrom bto nc nob (nI j0) pac false (twF urg bfrom bto nc nob (nI j0) pac true (hsF han (plF urg waits byd szs lim lan n nob (nI j0) nc (bgF cday n (nI j0) s0)))))), xI G (ra 4) 16 (csN (twF urg bfrom bto nc nob (nI j0) pac false (twF urg bfrom bto nc nob (nI j0) pac true (hsF han (plF urg waits byd szs lim lan n nob (nI j0) nc (bgF cday n (nI j0) s0)))))), xI G (ra 5) 16 (csL (twF urg bfrom bto nc nob (nI j0) pac false (twF urg bfrom bto nc nob (nI j0) pac true (hsF han (plF urg waits byd szs lim lan n nob (nI j0) nc (bgF cday n (nI j0) s0)))))), xI G (ra 6) 16 (csD (twF urg bfrom bto nc nob (nI j0) pac false (twF urg bfrom bto nc nob (nI j0) pac true (hsF han (plF urg waits byd szs lim lan n nob (nI j0) nc (bgF cday n (nI j0) s0)))))), xZ G (ra 7) 16 (csW (twF urg bfrom bto nc nob (nI j0) pac false (twF urg bfrom bto nc nob (nI j0) pac true (hsF han (plF urg waits byd szs lim lan n nob (nI j0) nc (bgF cday n (nI j0) s0)))))), xZ G (ra 8) 16 (csB (twF urg bfrom bto nc nob (nI j0) pac false (twF urg bfrom bto nc nob (nI j0) pac true (hsF han (plF urg waits byd szs lim lan n nob (nI j0) nc (bgF cday n (nI j0) s0)))))), xI G (ra 9) 16 (csU (twF urg bfrom bto nc nob (nI j0) pac false (twF urg bfrom bto nc nob (nI j0) pac true (hsF han (plF urg waits byd szs lim lan n nob (nI j0) nc (bgF cday n (nI j0) s0)))))), xI G (ra 11) 4 (csH (twF urg bfrom bto nc nob (nI j0) pac false (twF urg bfrom bto nc nob (nI j0) pac true (hsF han (plF urg waits byd szs lim lan n nob (nI j0) nc (bgF cday n (nI j0) s0)))))), oCards cA ca (nI nc) (nI n), xI G (ca 2) 16 cday, xZ G (ca 3) 16 urg, xI G (ca 4) 16 waits, xI G (ca 5) 16 bfrom, xI G (ca 6) 16 bto, xI G (ca 7) 16 byd, xI G (ca 8) 64 szs, oRules uA ua pac, xI G (ua 0) 4 lim, xI G (ua 1) 4 lan, xI G (ua 2) 4 han] H := hP
              have hD : va_D A [oRun rA cA uA ra nob (nI (csC (twF urg bfrom bto nc nob (nI j0) pac false (twF urg bfrom bto nc nob (nI j0) pac true (hsF han (plF urg waits byd szs lim lan n nob (nI j0) nc (bgF cday n (nI j0) s0))))))) (nI j0) last (csA (twF urg bfrom bto nc nob (nI j0) pac false (twF urg bfrom bto nc nob (nI j0) pac true (hsF han (plF urg waits byd szs lim lan n nob (nI j0) nc (bgF cday n (nI j0) s0)))))) 1, xI G (ra 3) 16 (csP (twF urg bfrom bto nc nob (nI j0) pac false (twF urg bfrom bto nc nob (nI j0) pac true (hsF han (plF urg waits byd szs lim lan n nob (nI j0) nc (bgF cday n (nI j0) s0)))))), xI G (ra 4) 16 (csN (twF urg bfrom bto nc nob (nI j0) pac false (twF urg bfrom bto nc nob (nI j0) pac true (hsF han (plF urg waits byd szs lim lan n nob (nI j0) nc (bgF cday n (nI j0) s0)))))), xI G (ra 5) 16 (csL (twF urg bfrom bto nc nob (nI j0) pac false (twF urg bfrom bto nc nob (nI j0) pac true (hsF han (plF urg waits byd szs lim lan n nob (nI j0) nc (bgF cday n (nI j0) s0)))))), xI G (ra 6) 16 (csD (twF urg bfrom bto nc nob (nI j0) pac false (twF urg bfrom bto nc nob (nI j0) pac true (hsF han (plF urg waits byd szs lim lan n nob (nI j0) nc (bgF cday n (nI j0) s0)))))), xZ G (ra 7) 16 (csW (twF urg bfrom bto nc nob (nI j0) pac false (twF urg bfrom bto nc nob (nI j0) pac true (hsF han (plF urg waits byd szs lim lan n nob (nI j0) nc (bgF cday n (nI j0) s0)))))), xZ G (ra 8) 16 (csB (twF urg bfrom bto nc nob (nI j0) pac false (twF urg bfrom bto nc nob (nI j0) pac true (hsF han (plF urg waits byd szs lim lan n nob (nI j0) nc (bgF cday n (nI j0) s0)))))), xI G (ra 9) 16 (csU (twF urg bfrom bto nc nob (nI j0) pac false (twF urg bfrom bto nc nob (nI j0) pac true (hsF han (plF urg waits byd szs lim lan n nob (nI j0) nc (bgF cday n (nI j0) s0)))))), xI G (ra 11) 4 (csH (twF urg bfrom bto nc nob (nI j0) pac false (twF urg bfrom bto nc nob (nI j0) pac true (hsF han (plF urg waits byd szs lim lan n nob (nI j0) nc (bgF cday n (nI j0) s0)))))), oCards cA ca (nI nc) (nI n), xI G (ca 2) 16 cday, xZ G (ca 3) 16 urg, xI G (ca 4) 16 waits, xI G (ca 5) 16 bfrom, xI G (ca 6) 16 bto, xI G (ca 7) 16 byd, xI G (ca 8) 64 szs, oRules uA ua pac, xI G (ua 0) 4 lim, xI G (ua 1) 4 lan, xI G (ua 2) 4 han] := hD
              have eL : ndL cday urg waits bfrom bto byd szs lim lan han n nc nob pac j0 s0 last = last := if_pos c85
              have eR : ndR cday urg waits bfrom bto byd szs lim lan han n nc nob pac j0 s0 = 1 := b2_t ⟨c85, c115⟩
              rw [eL, eR] at hq
              exact hq H locs 126 ls dX2_runNextDay_126 (by skip; exact hP) (by skip; exact hD) hS
        · skip
          refine lv_aload_n hx hb dX2_runNextDay_88 rfl (lv_at hl 1 rfl) ?_
          refine lv_aload_n hx hb dX2_runNextDay_89 rfl (lv_at hl 1 rfl) ?_
          refine va_get (D := xD G) (ci := 2) (v := .int (nI j0)) (C := RX2) (T := TX2) (N := 17) hx hb hts inX2 hown hK hP 0 rfl rfl 13 (by decide) kl62 (fun _ h9 => h9) rfl dX2_runNextDay_90 ?_
          refine va_put (D := xD G) (ci := 2) (v := .int (nI j0)) (ty := .int) (C := RX2) (T := TX2) (N := 17) hx hb hts inX2 tyX2 tyX2_ok nmX2 hown hK hP hD hS 0 rfl rfl 14 (by decide) kl65 (fun _ h9 => h9) rfl (by decide +kernel) rfl rfl (Nat.le_of_ble_eq_true rfl) dX2_runNextDay_93 (fun H locs hP hD hS => ?_)
          have hP : va_P (xD G) vwCl [oRun rA cA uA ra nob (nI (csC (twF urg bfrom bto nc nob (nI j0) pac false (twF urg bfrom bto nc nob (nI j0) pac true (hsF han (plF urg waits byd szs lim lan n nob (nI j0) nc (bgF cday n (nI j0) s0))))))) (nI j0) (nI j0) (csA (twF urg bfrom bto nc nob (nI j0) pac false (twF urg bfrom bto nc nob (nI j0) pac true (hsF han (plF urg waits byd szs lim lan n nob (nI j0) nc (bgF cday n (nI j0) s0)))))) rst, xI G (ra 3) 16 (csP (twF urg bfrom bto nc nob (nI j0) pac false (twF urg bfrom bto nc nob (nI j0) pac true (hsF han (plF urg waits byd szs lim lan n nob (nI j0) nc (bgF cday n (nI j0) s0)))))), xI G (ra 4) 16 (csN (twF urg bfrom bto nc nob (nI j0) pac false (twF urg bfrom bto nc nob (nI j0) pac true (hsF han (plF urg waits byd szs lim lan n nob (nI j0) nc (bgF cday n (nI j0) s0)))))), xI G (ra 5) 16 (csL (twF urg bfrom bto nc nob (nI j0) pac false (twF urg bfrom bto nc nob (nI j0) pac true (hsF han (plF urg waits byd szs lim lan n nob (nI j0) nc (bgF cday n (nI j0) s0)))))), xI G (ra 6) 16 (csD (twF urg bfrom bto nc nob (nI j0) pac false (twF urg bfrom bto nc nob (nI j0) pac true (hsF han (plF urg waits byd szs lim lan n nob (nI j0) nc (bgF cday n (nI j0) s0)))))), xZ G (ra 7) 16 (csW (twF urg bfrom bto nc nob (nI j0) pac false (twF urg bfrom bto nc nob (nI j0) pac true (hsF han (plF urg waits byd szs lim lan n nob (nI j0) nc (bgF cday n (nI j0) s0)))))), xZ G (ra 8) 16 (csB (twF urg bfrom bto nc nob (nI j0) pac false (twF urg bfrom bto nc nob (nI j0) pac true (hsF han (plF urg waits byd szs lim lan n nob (nI j0) nc (bgF cday n (nI j0) s0)))))), xI G (ra 9) 16 (csU (twF urg bfrom bto nc nob (nI j0) pac false (twF urg bfrom bto nc nob (nI j0) pac true (hsF han (plF urg waits byd szs lim lan n nob (nI j0) nc (bgF cday n (nI j0) s0)))))), xI G (ra 11) 4 (csH (twF urg bfrom bto nc nob (nI j0) pac false (twF urg bfrom bto nc nob (nI j0) pac true (hsF han (plF urg waits byd szs lim lan n nob (nI j0) nc (bgF cday n (nI j0) s0)))))), oCards cA ca (nI nc) (nI n), xI G (ca 2) 16 cday, xZ G (ca 3) 16 urg, xI G (ca 4) 16 waits, xI G (ca 5) 16 bfrom, xI G (ca 6) 16 bto, xI G (ca 7) 16 byd, xI G (ca 8) 64 szs, oRules uA ua pac, xI G (ua 0) 4 lim, xI G (ua 1) 4 lan, xI G (ua 2) 4 han] H := hP
          have hD : va_D A [oRun rA cA uA ra nob (nI (csC (twF urg bfrom bto nc nob (nI j0) pac false (twF urg bfrom bto nc nob (nI j0) pac true (hsF han (plF urg waits byd szs lim lan n nob (nI j0) nc (bgF cday n (nI j0) s0))))))) (nI j0) (nI j0) (csA (twF urg bfrom bto nc nob (nI j0) pac false (twF urg bfrom bto nc nob (nI j0) pac true (hsF han (plF urg waits byd szs lim lan n nob (nI j0) nc (bgF cday n (nI j0) s0)))))) rst, xI G (ra 3) 16 (csP (twF urg bfrom bto nc nob (nI j0) pac false (twF urg bfrom bto nc nob (nI j0) pac true (hsF han (plF urg waits byd szs lim lan n nob (nI j0) nc (bgF cday n (nI j0) s0)))))), xI G (ra 4) 16 (csN (twF urg bfrom bto nc nob (nI j0) pac false (twF urg bfrom bto nc nob (nI j0) pac true (hsF han (plF urg waits byd szs lim lan n nob (nI j0) nc (bgF cday n (nI j0) s0)))))), xI G (ra 5) 16 (csL (twF urg bfrom bto nc nob (nI j0) pac false (twF urg bfrom bto nc nob (nI j0) pac true (hsF han (plF urg waits byd szs lim lan n nob (nI j0) nc (bgF cday n (nI j0) s0)))))), xI G (ra 6) 16 (csD (twF urg bfrom bto nc nob (nI j0) pac false (twF urg bfrom bto nc nob (nI j0) pac true (hsF han (plF urg waits byd szs lim lan n nob (nI j0) nc (bgF cday n (nI j0) s0)))))), xZ G (ra 7) 16 (csW (twF urg bfrom bto nc nob (nI j0) pac false (twF urg bfrom bto nc nob (nI j0) pac true (hsF han (plF urg waits byd szs lim lan n nob (nI j0) nc (bgF cday n (nI j0) s0)))))), xZ G (ra 8) 16 (csB (twF urg bfrom bto nc nob (nI j0) pac false (twF urg bfrom bto nc nob (nI j0) pac true (hsF han (plF urg waits byd szs lim lan n nob (nI j0) nc (bgF cday n (nI j0) s0)))))), xI G (ra 9) 16 (csU (twF urg bfrom bto nc nob (nI j0) pac false (twF urg bfrom bto nc nob (nI j0) pac true (hsF han (plF urg waits byd szs lim lan n nob (nI j0) nc (bgF cday n (nI j0) s0)))))), xI G (ra 11) 4 (csH (twF urg bfrom bto nc nob (nI j0) pac false (twF urg bfrom bto nc nob (nI j0) pac true (hsF han (plF urg waits byd szs lim lan n nob (nI j0) nc (bgF cday n (nI j0) s0)))))), oCards cA ca (nI nc) (nI n), xI G (ca 2) 16 cday, xZ G (ca 3) 16 urg, xI G (ca 4) 16 waits, xI G (ca 5) 16 bfrom, xI G (ca 6) 16 bto, xI G (ca 7) 16 byd, xI G (ca 8) 64 szs, oRules uA ua pac, xI G (ua 0) 4 lim, xI G (ua 1) 4 lan, xI G (ua 2) 4 han] := hD
          refine lv_aload_n hx hb dX2_runNextDay_96 rfl (lv_at hl 1 rfl) ?_
          refine lv_aload_n hx hb dX2_runNextDay_97 rfl (lv_at hl 1 rfl) ?_
          refine va_get (D := xD G) (ci := 2) (v := .int (csA (twF urg bfrom bto nc nob (nI j0) pac false (twF urg bfrom bto nc nob (nI j0) pac true (hsF han (plF urg waits byd szs lim lan n nob (nI j0) nc (bgF cday n (nI j0) s0))))))) (C := RX2) (T := TX2) (N := 17) hx hb hts inX2 hown hK hP 0 rfl rfl 15 (by decide) kl158 (fun _ h9 => h9) rfl dX2_runNextDay_98 ?_
          refine lv_if_ne (x := csA (twF urg bfrom bto nc nob (nI j0) pac false (twF urg bfrom bto nc nob (nI j0) pac true (hsF han (plF urg waits byd szs lim lan n nob (nI j0) nc (bgF cday n (nI j0) s0)))))) (tgt := 122) hx hb dX2_runNextDay_101 (by decide) (fun c101 => ?_) (fun c101 => ?_)
          · skip
            refine lv_iconst (v := 0) hx hb dX2_runNextDay_122 (by decide) ?_
            refine va_put (D := xD G) (ci := 2) (v := .int 0) (ty := .boolean) (C := RX2) (T := TX2) (N := 17) hx hb hts inX2 tyX2 tyX2_ok nmX2 hown hK hP hD hS 0 rfl rfl 16 (by decide) kl68 (fun _ h9 => h9) rfl (by decide +kernel) rfl rfl (Nat.le_of_ble_eq_true rfl) dX2_runNextDay_123 (fun H locs hP hD hS => ?_)
            have hP : va_P (xD G) vwCl [oRun rA cA uA ra nob (nI (csC (twF urg bfrom bto nc nob (nI j0) pac false (twF urg bfrom bto nc nob (nI j0) pac true (hsF han (plF urg waits byd szs lim lan n nob (nI j0) nc (bgF cday n (nI j0) s0))))))) (nI j0) (nI j0) (csA (twF urg bfrom bto nc nob (nI j0) pac false (twF urg bfrom bto nc nob (nI j0) pac true (hsF han (plF urg waits byd szs lim lan n nob (nI j0) nc (bgF cday n (nI j0) s0)))))) 0, xI G (ra 3) 16 (csP (twF urg bfrom bto nc nob (nI j0) pac false (twF urg bfrom bto nc nob (nI j0) pac true (hsF han (plF urg waits byd szs lim lan n nob (nI j0) nc (bgF cday n (nI j0) s0)))))), xI G (ra 4) 16 (csN (twF urg bfrom bto nc nob (nI j0) pac false (twF urg bfrom bto nc nob (nI j0) pac true (hsF han (plF urg waits byd szs lim lan n nob (nI j0) nc (bgF cday n (nI j0) s0)))))), xI G (ra 5) 16 (csL (twF urg bfrom bto nc nob (nI j0) pac false (twF urg bfrom bto nc nob (nI j0) pac true (hsF han (plF urg waits byd szs lim lan n nob (nI j0) nc (bgF cday n (nI j0) s0)))))), xI G (ra 6) 16 (csD (twF urg bfrom bto nc nob (nI j0) pac false (twF urg bfrom bto nc nob (nI j0) pac true (hsF han (plF urg waits byd szs lim lan n nob (nI j0) nc (bgF cday n (nI j0) s0)))))), xZ G (ra 7) 16 (csW (twF urg bfrom bto nc nob (nI j0) pac false (twF urg bfrom bto nc nob (nI j0) pac true (hsF han (plF urg waits byd szs lim lan n nob (nI j0) nc (bgF cday n (nI j0) s0)))))), xZ G (ra 8) 16 (csB (twF urg bfrom bto nc nob (nI j0) pac false (twF urg bfrom bto nc nob (nI j0) pac true (hsF han (plF urg waits byd szs lim lan n nob (nI j0) nc (bgF cday n (nI j0) s0)))))), xI G (ra 9) 16 (csU (twF urg bfrom bto nc nob (nI j0) pac false (twF urg bfrom bto nc nob (nI j0) pac true (hsF han (plF urg waits byd szs lim lan n nob (nI j0) nc (bgF cday n (nI j0) s0)))))), xI G (ra 11) 4 (csH (twF urg bfrom bto nc nob (nI j0) pac false (twF urg bfrom bto nc nob (nI j0) pac true (hsF han (plF urg waits byd szs lim lan n nob (nI j0) nc (bgF cday n (nI j0) s0)))))), oCards cA ca (nI nc) (nI n), xI G (ca 2) 16 cday, xZ G (ca 3) 16 urg, xI G (ca 4) 16 waits, xI G (ca 5) 16 bfrom, xI G (ca 6) 16 bto, xI G (ca 7) 16 byd, xI G (ca 8) 64 szs, oRules uA ua pac, xI G (ua 0) 4 lim, xI G (ua 1) 4 lan, xI G (ua 2) 4 han] H := hP
            have hD : va_D A [oRun rA cA uA ra nob (nI (csC (twF urg bfrom bto nc nob (nI j0) pac false (twF urg bfrom bto nc nob (nI j0) pac true (hsF han (plF urg waits byd szs lim lan n nob (nI j0) nc (bgF cday n (nI j0) s0))))))) (nI j0) (nI j0) (csA (twF urg bfrom bto nc nob (nI j0) pac false (twF urg bfrom bto nc nob (nI j0) pac true (hsF han (plF urg waits byd szs lim lan n nob (nI j0) nc (bgF cday n (nI j0) s0)))))) 0, xI G (ra 3) 16 (csP (twF urg bfrom bto nc nob (nI j0) pac false (twF urg bfrom bto nc nob (nI j0) pac true (hsF han (plF urg waits byd szs lim lan n nob (nI j0) nc (bgF cday n (nI j0) s0)))))), xI G (ra 4) 16 (csN (twF urg bfrom bto nc nob (nI j0) pac false (twF urg bfrom bto nc nob (nI j0) pac true (hsF han (plF urg waits byd szs lim lan n nob (nI j0) nc (bgF cday n (nI j0) s0)))))), xI G (ra 5) 16 (csL (twF urg bfrom bto nc nob (nI j0) pac false (twF urg bfrom bto nc nob (nI j0) pac true (hsF han (plF urg waits byd szs lim lan n nob (nI j0) nc (bgF cday n (nI j0) s0)))))), xI G (ra 6) 16 (csD (twF urg bfrom bto nc nob (nI j0) pac false (twF urg bfrom bto nc nob (nI j0) pac true (hsF han (plF urg waits byd szs lim lan n nob (nI j0) nc (bgF cday n (nI j0) s0)))))), xZ G (ra 7) 16 (csW (twF urg bfrom bto nc nob (nI j0) pac false (twF urg bfrom bto nc nob (nI j0) pac true (hsF han (plF urg waits byd szs lim lan n nob (nI j0) nc (bgF cday n (nI j0) s0)))))), xZ G (ra 8) 16 (csB (twF urg bfrom bto nc nob (nI j0) pac false (twF urg bfrom bto nc nob (nI j0) pac true (hsF han (plF urg waits byd szs lim lan n nob (nI j0) nc (bgF cday n (nI j0) s0)))))), xI G (ra 9) 16 (csU (twF urg bfrom bto nc nob (nI j0) pac false (twF urg bfrom bto nc nob (nI j0) pac true (hsF han (plF urg waits byd szs lim lan n nob (nI j0) nc (bgF cday n (nI j0) s0)))))), xI G (ra 11) 4 (csH (twF urg bfrom bto nc nob (nI j0) pac false (twF urg bfrom bto nc nob (nI j0) pac true (hsF han (plF urg waits byd szs lim lan n nob (nI j0) nc (bgF cday n (nI j0) s0)))))), oCards cA ca (nI nc) (nI n), xI G (ca 2) 16 cday, xZ G (ca 3) 16 urg, xI G (ca 4) 16 waits, xI G (ca 5) 16 bfrom, xI G (ca 6) 16 bto, xI G (ca 7) 16 byd, xI G (ca 8) 64 szs, oRules uA ua pac, xI G (ua 0) 4 lim, xI G (ua 1) 4 lan, xI G (ua 2) 4 han] := hD
            have eL : ndL cday urg waits bfrom bto byd szs lim lan han n nc nob pac j0 s0 last = nI j0 := if_neg c85
            have eR : ndR cday urg waits bfrom bto byd szs lim lan han n nc nob pac j0 s0 = 0 := b2_f (fun h => c85 h.1)
            rw [eL, eR] at hq
            exact hq H locs 126 ls dX2_runNextDay_126 (by skip; exact hP) (by skip; exact hD) hS
          · skip
            exact absurd c101 c85
      · skip
        exact absurd (by decide) c15
    | succ j ih14 =>
      intro s1 hi14 es hu1 H locs hP hD hS ls hl
      have hl : lv_has ls 2 [(1, .int (nI j)), (0, .ref rA)] := hl
      refine lv_iload_n hx hb dX2_runNextDay_14 rfl (lv_at hl 0 rfl) ?_
      refine lv_if_lt (x := nI j) (tgt := 54) hx hb dX2_runNextDay_15 (by decide) (fun c15 => ?_) (fun c15 => ?_)
      · skip
        exact absurd c15 (nI_pos (by omega))
      · skip
        refine lv_aload_n hx hb dX2_runNextDay_18 rfl (lv_at hl 1 rfl) ?_
        refine lv_iload_n hx hb dX2_runNextDay_19 rfl (lv_at hl 0 rfl) ?_
        refine lv_iconst (v := 1) hx hb dX2_runNextDay_20 (by decide) ?_
        refine lv_aload_n hx hb dX2_runNextDay_21 rfl (lv_at hl 1 rfl) ?_
        refine va_get (D := xD G) (ci := 2) (v := .ref uA) (C := RX2) (T := TX2) (N := 17) hx hb hts inX2 hown hK hP 0 rfl rfl 1 (by decide) kl44 (fun _ h9 => h9) rfl dX2_runNextDay_22 ?_
        refine va_get (D := xD G) (ci := 1) (v := .ref (ua 1)) (C := RX1) (T := TX1) (N := 4) hx hb hts inX1 hown hK hP 17 rfl rfl 1 (by decide) kl133 (fun _ h9 => h9) rfl dX2_runNextDay_25 ?_
        refine lv_iload_n hx hb dX2_runNextDay_28 rfl (lv_at hl 0 rfl) ?_
        refine x_iald (i := j) hx hb hK hP 19 rfl (by first | omega | assumption) (by omega) dX2_runNextDay_29 ?_
        refine x_callM (As := [.int (nI j), .int 1, .int (lan j)]) (rest := []) (w2 := [oRun rA cA uA ra nob (nI (csC (piF urg waits byd szs n nob (nI j0) j true (lan j) n 0 s1))) (nI j0) last (csA (piF urg waits byd szs n nob (nI j0) j true (lan j) n 0 s1)) rst, xI G (ra 3) 16 (csP (piF urg waits byd szs n nob (nI j0) j true (lan j) n 0 s1)), xI G (ra 4) 16 (csN (piF urg waits byd szs n nob (nI j0) j true (lan j) n 0 s1)), xI G (ra 5) 16 (csL (piF urg waits byd szs n nob (nI j0) j true (lan j) n 0 s1)), xI G (ra 6) 16 (csD (piF urg waits byd szs n nob (nI j0) j true (lan j) n 0 s1)), xZ G (ra 7) 16 (csW (piF urg waits byd szs n nob (nI j0) j true (lan j) n 0 s1)), xZ G (ra 8) 16 (csB (piF urg waits byd szs n nob (nI j0) j true (lan j) n 0 s1)), xI G (ra 9) 16 (csU (piF urg waits byd szs n nob (nI j0) j true (lan j) n 0 s1)), xI G (ra 11) 4 (csH (piF urg waits byd szs n nob (nI j0) j true (lan j) n 0 s1)), oCards cA ca (nI nc) (nI n), xI G (ca 2) 16 cday, xZ G (ca 3) 16 urg, xI G (ca 4) 16 waits, xI G (ca 5) 16 bfrom, xI G (ca 6) 16 bto, xI G (ca 7) 16 byd, xI G (ca 8) 64 szs, oRules uA ua pac, xI G (ua 0) 4 lim, xI G (ua 1) 4 lan, xI G (ua 2) 4 han]) (wr := [xI G (ca 2) 16 cday, xI G (ca 5) 16 bfrom, xI G (ca 6) 16 bto, oRules uA ua pac, xI G (ua 0) 4 lim, xI G (ua 1) 4 lan, xI G (ua 2) 4 han]) (ci := 2) (q0 := 0) ⟨hx, hb, hml, hown, hts⟩ (mX2_pullInto l G rA cA uA ra nob s1 (nI j0) last rst ca (nI nc) n urg waits byd szs j true (lan j) (by first | assumption | omega) (by first | assumption | omega) (by first | assumption | omega) (hu1)) (cwV 3 hts gX2_runNextDay_X2_pullInto rfl rfl rfl (by decide +kernel) ⟨Nat.le_of_ble_eq_true rfl, Nat.le_of_ble_eq_true rfl⟩) hK hP hD hS hA [0, 1, 2, 3, 4, 5, 6, 7, 8, 9, 11, 12, 15, 16] [10, 13, 14, 17, 18, 19, 20] [7, 8, 9, 10, 11, 12, 13, 14, 15, 16, 0, 17, 18, 1, 2, 19, 20, 3, 4, 5, 6] rfl rfl rfl rfl rfl (by decide) rfl rfl rfl rfl rfl rfl rfl hl.1 rfl (Nat.le_of_ble_eq_true rfl) dX2_runNextDay_30 ⟨Nat.zero_le _, Nat.zero_le _⟩ (fun H locs hP hD hS => ?_)
        refine lv_aload_n hx hb dX2_runNextDay_33 rfl (lv_at hl 1 rfl) ?_
        refine lv_iload_n hx hb dX2_runNextDay_34 rfl (lv_at hl 0 rfl) ?_
        refine lv_iconst (v := 0) hx hb dX2_runNextDay_35 (by decide) ?_
        refine lv_aload_n hx hb dX2_runNextDay_36 rfl (lv_at hl 1 rfl) ?_
        refine va_get (D := xD G) (ci := 2) (v := .ref uA) (C := RX2) (T := TX2) (N := 17) hx hb hts inX2 hown hK hP 0 rfl rfl 1 (by decide) kl44 (fun _ h9 => h9) rfl dX2_runNextDay_37 ?_
        refine va_get (D := xD G) (ci := 1) (v := .ref (ua 0)) (C := RX1) (T := TX1) (N := 4) hx hb hts inX1 hown hK hP 17 rfl rfl 0 (by decide) kl142 (fun _ h9 => h9) rfl dX2_runNextDay_40 ?_
        refine lv_iload_n hx hb dX2_runNextDay_43 rfl (lv_at hl 0 rfl) ?_
        refine x_iald (i := j) hx hb hK hP 18 rfl (by first | omega | assumption) (by omega) dX2_runNextDay_44 ?_
        refine x_callM (As := [.int (nI j), .int 0, .int (lim j)]) (rest := []) (w2 := [oRun rA cA uA ra nob (nI (csC (piF urg waits byd szs n nob (nI j0) j false (lim j) n 0 (piF urg waits byd szs n nob (nI j0) j true (lan j) n 0 s1)))) (nI j0) last (csA (piF urg waits byd szs n nob (nI j0) j false (lim j) n 0 (piF urg waits byd szs n nob (nI j0) j true (lan j) n 0 s1))) rst, xI G (ra 3) 16 (csP (piF urg waits byd szs n nob (nI j0) j false (lim j) n 0 (piF urg waits byd szs n nob (nI j0) j true (lan j) n 0 s1))), xI G (ra 4) 16 (csN (piF urg waits byd szs n nob (nI j0) j false (lim j) n 0 (piF urg waits byd szs n nob (nI j0) j true (lan j) n 0 s1))), xI G (ra 5) 16 (csL (piF urg waits byd szs n nob (nI j0) j false (lim j) n 0 (piF urg waits byd szs n nob (nI j0) j true (lan j) n 0 s1))), xI G (ra 6) 16 (csD (piF urg waits byd szs n nob (nI j0) j false (lim j) n 0 (piF urg waits byd szs n nob (nI j0) j true (lan j) n 0 s1))), xZ G (ra 7) 16 (csW (piF urg waits byd szs n nob (nI j0) j false (lim j) n 0 (piF urg waits byd szs n nob (nI j0) j true (lan j) n 0 s1))), xZ G (ra 8) 16 (csB (piF urg waits byd szs n nob (nI j0) j false (lim j) n 0 (piF urg waits byd szs n nob (nI j0) j true (lan j) n 0 s1))), xI G (ra 9) 16 (csU (piF urg waits byd szs n nob (nI j0) j false (lim j) n 0 (piF urg waits byd szs n nob (nI j0) j true (lan j) n 0 s1))), xI G (ra 11) 4 (csH (piF urg waits byd szs n nob (nI j0) j false (lim j) n 0 (piF urg waits byd szs n nob (nI j0) j true (lan j) n 0 s1))), oCards cA ca (nI nc) (nI n), xI G (ca 2) 16 cday, xZ G (ca 3) 16 urg, xI G (ca 4) 16 waits, xI G (ca 5) 16 bfrom, xI G (ca 6) 16 bto, xI G (ca 7) 16 byd, xI G (ca 8) 64 szs, oRules uA ua pac, xI G (ua 0) 4 lim, xI G (ua 1) 4 lan, xI G (ua 2) 4 han]) (wr := [xI G (ca 2) 16 cday, xI G (ca 5) 16 bfrom, xI G (ca 6) 16 bto, oRules uA ua pac, xI G (ua 0) 4 lim, xI G (ua 1) 4 lan, xI G (ua 2) 4 han]) (ci := 2) (q0 := 0) ⟨hx, hb, hml, hown, hts⟩ (mX2_pullInto l G rA cA uA ra nob (piF urg waits byd szs n nob (nI j0) j true (lan j) n 0 s1) (nI j0) last rst ca (nI nc) n urg waits byd szs j false (lim j) (by first | assumption | omega) (by first | assumption | omega) (by first | assumption | omega) (UV_pi hby hn n 0 _ (by omega) hu1)) (cwV 3 hts gX2_runNextDay_X2_pullInto rfl rfl rfl (by decide +kernel) ⟨Nat.le_of_ble_eq_true rfl, Nat.le_of_ble_eq_true rfl⟩) hK hP hD hS hA [0, 1, 2, 3, 4, 5, 6, 7, 8, 9, 11, 12, 15, 16] [10, 13, 14, 17, 18, 19, 20] [7, 8, 9, 10, 11, 12, 13, 14, 15, 16, 0, 17, 18, 1, 2, 19, 20, 3, 4, 5, 6] rfl rfl rfl rfl rfl (by decide) rfl rfl rfl rfl rfl rfl rfl hl.1 rfl (Nat.le_of_ble_eq_true rfl) dX2_runNextDay_45 ⟨Nat.zero_le _, Nat.zero_le _⟩ (fun H locs hP hD hS => ?_)
        refine lv_iinc (v := dn j) (lv' := [(1, .int (dn j)), (0, .ref rA)]) hx hb dX2_runNextDay_48 hl (k := 0) rfl (dn_m1 j) (by decide) rfl (fun ls hl => ?_)
        refine lv_goto (tgt := 14) hx hb dX2_runNextDay_51 (by decide) ?_
        exact ih14 (piF urg waits byd szs n nob (nI j0) j false (lim j) n 0 (piF urg waits byd szs n nob (nI j0) j true (lan j) n 0 s1)) (by omega) (es) (UV_pi hby hn n 0 _ (by omega) (UV_pi hby hn n 0 _ (by omega) hu1)) H locs hP hD hS ls (lv_sub hl [0, 1] rfl)
  exact L14 nc (bgF cday n (nI j0) s0) (by omega) (rfl) (UV_bg hu) H locs hP hD hS ls (lv_sub hl [0, 1] rfl)
set_option maxHeartbeats 4000000 in
set_option maxRecDepth 100000 in
theorem mX2_countReasons (l : Launch) (G : xG) (rA : Nat) (cA : Nat) (uA : Nat) (ra : Nat → Nat) (nob : Int32) (s0 : CS) (day : Int32) (last : Int32) (rst : Int32) (rsd : Nat → Int32) (ca : Nat → Nat) (cols : Int32) (n : Nat) (waits : Nat → Int32)  (hn : n ≤ 16) : xM l yX2_countReasons wsX2_countReasons ({ frames := 3, cells := 0, slots := 0, locals := 64 } : Room) [.ref rA] G [oRun rA cA uA ra nob (nI (csC s0)) day last (csA s0) rst, xI G (ra 3) 16 (csP s0), xI G (ra 4) 16 (csN s0), xI G (ra 6) 16 (csD s0), xZ G (ra 7) 16 (csW s0), xI G (ra 12) 64 rsd, oCards cA ca cols (nI n), xI G (ca 4) 16 waits] [oRun rA cA uA ra nob (nI (csC s0)) day last (csA s0) rst, xI G (ra 3) 16 (csP s0), xI G (ra 4) 16 (csN s0), xI G (ra 6) 16 (csD s0), xZ G (ra 7) 16 (csW s0), xI G (ra 12) 64 (crF waits n s0 day rsd), oCards cA ca cols (nI n), xI G (ca 4) 16 waits] := by
  refine xM_of (cc := cX2_countReasons) (maxL := 3) (by decide) rfl (Nat.le_of_ble_eq_true rfl) ?_
  intro p e s m below meth cO ls Q A hx hb hml hown hts hP hK hD hS hA hl hq
  have hown : s.vm.findClass RX2 = some m.cls := hown
  have kl40 := hts (.fieldLink RX2 40 "WorkBoard$Run" "cards" "LWorkBoard$Cards;") (List.mem_of_getElem? (i := 1) rfl)
  have kl99 := hts (.fieldLink RX2 99 "WorkBoard$Cards" "count" "I") (List.mem_of_getElem? (i := 2) rfl)
  have kl37 := hts (.fieldLink RX2 37 "WorkBoard$Run" "reasonDays" "[I") (List.mem_of_getElem? (i := 3) rfl)
  have inX0 : ∀ w ∈ u_ws RX0 TX0 9, w ∈ wsX2_countReasons := (fun w h => List.mem_cons_of_mem _ (List.mem_append_right _ h))
  have inX2 : ∀ w ∈ u_ws RX2 TX2 17, w ∈ wsX2_countReasons := (fun w h => List.mem_cons_of_mem _ (List.mem_append_left _ (List.mem_append_right _ h)))
  have hl : lv_has ls 3 [(0, .ref rA)] := hl
  have hD : va_D A [oRun rA cA uA ra nob (nI (csC s0)) day last (csA s0) rst, xI G (ra 3) 16 (csP s0), xI G (ra 4) 16 (csN s0), xI G (ra 6) 16 (csD s0), xZ G (ra 7) 16 (csW s0), xI G (ra 12) 64 rsd, oCards cA ca cols (nI n), xI G (ca 4) 16 waits] := hD
  obtain ⟨H, hH⟩ : ∃ z, z = s.heap := ⟨_, rfl⟩
  obtain ⟨locs, hlocs⟩ : ∃ z : List Loc, z = [] := ⟨_, rfl⟩
  have hS : va_S A s.heap H locs := by rw [hH, hlocs]; exact hS
  have hP : va_P (xD G) vwCl [oRun rA cA uA ra nob (nI (csC s0)) day last (csA s0) rst, xI G (ra 3) 16 (csP s0), xI G (ra 4) 16 (csN s0), xI G (ra 6) 16 (csD s0), xZ G (ra 7) 16 (csW s0), xI G (ra 12) 64 rsd, oCards cA ca cols (nI n), xI G (ca 4) 16 waits] H := by rw [hH]; exact hP
  rw [← hH, ← hlocs]
  clear hH hlocs
  refine lv_iconst (v := 0) hx hb dX2_countReasons_0 (by decide) ?_
  refine lv_istore_n (lv' := [(1, .int 0), (0, .ref rA)]) hx hb dX2_countReasons_1 rfl hl (by decide) rfl (fun ls hl => ?_)
  have L2 : ∀ (kk2 i : Nat) (f1 : XF), i ≤ n → n + 1 ≤ i + kk2 → (f1 = itN (crB waits n s0 day) rsd i) → ∀ (H : Heap) (locs : List Loc), va_P (xD G) vwCl [oRun rA cA uA ra nob (nI (csC s0)) day last (csA s0) rst, xI G (ra 3) 16 (csP s0), xI G (ra 4) 16 (csN s0), xI G (ra 6) 16 (csD s0), xZ G (ra 7) 16 (csW s0), xI G (ra 12) 64 f1, oCards cA ca cols (nI n), xI G (ca 4) 16 waits] H → va_D A [oRun rA cA uA ra nob (nI (csC s0)) day last (csA s0) rst, xI G (ra 3) 16 (csP s0), xI G (ra 4) 16 (csN s0), xI G (ra 6) 16 (csD s0), xZ G (ra 7) 16 (csW s0), xI G (ra 12) 64 f1, oCards cA ca cols (nI n), xI G (ca 4) 16 waits] → va_S A s.heap H locs → ∀ (ls : Array Slot), lv_has ls 3 [(1, .int (nI i)), (0, .ref rA)] → W p l e ({ frames := 3, cells := 0, slots := 0, locals := 64 } : Room) s m #[Value.ref rA] below meth cO H locs 0 0 Q (F0 m 2 ls []) := by
    intro kk2
    induction kk2 with
    | zero => intro i f1 h1 h2; exact absurd h2 (by omega)
    | succ kk2 ih2 =>
      intro i f1 hi2 hk2 es H locs hP hD hS ls hl
      refine lv_iload_n hx hb dX2_countReasons_2 rfl (lv_at hl 0 rfl) ?_
      refine lv_aload_n hx hb dX2_countReasons_3 rfl (lv_at hl 1 rfl) ?_
      refine va_get (D := xD G) (ci := 2) (v := .ref cA) (C := RX2) (T := TX2) (N := 17) hx hb hts inX2 hown hK hP 0 rfl rfl 0 (by decide) kl40 (fun _ h9 => h9) rfl dX2_countReasons_4 ?_
      refine va_get (D := xD G) (ci := 0) (v := .int (nI n)) (C := RX0) (T := TX0) (N := 9) hx hb hts inX0 hown hK hP 6 rfl rfl 1 (by decide) kl99 (fun _ h9 => h9) rfl dX2_countReasons_7 ?_
      refine x_icmp_ge (x := i) (y := n) (tgt := 46) hx hb (by omega) (by omega) dX2_countReasons_10 (by decide) (fun c10 => ?_) (fun c10 => ?_)
      · skip
        have e_2 : i = n := by omega
        rw [e_2] at es
        subst es
        exact hq H locs 46 ls dX2_countReasons_46 (by skip; exact hP) (by skip; exact hD) hS
      · skip
        refine lv_aload_n hx hb dX2_countReasons_13 rfl (lv_at hl 1 rfl) ?_
        refine lv_iload_n hx hb dX2_countReasons_14 rfl (lv_at hl 0 rfl) ?_
        refine x_callR (As := [.int (nI i)]) (rest := []) (ci := 2) (q0 := 0) ⟨hx, hb, hml, hown, hts⟩ (mX2_reasonOf l G rA cA uA ra nob (nI (csC s0)) day last (csA s0) rst (csP s0) (csN s0) (csD s0) (csW s0) ca cols n waits i (by first | assumption | omega) (by first | assumption | omega)) (cwV 1 hts gX2_countReasons_X2_reasonOf rfl rfl rfl (by decide +kernel) ⟨Nat.le_of_ble_eq_true rfl, Nat.le_of_ble_eq_true rfl⟩) hK hP hD [0, 1, 2, 3, 4, 6, 7] rfl rfl rfl rfl rfl rfl rfl hl.1 rfl (Nat.le_of_ble_eq_true rfl) dX2_countReasons_15 ⟨Nat.zero_le _, Nat.zero_le _⟩ (fun r hr => ?_)
        subst hr
        refine lv_istore_n (lv' := [(2, .int (reF (csP s0) (csN s0) (csD s0) (csW s0) waits n day i)), (1, .int (nI i)), (0, .ref rA)]) hx hb dX2_countReasons_18 rfl hl (by decide) rfl (fun ls hl => ?_)
        refine lv_iload_n hx hb dX2_countReasons_19 rfl (lv_at hl 0 rfl) ?_
        refine lv_iconst (v := (-1)) hx hb dX2_countReasons_20 (by decide) ?_
        refine lv_icmp_eq (x := reF (csP s0) (csN s0) (csD s0) (csW s0) waits n day i) (y := (-1)) (tgt := 40) hx hb dX2_countReasons_21 (by decide) (fun c21 => ?_) (fun c21 => ?_)
        · skip
          refine lv_iinc (v := nI (i + 1)) (lv' := [(1, .int (nI (i + 1))), (2, .int (reF (csP s0) (csN s0) (csD s0) (csW s0) waits n day i)), (0, .ref rA)]) hx hb dX2_countReasons_40 hl (k := 1) rfl (by exact nI_add i 1) (by decide) rfl (fun ls hl => ?_)
          refine lv_goto (tgt := 2) hx hb dX2_countReasons_43 (by decide) ?_
          exact ih2 (i + 1) f1 (by omega) (by omega) (by simp only [itN, ← es]; unfold crB; first | rw [if_pos c21] | rw [if_neg c21]) H locs hP hD hS ls (lv_sub hl [0, 2] rfl)
        · skip
          obtain ⟨r1, r4, re⟩ := re_ix c21
          refine lv_aload_n hx hb dX2_countReasons_24 rfl (lv_at hl 2 rfl) ?_
          refine va_get (D := xD G) (ci := 2) (v := .ref (ra 12)) (C := RX2) (T := TX2) (N := 17) hx hb hts inX2 hown hK hP 0 rfl rfl 12 (by decide) kl37 (fun _ h9 => h9) rfl dX2_countReasons_25 ?_
          refine lv_iload_n hx hb dX2_countReasons_28 rfl (lv_at hl 1 rfl) ?_
          refine lv_iconst (v := 4) hx hb dX2_countReasons_29 (by decide) ?_
          refine lv_imul hx hb dX2_countReasons_30 ?_
          refine x_top (y := nI (i * 4)) (pk_mul i 4) ?_
          refine lv_iload_n hx hb dX2_countReasons_31 rfl (lv_at hl 0 rfl) ?_
          refine lv_iadd hx hb dX2_countReasons_32 ?_
          refine lv_iconst (v := 1) hx hb dX2_countReasons_33 (by decide) ?_
          refine lv_isub hx hb dX2_countReasons_34 ?_
          refine x_top (y := nI (i * 4 + (reF (csP s0) (csN s0) (csD s0) (csW s0) waits n day i).toNatClampNeg - 1)) (by rw [re, nI_clamp (by omega), nI_add]; exact pk_sub (b := 1) (by omega)) ?_
          refine lv_dup2_11 hx hb dX2_countReasons_35 rfl rfl ?_
          refine x_iald (i := i * 4 + (reF (csP s0) (csN s0) (csD s0) (csW s0) waits n day i).toNatClampNeg - 1) hx hb hK hP 5 rfl (by first | omega | assumption) (by omega) dX2_countReasons_36 ?_
          refine lv_iconst (v := 1) hx hb dX2_countReasons_37 (by decide) ?_
          refine lv_iadd hx hb dX2_countReasons_38 ?_
          refine x_iast (i := i * 4 + (reF (csP s0) (csN s0) (csD s0) (csW s0) waits n day i).toNatClampNeg - 1) hx hb hK hP hD hS 5 rfl (by first | omega | assumption) (by omega) dX2_countReasons_39 (fun H locs hP hD hS => ?_)
          have hP : va_P (xD G) vwCl [oRun rA cA uA ra nob (nI (csC s0)) day last (csA s0) rst, xI G (ra 3) 16 (csP s0), xI G (ra 4) 16 (csN s0), xI G (ra 6) 16 (csD s0), xZ G (ra 7) 16 (csW s0), xI G (ra 12) 64 (upd f1 (i * 4 + (reF (csP s0) (csN s0) (csD s0) (csW s0) waits n day i).toNatClampNeg - 1) ((f1 (i * 4 + (reF (csP s0) (csN s0) (csD s0) (csW s0) waits n day i).toNatClampNeg - 1)) + 1)), oCards cA ca cols (nI n), xI G (ca 4) 16 waits] H := hP
          have hD : va_D A [oRun rA cA uA ra nob (nI (csC s0)) day last (csA s0) rst, xI G (ra 3) 16 (csP s0), xI G (ra 4) 16 (csN s0), xI G (ra 6) 16 (csD s0), xZ G (ra 7) 16 (csW s0), xI G (ra 12) 64 (upd f1 (i * 4 + (reF (csP s0) (csN s0) (csD s0) (csW s0) waits n day i).toNatClampNeg - 1) ((f1 (i * 4 + (reF (csP s0) (csN s0) (csD s0) (csW s0) waits n day i).toNatClampNeg - 1)) + 1)), oCards cA ca cols (nI n), xI G (ca 4) 16 waits] := hD
          refine lv_iinc (v := nI (i + 1)) (lv' := [(1, .int (nI (i + 1))), (2, .int (reF (csP s0) (csN s0) (csD s0) (csW s0) waits n day i)), (0, .ref rA)]) hx hb dX2_countReasons_40 hl (k := 1) rfl (by exact nI_add i 1) (by decide) rfl (fun ls hl => ?_)
          refine lv_goto (tgt := 2) hx hb dX2_countReasons_43 (by decide) ?_
          exact ih2 (i + 1) (upd f1 (i * 4 + (reF (csP s0) (csN s0) (csD s0) (csW s0) waits n day i).toNatClampNeg - 1) ((f1 (i * 4 + (reF (csP s0) (csN s0) (csD s0) (csW s0) waits n day i).toNatClampNeg - 1)) + 1)) (by omega) (by omega) (by simp only [itN, ← es]; unfold crB; first | rw [if_pos c21] | rw [if_neg c21]) H locs hP hD hS ls (lv_sub hl [0, 2] rfl)
  exact L2 (n + 1) 0 rsd (by omega) (by omega) (rfl) H locs hP hD hS ls (lv_sub hl [0, 1] rfl)
set_option maxHeartbeats 4000000 in
set_option maxRecDepth 100000 in
theorem mX2_restart (l : Launch) (G : xG) (rA : Nat) (cA : Nat) (uA : Nat) (ra : Nat → Nat) (nob : Int32) (s0 : CS) (day : Int32) (last : Int32) (rst : Int32) (rsd : Nat → Int32)   : xM l yX2_restart wsX2_restart ({ frames := 1, cells := 0, slots := 0, locals := 23 } : Room) [.ref rA] G [oRun rA cA uA ra nob (nI (csC s0)) day last (csA s0) rst, xI G (ra 3) 16 (csP s0), xI G (ra 4) 16 (csN s0), xI G (ra 5) 16 (csL s0), xI G (ra 6) 16 (csD s0), xZ G (ra 8) 16 (csB s0), xI G (ra 12) 64 rsd] [oRun rA cA uA ra nob 0 (-1) (-1) (csA s0) 0, xI G (ra 3) 16 (fl (csP s0) (-1) 16), xI G (ra 4) 16 (fl (csN s0) (-1) 16), xI G (ra 5) 16 (fl (csL s0) 0 16), xI G (ra 6) 16 (fl (csD s0) (-1) 16), xZ G (ra 8) 16 (fl (csB s0) 0 16), xI G (ra 12) 64 (fl rsd 0 64)] := by
  refine xM_of (cc := cX2_restart) (maxL := 2) (by decide) rfl (Nat.le_of_ble_eq_true rfl) ?_
  intro p e s m below meth cO ls Q A hx hb hml hown hts hP hK hD hS hA hl hq
  have hown : s.vm.findClass RX2 = some m.cls := hown
  have kl9 := hts (.fieldLink RX2 9 "WorkBoard$Run" "place" "[I") (List.mem_of_getElem? (i := 1) rfl)
  have kl15 := hts (.fieldLink RX2 15 "WorkBoard$Run" "next" "[I") (List.mem_of_getElem? (i := 2) rfl)
  have kl18 := hts (.fieldLink RX2 18 "WorkBoard$Run" "left" "[I") (List.mem_of_getElem? (i := 3) rfl)
  have kl21 := hts (.fieldLink RX2 21 "WorkBoard$Run" "doneOn" "[I") (List.mem_of_getElem? (i := 4) rfl)
  have kl37 := hts (.fieldLink RX2 37 "WorkBoard$Run" "reasonDays" "[I") (List.mem_of_getElem? (i := 5) rfl)
  have kl28 := hts (.fieldLink RX2 28 "WorkBoard$Run" "beenBack" "[Z") (List.mem_of_getElem? (i := 6) rfl)
  have kl58 := hts (.fieldLink RX2 58 "WorkBoard$Run" "pulledCount" "I") (List.mem_of_getElem? (i := 7) rfl)
  have kl62 := hts (.fieldLink RX2 62 "WorkBoard$Run" "day" "I") (List.mem_of_getElem? (i := 8) rfl)
  have kl65 := hts (.fieldLink RX2 65 "WorkBoard$Run" "lastActive" "I") (List.mem_of_getElem? (i := 9) rfl)
  have kl68 := hts (.fieldLink RX2 68 "WorkBoard$Run" "resting" "Z") (List.mem_of_getElem? (i := 10) rfl)
  have inX2 : ∀ w ∈ u_ws RX2 TX2 17, w ∈ wsX2_restart := (fun w h => List.mem_cons_of_mem _ (List.mem_append_right _ h))
  have hl : lv_has ls 2 [(0, .ref rA)] := hl
  have hD : va_D A [oRun rA cA uA ra nob (nI (csC s0)) day last (csA s0) rst, xI G (ra 3) 16 (csP s0), xI G (ra 4) 16 (csN s0), xI G (ra 5) 16 (csL s0), xI G (ra 6) 16 (csD s0), xZ G (ra 8) 16 (csB s0), xI G (ra 12) 64 rsd] := hD
  obtain ⟨H, hH⟩ : ∃ z, z = s.heap := ⟨_, rfl⟩
  obtain ⟨locs, hlocs⟩ : ∃ z : List Loc, z = [] := ⟨_, rfl⟩
  have hS : va_S A s.heap H locs := by rw [hH, hlocs]; exact hS
  have hP : va_P (xD G) vwCl [oRun rA cA uA ra nob (nI (csC s0)) day last (csA s0) rst, xI G (ra 3) 16 (csP s0), xI G (ra 4) 16 (csN s0), xI G (ra 5) 16 (csL s0), xI G (ra 6) 16 (csD s0), xZ G (ra 8) 16 (csB s0), xI G (ra 12) 64 rsd] H := by rw [hH]; exact hP
  rw [← hH, ← hlocs]
  clear hH hlocs
  refine lv_aload_n hx hb dX2_restart_0 rfl (lv_at hl 0 rfl) ?_
  refine va_get (D := xD G) (ci := 2) (v := .ref (ra 3)) (C := RX2) (T := TX2) (N := 17) hx hb hts inX2 hown hK hP 0 rfl rfl 3 (by decide) kl9 (fun _ h9 => h9) rfl dX2_restart_1 ?_
  refine lv_iconst (v := (-1)) hx hb dX2_restart_4 (by decide) ?_
  refine x_callT (As := [.ref (ra 3), .int (-1)]) (rest := []) (w2 := [oRun rA cA uA ra nob (nI (csC s0)) day last (csA s0) rst, xI G (ra 3) 16 (fl (csP s0) (-1) 16), xI G (ra 4) 16 (csN s0), xI G (ra 5) 16 (csL s0), xI G (ra 6) 16 (csD s0), xZ G (ra 8) 16 (csB s0), xI G (ra 12) 64 rsd]) (wr := [oRun rA cA uA ra nob (nI (csC s0)) day last (csA s0) rst, xI G (ra 4) 16 (csN s0), xI G (ra 5) 16 (csL s0), xI G (ra 6) 16 (csD s0), xZ G (ra 8) 16 (csB s0), xI G (ra 12) 64 rsd]) ⟨hx, hb, hml, hown, hts⟩ (mJ7_fill_53178 l G (ra 3) 16 (csP s0) (-1) (by first | assumption | omega)) (va_cwS 2 hts gX2_restart_J7_fill_53178 rfl rfl rfl (by decide +kernel) ⟨Nat.le_of_ble_eq_true rfl, Nat.le_of_ble_eq_true rfl⟩) hK hP hD hS hA [1] [0, 2, 3, 4, 5, 6] [0, 6, 1, 2, 3, 4, 5] rfl rfl rfl rfl rfl (by decide) rfl rfl rfl rfl hl.1 rfl (Nat.le_of_ble_eq_true rfl) dX2_restart_5 ⟨Nat.zero_le _, Nat.zero_le _⟩ (fun H locs hP hD hS => ?_)
  refine lv_aload_n hx hb dX2_restart_8 rfl (lv_at hl 0 rfl) ?_
  refine va_get (D := xD G) (ci := 2) (v := .ref (ra 4)) (C := RX2) (T := TX2) (N := 17) hx hb hts inX2 hown hK hP 0 rfl rfl 4 (by decide) kl15 (fun _ h9 => h9) rfl dX2_restart_9 ?_
  refine lv_iconst (v := (-1)) hx hb dX2_restart_12 (by decide) ?_
  refine x_callT (As := [.ref (ra 4), .int (-1)]) (rest := []) (w2 := [oRun rA cA uA ra nob (nI (csC s0)) day last (csA s0) rst, xI G (ra 3) 16 (fl (csP s0) (-1) 16), xI G (ra 4) 16 (fl (csN s0) (-1) 16), xI G (ra 5) 16 (csL s0), xI G (ra 6) 16 (csD s0), xZ G (ra 8) 16 (csB s0), xI G (ra 12) 64 rsd]) (wr := [oRun rA cA uA ra nob (nI (csC s0)) day last (csA s0) rst, xI G (ra 3) 16 (fl (csP s0) (-1) 16), xI G (ra 5) 16 (csL s0), xI G (ra 6) 16 (csD s0), xZ G (ra 8) 16 (csB s0), xI G (ra 12) 64 rsd]) ⟨hx, hb, hml, hown, hts⟩ (mJ7_fill_53178 l G (ra 4) 16 (csN s0) (-1) (by first | assumption | omega)) (va_cwS 2 hts gX2_restart_J7_fill_53178 rfl rfl rfl (by decide +kernel) ⟨Nat.le_of_ble_eq_true rfl, Nat.le_of_ble_eq_true rfl⟩) hK hP hD hS hA [2] [0, 1, 3, 4, 5, 6] [0, 1, 6, 2, 3, 4, 5] rfl rfl rfl rfl rfl (by decide) rfl rfl rfl rfl hl.1 rfl (Nat.le_of_ble_eq_true rfl) dX2_restart_13 ⟨Nat.zero_le _, Nat.zero_le _⟩ (fun H locs hP hD hS => ?_)
  refine lv_aload_n hx hb dX2_restart_16 rfl (lv_at hl 0 rfl) ?_
  refine va_get (D := xD G) (ci := 2) (v := .ref (ra 5)) (C := RX2) (T := TX2) (N := 17) hx hb hts inX2 hown hK hP 0 rfl rfl 5 (by decide) kl18 (fun _ h9 => h9) rfl dX2_restart_17 ?_
  refine lv_iconst (v := 0) hx hb dX2_restart_20 (by decide) ?_
  refine x_callT (As := [.ref (ra 5), .int 0]) (rest := []) (w2 := [oRun rA cA uA ra nob (nI (csC s0)) day last (csA s0) rst, xI G (ra 3) 16 (fl (csP s0) (-1) 16), xI G (ra 4) 16 (fl (csN s0) (-1) 16), xI G (ra 5) 16 (fl (csL s0) 0 16), xI G (ra 6) 16 (csD s0), xZ G (ra 8) 16 (csB s0), xI G (ra 12) 64 rsd]) (wr := [oRun rA cA uA ra nob (nI (csC s0)) day last (csA s0) rst, xI G (ra 3) 16 (fl (csP s0) (-1) 16), xI G (ra 4) 16 (fl (csN s0) (-1) 16), xI G (ra 6) 16 (csD s0), xZ G (ra 8) 16 (csB s0), xI G (ra 12) 64 rsd]) ⟨hx, hb, hml, hown, hts⟩ (mJ7_fill_53178 l G (ra 5) 16 (csL s0) 0 (by first | assumption | omega)) (va_cwS 2 hts gX2_restart_J7_fill_53178 rfl rfl rfl (by decide +kernel) ⟨Nat.le_of_ble_eq_true rfl, Nat.le_of_ble_eq_true rfl⟩) hK hP hD hS hA [3] [0, 1, 2, 4, 5, 6] [0, 1, 2, 6, 3, 4, 5] rfl rfl rfl rfl rfl (by decide) rfl rfl rfl rfl hl.1 rfl (Nat.le_of_ble_eq_true rfl) dX2_restart_21 ⟨Nat.zero_le _, Nat.zero_le _⟩ (fun H locs hP hD hS => ?_)
  refine lv_aload_n hx hb dX2_restart_24 rfl (lv_at hl 0 rfl) ?_
  refine va_get (D := xD G) (ci := 2) (v := .ref (ra 6)) (C := RX2) (T := TX2) (N := 17) hx hb hts inX2 hown hK hP 0 rfl rfl 6 (by decide) kl21 (fun _ h9 => h9) rfl dX2_restart_25 ?_
  refine lv_iconst (v := (-1)) hx hb dX2_restart_28 (by decide) ?_
  refine x_callT (As := [.ref (ra 6), .int (-1)]) (rest := []) (w2 := [oRun rA cA uA ra nob (nI (csC s0)) day last (csA s0) rst, xI G (ra 3) 16 (fl (csP s0) (-1) 16), xI G (ra 4) 16 (fl (csN s0) (-1) 16), xI G (ra 5) 16 (fl (csL s0) 0 16), xI G (ra 6) 16 (fl (csD s0) (-1) 16), xZ G (ra 8) 16 (csB s0), xI G (ra 12) 64 rsd]) (wr := [oRun rA cA uA ra nob (nI (csC s0)) day last (csA s0) rst, xI G (ra 3) 16 (fl (csP s0) (-1) 16), xI G (ra 4) 16 (fl (csN s0) (-1) 16), xI G (ra 5) 16 (fl (csL s0) 0 16), xZ G (ra 8) 16 (csB s0), xI G (ra 12) 64 rsd]) ⟨hx, hb, hml, hown, hts⟩ (mJ7_fill_53178 l G (ra 6) 16 (csD s0) (-1) (by first | assumption | omega)) (va_cwS 2 hts gX2_restart_J7_fill_53178 rfl rfl rfl (by decide +kernel) ⟨Nat.le_of_ble_eq_true rfl, Nat.le_of_ble_eq_true rfl⟩) hK hP hD hS hA [4] [0, 1, 2, 3, 5, 6] [0, 1, 2, 3, 6, 4, 5] rfl rfl rfl rfl rfl (by decide) rfl rfl rfl rfl hl.1 rfl (Nat.le_of_ble_eq_true rfl) dX2_restart_29 ⟨Nat.zero_le _, Nat.zero_le _⟩ (fun H locs hP hD hS => ?_)
  refine lv_aload_n hx hb dX2_restart_32 rfl (lv_at hl 0 rfl) ?_
  refine va_get (D := xD G) (ci := 2) (v := .ref (ra 12)) (C := RX2) (T := TX2) (N := 17) hx hb hts inX2 hown hK hP 0 rfl rfl 12 (by decide) kl37 (fun _ h9 => h9) rfl dX2_restart_33 ?_
  refine lv_iconst (v := 0) hx hb dX2_restart_36 (by decide) ?_
  refine x_callT (As := [.ref (ra 12), .int 0]) (rest := []) (w2 := [oRun rA cA uA ra nob (nI (csC s0)) day last (csA s0) rst, xI G (ra 3) 16 (fl (csP s0) (-1) 16), xI G (ra 4) 16 (fl (csN s0) (-1) 16), xI G (ra 5) 16 (fl (csL s0) 0 16), xI G (ra 6) 16 (fl (csD s0) (-1) 16), xZ G (ra 8) 16 (csB s0), xI G (ra 12) 64 (fl rsd 0 64)]) (wr := [oRun rA cA uA ra nob (nI (csC s0)) day last (csA s0) rst, xI G (ra 3) 16 (fl (csP s0) (-1) 16), xI G (ra 4) 16 (fl (csN s0) (-1) 16), xI G (ra 5) 16 (fl (csL s0) 0 16), xI G (ra 6) 16 (fl (csD s0) (-1) 16), xZ G (ra 8) 16 (csB s0)]) ⟨hx, hb, hml, hown, hts⟩ (mJ7_fill_53178 l G (ra 12) 64 rsd 0 (by first | assumption | omega)) (va_cwS 2 hts gX2_restart_J7_fill_53178 rfl rfl rfl (by decide +kernel) ⟨Nat.le_of_ble_eq_true rfl, Nat.le_of_ble_eq_true rfl⟩) hK hP hD hS hA [6] [0, 1, 2, 3, 4, 5] [0, 1, 2, 3, 4, 5, 6] rfl rfl rfl rfl rfl (by decide) rfl rfl rfl rfl hl.1 rfl (Nat.le_of_ble_eq_true rfl) dX2_restart_37 ⟨Nat.zero_le _, Nat.zero_le _⟩ (fun H locs hP hD hS => ?_)
  refine lv_iconst (v := 0) hx hb dX2_restart_40 (by decide) ?_
  refine lv_istore_n (lv' := [(1, .int 0), (0, .ref rA)]) hx hb dX2_restart_41 rfl hl (by decide) rfl (fun ls hl => ?_)
  have L42 : ∀ (kk42 i : Nat) (f1 : XF), i ≤ 16 → 16 + 1 ≤ i + kk42 → (f1 = fl (csB s0) 0 i) → ∀ (H : Heap) (locs : List Loc), va_P (xD G) vwCl [oRun rA cA uA ra nob (nI (csC s0)) day last (csA s0) rst, xI G (ra 3) 16 (fl (csP s0) (-1) 16), xI G (ra 4) 16 (fl (csN s0) (-1) 16), xI G (ra 5) 16 (fl (csL s0) 0 16), xI G (ra 6) 16 (fl (csD s0) (-1) 16), xZ G (ra 8) 16 f1, xI G (ra 12) 64 (fl rsd 0 64)] H → va_D A [oRun rA cA uA ra nob (nI (csC s0)) day last (csA s0) rst, xI G (ra 3) 16 (fl (csP s0) (-1) 16), xI G (ra 4) 16 (fl (csN s0) (-1) 16), xI G (ra 5) 16 (fl (csL s0) 0 16), xI G (ra 6) 16 (fl (csD s0) (-1) 16), xZ G (ra 8) 16 f1, xI G (ra 12) 64 (fl rsd 0 64)] → va_S A s.heap H locs → ∀ (ls : Array Slot), lv_has ls 2 [(1, .int (nI i)), (0, .ref rA)] → W p l e ({ frames := 1, cells := 0, slots := 0, locals := 23 } : Room) s m #[Value.ref rA] below meth cO H locs 0 0 Q (F0 m 42 ls []) := by
    intro kk42
    induction kk42 with
    | zero => intro i f1 h1 h2; exact absurd h2 (by omega)
    | succ kk42 ih42 =>
      intro i f1 hi42 hk42 es H locs hP hD hS ls hl
      refine lv_iload_n hx hb dX2_restart_42 rfl (lv_at hl 0 rfl) ?_
      refine lv_bipush (v := 16) hx hb dX2_restart_43 (by decide) ?_
      refine x_icmp_ge (x := i) (y := 16) (tgt := 61) hx hb (by omega) (by omega) dX2_restart_45 (by decide) (fun c45 => ?_) (fun c45 => ?_)
      · skip
        have e_2 : i = 16 := by omega
        rw [e_2] at es
        subst es
        refine lv_aload_n hx hb dX2_restart_61 rfl (lv_at hl 1 rfl) ?_
        refine lv_iconst (v := 0) hx hb dX2_restart_62 (by decide) ?_
        refine va_put (D := xD G) (ci := 2) (v := .int 0) (ty := .int) (C := RX2) (T := TX2) (N := 17) hx hb hts inX2 tyX2 tyX2_ok nmX2 hown hK hP hD hS 0 rfl rfl 10 (by decide) kl58 (fun _ h9 => h9) rfl (by decide +kernel) rfl rfl (Nat.le_of_ble_eq_true rfl) dX2_restart_63 (fun H locs hP hD hS => ?_)
        have hP : va_P (xD G) vwCl [oRun rA cA uA ra nob 0 day last (csA s0) rst, xI G (ra 3) 16 (fl (csP s0) (-1) 16), xI G (ra 4) 16 (fl (csN s0) (-1) 16), xI G (ra 5) 16 (fl (csL s0) 0 16), xI G (ra 6) 16 (fl (csD s0) (-1) 16), xZ G (ra 8) 16 (fl (csB s0) 0 16), xI G (ra 12) 64 (fl rsd 0 64)] H := hP
        have hD : va_D A [oRun rA cA uA ra nob 0 day last (csA s0) rst, xI G (ra 3) 16 (fl (csP s0) (-1) 16), xI G (ra 4) 16 (fl (csN s0) (-1) 16), xI G (ra 5) 16 (fl (csL s0) 0 16), xI G (ra 6) 16 (fl (csD s0) (-1) 16), xZ G (ra 8) 16 (fl (csB s0) 0 16), xI G (ra 12) 64 (fl rsd 0 64)] := hD
        refine lv_aload_n hx hb dX2_restart_66 rfl (lv_at hl 1 rfl) ?_
        refine lv_iconst (v := (-1)) hx hb dX2_restart_67 (by decide) ?_
        refine va_put (D := xD G) (ci := 2) (v := .int (-1)) (ty := .int) (C := RX2) (T := TX2) (N := 17) hx hb hts inX2 tyX2 tyX2_ok nmX2 hown hK hP hD hS 0 rfl rfl 13 (by decide) kl62 (fun _ h9 => h9) rfl (by decide +kernel) rfl rfl (Nat.le_of_ble_eq_true rfl) dX2_restart_68 (fun H locs hP hD hS => ?_)
        have hP : va_P (xD G) vwCl [oRun rA cA uA ra nob 0 (-1) last (csA s0) rst, xI G (ra 3) 16 (fl (csP s0) (-1) 16), xI G (ra 4) 16 (fl (csN s0) (-1) 16), xI G (ra 5) 16 (fl (csL s0) 0 16), xI G (ra 6) 16 (fl (csD s0) (-1) 16), xZ G (ra 8) 16 (fl (csB s0) 0 16), xI G (ra 12) 64 (fl rsd 0 64)] H := hP
        have hD : va_D A [oRun rA cA uA ra nob 0 (-1) last (csA s0) rst, xI G (ra 3) 16 (fl (csP s0) (-1) 16), xI G (ra 4) 16 (fl (csN s0) (-1) 16), xI G (ra 5) 16 (fl (csL s0) 0 16), xI G (ra 6) 16 (fl (csD s0) (-1) 16), xZ G (ra 8) 16 (fl (csB s0) 0 16), xI G (ra 12) 64 (fl rsd 0 64)] := hD
        refine lv_aload_n hx hb dX2_restart_71 rfl (lv_at hl 1 rfl) ?_
        refine lv_iconst (v := (-1)) hx hb dX2_restart_72 (by decide) ?_
        refine va_put (D := xD G) (ci := 2) (v := .int (-1)) (ty := .int) (C := RX2) (T := TX2) (N := 17) hx hb hts inX2 tyX2 tyX2_ok nmX2 hown hK hP hD hS 0 rfl rfl 14 (by decide) kl65 (fun _ h9 => h9) rfl (by decide +kernel) rfl rfl (Nat.le_of_ble_eq_true rfl) dX2_restart_73 (fun H locs hP hD hS => ?_)
        have hP : va_P (xD G) vwCl [oRun rA cA uA ra nob 0 (-1) (-1) (csA s0) rst, xI G (ra 3) 16 (fl (csP s0) (-1) 16), xI G (ra 4) 16 (fl (csN s0) (-1) 16), xI G (ra 5) 16 (fl (csL s0) 0 16), xI G (ra 6) 16 (fl (csD s0) (-1) 16), xZ G (ra 8) 16 (fl (csB s0) 0 16), xI G (ra 12) 64 (fl rsd 0 64)] H := hP
        have hD : va_D A [oRun rA cA uA ra nob 0 (-1) (-1) (csA s0) rst, xI G (ra 3) 16 (fl (csP s0) (-1) 16), xI G (ra 4) 16 (fl (csN s0) (-1) 16), xI G (ra 5) 16 (fl (csL s0) 0 16), xI G (ra 6) 16 (fl (csD s0) (-1) 16), xZ G (ra 8) 16 (fl (csB s0) 0 16), xI G (ra 12) 64 (fl rsd 0 64)] := hD
        refine lv_aload_n hx hb dX2_restart_76 rfl (lv_at hl 1 rfl) ?_
        refine lv_iconst (v := 0) hx hb dX2_restart_77 (by decide) ?_
        refine va_put (D := xD G) (ci := 2) (v := .int 0) (ty := .boolean) (C := RX2) (T := TX2) (N := 17) hx hb hts inX2 tyX2 tyX2_ok nmX2 hown hK hP hD hS 0 rfl rfl 16 (by decide) kl68 (fun _ h9 => h9) rfl (by decide +kernel) rfl rfl (Nat.le_of_ble_eq_true rfl) dX2_restart_78 (fun H locs hP hD hS => ?_)
        have hP : va_P (xD G) vwCl [oRun rA cA uA ra nob 0 (-1) (-1) (csA s0) 0, xI G (ra 3) 16 (fl (csP s0) (-1) 16), xI G (ra 4) 16 (fl (csN s0) (-1) 16), xI G (ra 5) 16 (fl (csL s0) 0 16), xI G (ra 6) 16 (fl (csD s0) (-1) 16), xZ G (ra 8) 16 (fl (csB s0) 0 16), xI G (ra 12) 64 (fl rsd 0 64)] H := hP
        have hD : va_D A [oRun rA cA uA ra nob 0 (-1) (-1) (csA s0) 0, xI G (ra 3) 16 (fl (csP s0) (-1) 16), xI G (ra 4) 16 (fl (csN s0) (-1) 16), xI G (ra 5) 16 (fl (csL s0) 0 16), xI G (ra 6) 16 (fl (csD s0) (-1) 16), xZ G (ra 8) 16 (fl (csB s0) 0 16), xI G (ra 12) 64 (fl rsd 0 64)] := hD
        exact hq H locs 81 ls dX2_restart_81 (hP) (hD) hS
      · skip
        refine lv_aload_n hx hb dX2_restart_48 rfl (lv_at hl 1 rfl) ?_
        refine va_get (D := xD G) (ci := 2) (v := .ref (ra 8)) (C := RX2) (T := TX2) (N := 17) hx hb hts inX2 hown hK hP 0 rfl rfl 8 (by decide) kl28 (fun _ h9 => h9) rfl dX2_restart_49 ?_
        refine lv_iload_n hx hb dX2_restart_52 rfl (lv_at hl 0 rfl) ?_
        refine lv_iconst (v := 0) hx hb dX2_restart_53 (by decide) ?_
        refine x_zast (i := i) hx hb hK hP hD hS 5 rfl (by first | omega | assumption) (by omega) rfl dX2_restart_54 (fun H locs hP hD hS => ?_)
        have hP : va_P (xD G) vwCl [oRun rA cA uA ra nob (nI (csC s0)) day last (csA s0) rst, xI G (ra 3) 16 (fl (csP s0) (-1) 16), xI G (ra 4) 16 (fl (csN s0) (-1) 16), xI G (ra 5) 16 (fl (csL s0) 0 16), xI G (ra 6) 16 (fl (csD s0) (-1) 16), xZ G (ra 8) 16 (upd f1 i 0), xI G (ra 12) 64 (fl rsd 0 64)] H := hP
        have hD : va_D A [oRun rA cA uA ra nob (nI (csC s0)) day last (csA s0) rst, xI G (ra 3) 16 (fl (csP s0) (-1) 16), xI G (ra 4) 16 (fl (csN s0) (-1) 16), xI G (ra 5) 16 (fl (csL s0) 0 16), xI G (ra 6) 16 (fl (csD s0) (-1) 16), xZ G (ra 8) 16 (upd f1 i 0), xI G (ra 12) 64 (fl rsd 0 64)] := hD
        refine lv_iinc (v := nI (i + 1)) (lv' := [(1, .int (nI (i + 1))), (0, .ref rA)]) hx hb dX2_restart_55 hl (k := 0) rfl (by exact nI_add i 1) (by decide) rfl (fun ls hl => ?_)
        refine lv_goto (tgt := 42) hx hb dX2_restart_58 (by decide) ?_
        exact ih42 (i + 1) (upd f1 i 0) (by omega) (by omega) (by rw [es]; exact fl_s _ _ _) H locs hP hD hS ls (lv_sub hl [0, 1] rfl)
  exact L42 (16 + 1) 0 (csB s0) (by omega) (by omega) ((fl_0 _ _).symm) H locs hP hD hS ls (lv_sub hl [0, 1] rfl)
