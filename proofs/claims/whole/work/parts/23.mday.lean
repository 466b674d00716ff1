/-! the reference: a day -/
set_option maxHeartbeats 4000000 in
set_option maxRecDepth 100000 in
theorem mX5_begins (l : Launch) (G : xG) (mA : Nat) (ma : Nat → Nat) (cols : Int32) (n : Nat) (pac : Int32) (opac : Int32) (rpac : Int32) (alike : Int32) (z0 : RS) (fresh : Int32) (bup : Int32) (bsum : Int32)   : xM l yX5_begins wsX5_begins ({ frames := 0, cells := 0, slots := 0, locals := 0 } : Room) [.ref mA] G [oModel mA ma cols (nI n) pac opac rpac alike (nI (mK z0)) (mE z0) (mM z0) (mV z0) (nI (mH z0)) fresh bup bsum, xI G (ma 21) 16 (mP z0), xI G (ma 22) 16 (mL z0), xZ G (ma 23) 16 (mT z0), xI G (ma 24) 16 (mN z0), xI G (ma 25) 16 (mX z0), xZ G (ma 26) 16 (mB z0), xI G (ma 27) 16 (mD z0), xZ G (ma 28) 16 (mW z0), xI G (ma 29) 16 (mR z0), xI G (ma 30) 80 (mS z0)] [oModel mA ma cols (nI n) pac opac rpac alike (nI (mK (bnF z0))) (mE (bnF z0)) (mM (bnF z0)) (mV (bnF z0)) (nI (mH (bnF z0))) fresh bup bsum, xI G (ma 21) 16 (mP (bnF z0)), xI G (ma 22) 16 (mL (bnF z0)), xZ G (ma 23) 16 (mT (bnF z0)), xI G (ma 24) 16 (mN (bnF z0)), xI G (ma 25) 16 (mX (bnF z0)), xZ G (ma 26) 16 (mB (bnF z0)), xI G (ma 27) 16 (mD (bnF z0)), xZ G (ma 28) 16 (mW (bnF z0)), xI G (ma 29) 16 (mR (bnF z0)), xI G (ma 30) 80 (mS (bnF z0))] := by
  refine xM_of (cc := cX5_begins) (maxL := 2) (by decide) rfl (Nat.le_of_ble_eq_true rfl) ?_
  intro p e s m below meth cO ls Q A hx hb hml hown hts hP hK hD hS hA hl hq
  have hown : s.vm.findClass RX5 = some m.cls := hown
  have kl66 := hts (.fieldLink RX5 66 "WorkBoardModel" "place" "[I") (List.mem_of_getElem? (i := 1) rfl)
  have kl69 := hts (.fieldLink RX5 69 "WorkBoardModel" "left" "[I") (List.mem_of_getElem? (i := 2) rfl)
  have kl72 := hts (.fieldLink RX5 72 "WorkBoardModel" "isThrough" "[Z") (List.mem_of_getElem? (i := 3) rfl)
  have kl75 := hts (.fieldLink RX5 75 "WorkBoardModel" "nextColumn" "[I") (List.mem_of_getElem? (i := 4) rfl)
  have kl81 := hts (.fieldLink RX5 81 "WorkBoardModel" "wasBack" "[Z") (List.mem_of_getElem? (i := 5) rfl)
  have kl84 := hts (.fieldLink RX5 84 "WorkBoardModel" "doneOn" "[I") (List.mem_of_getElem? (i := 6) rfl)
  have kl90 := hts (.fieldLink RX5 90 "WorkBoardModel" "reasonNow" "[I") (List.mem_of_getElem? (i := 7) rfl)
  have kl93 := hts (.fieldLink RX5 93 "WorkBoardModel" "reasons" "[I") (List.mem_of_getElem? (i := 8) rfl)
  have kl137 := hts (.fieldLink RX5 137 "WorkBoardModel" "pulls" "I") (List.mem_of_getElem? (i := 9) rfl)
  have kl140 := hts (.fieldLink RX5 140 "WorkBoardModel" "length" "I") (List.mem_of_getElem? (i := 10) rfl)
  have kl143 := hts (.fieldLink RX5 143 "WorkBoardModel" "lastMove" "I") (List.mem_of_getElem? (i := 11) rfl)
  have inX5 : ∀ w ∈ u_ws RX5 TX5 42, w ∈ wsX5_begins := (fun w h => List.mem_cons_of_mem _ (List.mem_append_right _ h))
  have hl : lv_has ls 2 [(0, .ref mA)] := hl
  have hD : va_D A [oModel mA ma cols (nI n) pac opac rpac alike (nI (mK z0)) (mE z0) (mM z0) (mV z0) (nI (mH z0)) fresh bup bsum, xI G (ma 21) 16 (mP z0), xI G (ma 22) 16 (mL z0), xZ G (ma 23) 16 (mT z0), xI G (ma 24) 16 (mN z0), xI G (ma 25) 16 (mX z0), xZ G (ma 26) 16 (mB z0), xI G (ma 27) 16 (mD z0), xZ G (ma 28) 16 (mW z0), xI G (ma 29) 16 (mR z0), xI G (ma 30) 80 (mS z0)] := hD
  obtain ⟨H, hH⟩ : ∃ z, z = s.heap := ⟨_, rfl⟩
  obtain ⟨locs, hlocs⟩ : ∃ z : List Loc, z = [] := ⟨_, rfl⟩
  have hS : va_S A s.heap H locs := by rw [hH, hlocs]; exact hS
  have hP : va_P (xD G) vwCl [oModel mA ma cols (nI n) pac opac rpac alike (nI (mK z0)) (mE z0) (mM z0) (mV z0) (nI (mH z0)) fresh bup bsum, xI G (ma 21) 16 (mP z0), xI G (ma 22) 16 (mL z0), xZ G (ma 23) 16 (mT z0), xI G (ma 24) 16 (mN z0), xI G (ma 25) 16 (mX z0), xZ G (ma 26) 16 (mB z0), xI G (ma 27) 16 (mD z0), xZ G (ma 28) 16 (mW z0), xI G (ma 29) 16 (mR z0), xI G (ma 30) 80 (mS z0)] H := by rw [hH]; exact hP
  rw [← hH, ← hlocs]
  clear hH hlocs
  refine lv_iconst (v := 0) hx hb dX5_begins_0 (by decide) ?_
  refine lv_istore_n (lv' := [(1, .int 0), (0, .ref mA)]) hx hb dX5_begins_1 rfl hl (by decide) rfl (fun ls hl => ?_)
  have L2 : ∀ (kk2 i : Nat) (f0 : XF) (f1 : XF) (f2 : XF) (f3 : XF) (f4 : XF) (f5 : XF) (f6 : XF), i ≤ 16 → 16 + 1 ≤ i + kk2 → (f0 = fl (mP z0) (-1) i) → (f1 = fl (mL z0) 0 i) → (f2 = fl (mT z0) 0 i) → (f3 = fl (mN z0) 0 i) → (f4 = fl (mB z0) 0 i) → (f5 = fl (mD z0) (-1) i) → (f6 = fl (mR z0) (-1) i) → ∀ (H : Heap) (locs : List Loc), va_P (xD G) vwCl [oModel mA ma cols (nI n) pac opac rpac alike (nI (mK z0)) (mE z0) (mM z0) (mV z0) (nI (mH z0)) fresh bup bsum, xI G (ma 21) 16 f0, xI G (ma 22) 16 f1, xZ G (ma 23) 16 f2, xI G (ma 24) 16 f3, xI G (ma 25) 16 (mX z0), xZ G (ma 26) 16 f4, xI G (ma 27) 16 f5, xZ G (ma 28) 16 (mW z0), xI G (ma 29) 16 f6, xI G (ma 30) 80 (mS z0)] H → va_D A [oModel mA ma cols (nI n) pac opac rpac alike (nI (mK z0)) (mE z0) (mM z0) (mV z0) (nI (mH z0)) fresh bup bsum, xI G (ma 21) 16 f0, xI G (ma 22) 16 f1, xZ G (ma 23) 16 f2, xI G (ma 24) 16 f3, xI G (ma 25) 16 (mX z0), xZ G (ma 26) 16 f4, xI G (ma 27) 16 f5, xZ G (ma 28) 16 (mW z0), xI G (ma 29) 16 f6, xI G (ma 30) 80 (mS z0)] → va_S A s.heap H locs → ∀ (ls : Array Slot), lv_has ls 2 [(1, .int (nI i)), (0, .ref mA)] → W p l e ({ frames := 0, cells := 0, slots := 0, locals := 0 } : Room) s m #[Value.ref mA] below meth cO H locs 0 0 Q (F0 m 2 ls []) := by
    intro kk2
    induction kk2 with
    | zero => intro i f0 f1 f2 f3 f4 f5 f6 h1 h2; exact absurd h2 (by omega)
    | succ kk2 ih2 =>
      intro i f0 f1 f2 f3 f4 f5 f6 hi2 hk2 e0 e1 e2 e3 e4 e5 e6 H locs hP hD hS ls hl
      refine lv_iload_n hx hb dX5_begins_2 rfl (lv_at hl 0 rfl) ?_
      refine lv_bipush (v := 16) hx hb dX5_begins_3 (by decide) ?_
      refine x_icmp_ge (x := i) (y := 16) (tgt := 63) hx hb (by omega) (by omega) dX5_begins_5 (by decide) (fun c5 => ?_) (fun c5 => ?_)
      · skip
        have e_2 : i = 16 := by omega
        rw [e_2] at e0
        subst e0
        rw [e_2] at e1
        subst e1
        rw [e_2] at e2
        subst e2
        rw [e_2] at e3
        subst e3
        rw [e_2] at e4
        subst e4
        rw [e_2] at e5
        subst e5
        rw [e_2] at e6
        subst e6
        refine lv_iconst (v := 0) hx hb dX5_begins_63 (by decide) ?_
        refine lv_istore_n (lv' := [(1, .int 0), (0, .ref mA)]) hx hb dX5_begins_64 rfl hl (by decide) rfl (fun ls hl => ?_)
        have L65 : ∀ (kk65 i : Nat) (g : XF), i ≤ 80 → 80 + 1 ≤ i + kk65 → (g = fl (mS z0) 0 i) → ∀ (H : Heap) (locs : List Loc), va_P (xD G) vwCl [oModel mA ma cols (nI n) pac opac rpac alike (nI (mK z0)) (mE z0) (mM z0) (mV z0) (nI (mH z0)) fresh bup bsum, xI G (ma 21) 16 (fl (mP z0) (-1) 16), xI G (ma 22) 16 (fl (mL z0) 0 16), xZ G (ma 23) 16 (fl (mT z0) 0 16), xI G (ma 24) 16 (fl (mN z0) 0 16), xI G (ma 25) 16 (mX z0), xZ G (ma 26) 16 (fl (mB z0) 0 16), xI G (ma 27) 16 (fl (mD z0) (-1) 16), xZ G (ma 28) 16 (mW z0), xI G (ma 29) 16 (fl (mR z0) (-1) 16), xI G (ma 30) 80 g] H → va_D A [oModel mA ma cols (nI n) pac opac rpac alike (nI (mK z0)) (mE z0) (mM z0) (mV z0) (nI (mH z0)) fresh bup bsum, xI G (ma 21) 16 (fl (mP z0) (-1) 16), xI G (ma 22) 16 (fl (mL z0) 0 16), xZ G (ma 23) 16 (fl (mT z0) 0 16), xI G (ma 24) 16 (fl (mN z0) 0 16), xI G (ma 25) 16 (mX z0), xZ G (ma 26) 16 (fl (mB z0) 0 16), xI G (ma 27) 16 (fl (mD z0) (-1) 16), xZ G (ma 28) 16 (mW z0), xI G (ma 29) 16 (fl (mR z0) (-1) 16), xI G (ma 30) 80 g] → va_S A s.heap H locs → ∀ (ls : Array Slot), lv_has ls 2 [(1, .int (nI i)), (0, .ref mA)] → W p l e ({ frames := 0, cells := 0, slots := 0, locals := 0 } : Room) s m #[Value.ref mA] below meth cO H locs 0 0 Q (F0 m 65 ls []) := by
          intro kk65
          induction kk65 with
          | zero => intro i g h1 h2; exact absurd h2 (by omega)
          | succ kk65 ih65 =>
            intro i g hi65 hk65 eg H locs hP hD hS ls hl
            refine lv_iload_n hx hb dX5_begins_65 rfl (lv_at hl 0 rfl) ?_
            refine lv_bipush (v := 80) hx hb dX5_begins_66 (by decide) ?_
            refine x_icmp_ge (x := i) (y := 80) (tgt := 84) hx hb (by omega) (by omega) dX5_begins_68 (by decide) (fun c68 => ?_) (fun c68 => ?_)
            · skip
              have e_4 : i = 80 := by omega
              rw [e_4] at eg
              subst eg
              refine lv_aload_n hx hb dX5_begins_84 rfl (lv_at hl 1 rfl) ?_
              refine lv_iconst (v := 0) hx hb dX5_begins_85 (by decide) ?_
              refine va_put (D := xD G) (ci := 5) (v := .int 0) (ty := .int) (C := RX5) (T := TX5) (N := 42) hx hb hts inX5 tyX5 tyX5_ok nmX5 hown hK hP hD hS 0 rfl rfl 31 (by decide) kl137 (fun _ h9 => h9) rfl (by decide +kernel) rfl rfl (Nat.le_of_ble_eq_true rfl) dX5_begins_86 (fun H locs hP hD hS => ?_)
              have hP : va_P (xD G) vwCl [oModel mA ma cols (nI n) pac opac rpac alike 0 (mE z0) (mM z0) (mV z0) (nI (mH z0)) fresh bup bsum, xI G (ma 21) 16 (fl (mP z0) (-1) 16), xI G (ma 22) 16 (fl (mL z0) 0 16), xZ G (ma 23) 16 (fl (mT z0) 0 16), xI G (ma 24) 16 (fl (mN z0) 0 16), xI G (ma 25) 16 (mX z0), xZ G (ma 26) 16 (fl (mB z0) 0 16), xI G (ma 27) 16 (fl (mD z0) (-1) 16), xZ G (ma 28) 16 (mW z0), xI G (ma 29) 16 (fl (mR z0) (-1) 16), xI G (ma 30) 80 (fl (mS z0) 0 80)] H := hP
              have hD : va_D A [oModel mA ma cols (nI n) pac opac rpac alike 0 (mE z0) (mM z0) (mV z0) (nI (mH z0)) fresh bup bsum, xI G (ma 21) 16 (fl (mP z0) (-1) 16), xI G (ma 22) 16 (fl (mL z0) 0 16), xZ G (ma 23) 16 (fl (mT z0) 0 16), xI G (ma 24) 16 (fl (mN z0) 0 16), xI G (ma 25) 16 (mX z0), xZ G (ma 26) 16 (fl (mB z0) 0 16), xI G (ma 27) 16 (fl (mD z0) (-1) 16), xZ G (ma 28) 16 (mW z0), xI G (ma 29) 16 (fl (mR z0) (-1) 16), xI G (ma 30) 80 (fl (mS z0) 0 80)] := hD
              refine lv_aload_n hx hb dX5_begins_89 rfl (lv_at hl 1 rfl) ?_
              refine lv_iconst (v := (-1)) hx hb dX5_begins_90 (by decide) ?_
              refine va_put (D := xD G) (ci := 5) (v := .int (-1)) (ty := .int) (C := RX5) (T := TX5) (N := 42) hx hb hts inX5 tyX5 tyX5_ok nmX5 hown hK hP hD hS 0 rfl rfl 32 (by decide) kl140 (fun _ h9 => h9) rfl (by decide +kernel) rfl rfl (Nat.le_of_ble_eq_true rfl) dX5_begins_91 (fun H locs hP hD hS => ?_)
              have hP : va_P (xD G) vwCl [oModel mA ma cols (nI n) pac opac rpac alike 0 (-1) (mM z0) (mV z0) (nI (mH z0)) fresh bup bsum, xI G (ma 21) 16 (fl (mP z0) (-1) 16), xI G (ma 22) 16 (fl (mL z0) 0 16), xZ G (ma 23) 16 (fl (mT z0) 0 16), xI G (ma 24) 16 (fl (mN z0) 0 16), xI G (ma 25) 16 (mX z0), xZ G (ma 26) 16 (fl (mB z0) 0 16), xI G (ma 27) 16 (fl (mD z0) (-1) 16), xZ G (ma 28) 16 (mW z0), xI G (ma 29) 16 (fl (mR z0) (-1) 16), xI G (ma 30) 80 (fl (mS z0) 0 80)] H := hP
              have hD : va_D A [oModel mA ma cols (nI n) pac opac rpac alike 0 (-1) (mM z0) (mV z0) (nI (mH z0)) fresh bup bsum, xI G (ma 21) 16 (fl (mP z0) (-1) 16), xI G (ma 22) 16 (fl (mL z0) 0 16), xZ G (ma 23) 16 (fl (mT z0) 0 16), xI G (ma 24) 16 (fl (mN z0) 0 16), xI G (ma 25) 16 (mX z0), xZ G (ma 26) 16 (fl (mB z0) 0 16), xI G (ma 27) 16 (fl (mD z0) (-1) 16), xZ G (ma 28) 16 (mW z0), xI G (ma 29) 16 (fl (mR z0) (-1) 16), xI G (ma 30) 80 (fl (mS z0) 0 80)] := hD
              refine lv_aload_n hx hb dX5_begins_94 rfl (lv_at hl 1 rfl) ?_
              refine lv_iconst (v := (-1)) hx hb dX5_begins_95 (by decide) ?_
              refine va_put (D := xD G) (ci := 5) (v := .int (-1)) (ty := .int) (C := RX5) (T := TX5) (N := 42) hx hb hts inX5 tyX5 tyX5_ok nmX5 hown hK hP hD hS 0 rfl rfl 33 (by decide) kl143 (fun _ h9 => h9) rfl (by decide +kernel) rfl rfl (Nat.le_of_ble_eq_true rfl) dX5_begins_96 (fun H locs hP hD hS => ?_)
              have hP : va_P (xD G) vwCl [oModel mA ma cols (nI n) pac opac rpac alike 0 (-1) (-1) (mV z0) (nI (mH z0)) fresh bup bsum, xI G (ma 21) 16 (fl (mP z0) (-1) 16), xI G (ma 22) 16 (fl (mL z0) 0 16), xZ G (ma 23) 16 (fl (mT z0) 0 16), xI G (ma 24) 16 (fl (mN z0) 0 16), xI G (ma 25) 16 (mX z0), xZ G (ma 26) 16 (fl (mB z0) 0 16), xI G (ma 27) 16 (fl (mD z0) (-1) 16), xZ G (ma 28) 16 (mW z0), xI G (ma 29) 16 (fl (mR z0) (-1) 16), xI G (ma 30) 80 (fl (mS z0) 0 80)] H := hP
              have hD : va_D A [oModel mA ma cols (nI n) pac opac rpac alike 0 (-1) (-1) (mV z0) (nI (mH z0)) fresh bup bsum, xI G (ma 21) 16 (fl (mP z0) (-1) 16), xI G (ma 22) 16 (fl (mL z0) 0 16), xZ G (ma 23) 16 (fl (mT z0) 0 16), xI G (ma 24) 16 (fl (mN z0) 0 16), xI G (ma 25) 16 (mX z0), xZ G (ma 26) 16 (fl (mB z0) 0 16), xI G (ma 27) 16 (fl (mD z0) (-1) 16), xZ G (ma 28) 16 (mW z0), xI G (ma 29) 16 (fl (mR z0) (-1) 16), xI G (ma 30) 80 (fl (mS z0) 0 80)] := hD
              exact hq H locs 99 ls dX5_begins_99 (by skip; exact hP) (by skip; exact hD) hS
            · skip
              refine lv_aload_n hx hb dX5_begins_71 rfl (lv_at hl 1 rfl) ?_
              refine va_get (D := xD G) (ci := 5) (v := .ref (ma 30)) (C := RX5) (T := TX5) (N := 42) hx hb hts inX5 hown hK hP 0 rfl rfl 30 (by decide) kl93 (fun _ h9 => h9) rfl dX5_begins_72 ?_
              refine lv_iload_n hx hb dX5_begins_75 rfl (lv_at hl 0 rfl) ?_
              refine lv_iconst (v := 0) hx hb dX5_begins_76 (by decide) ?_
              refine x_iast (i := i) hx hb hK hP hD hS 10 rfl (by first | omega | assumption) (by omega) dX5_begins_77 (fun H locs hP hD hS => ?_)
              have hP : va_P (xD G) vwCl [oModel mA ma cols (nI n) pac opac rpac alike (nI (mK z0)) (mE z0) (mM z0) (mV z0) (nI (mH z0)) fresh bup bsum, xI G (ma 21) 16 (fl (mP z0) (-1) 16), xI G (ma 22) 16 (fl (mL z0) 0 16), xZ G (ma 23) 16 (fl (mT z0) 0 16), xI G (ma 24) 16 (fl (mN z0) 0 16), xI G (ma 25) 16 (mX z0), xZ G (ma 26) 16 (fl (mB z0) 0 16), xI G (ma 27) 16 (fl (mD z0) (-1) 16), xZ G (ma 28) 16 (mW z0), xI G (ma 29) 16 (fl (mR z0) (-1) 16), xI G (ma 30) 80 (upd g i 0)] H := hP
              have hD : va_D A [oModel mA ma cols (nI n) pac opac rpac alike (nI (mK z0)) (mE z0) (mM z0) (mV z0) (nI (mH z0)) fresh bup bsum, xI G (ma 21) 16 (fl (mP z0) (-1) 16), xI G (ma 22) 16 (fl (mL z0) 0 16), xZ G (ma 23) 16 (fl (mT z0) 0 16), xI G (ma 24) 16 (fl (mN z0) 0 16), xI G (ma 25) 16 (mX z0), xZ G (ma 26) 16 (fl (mB z0) 0 16), xI G (ma 27) 16 (fl (mD z0) (-1) 16), xZ G (ma 28) 16 (mW z0), xI G (ma 29) 16 (fl (mR z0) (-1) 16), xI G (ma 30) 80 (upd g i 0)] := hD
              refine lv_iinc (v := nI (i + 1)) (lv' := [(1, .int (nI (i + 1))), (0, .ref mA)]) hx hb dX5_begins_78 hl (k := 0) rfl (by exact nI_add i 1) (by decide) rfl (fun ls hl => ?_)
              refine lv_goto (tgt := 65) hx hb dX5_begins_81 (by decide) ?_
              exact ih65 (i + 1) (upd g i 0) (by omega) (by omega) (by rw [eg]; exact fl_s _ _ _) H locs hP hD hS ls (lv_sub hl [0, 1] rfl)
        exact L65 (80 + 1) 0 (mS z0) (by omega) (by omega) ((fl_0 _ _).symm) H locs hP hD hS ls (lv_sub hl [0, 1] rfl)
      · skip
        refine lv_aload_n hx hb dX5_begins_8 rfl (lv_at hl 1 rfl) ?_
        refine va_get (D := xD G) (ci := 5) (v := .ref (ma 21)) (C := RX5) (T := TX5) (N := 42) hx hb hts inX5 hown hK hP 0 rfl rfl 21 (by decide) kl66 (fun _ h9 => h9) rfl dX5_begins_9 ?_
        refine lv_iload_n hx hb dX5_begins_12 rfl (lv_at hl 0 rfl) ?_
        refine lv_iconst (v := (-1)) hx hb dX5_begins_13 (by decide) ?_
        refine x_iast (i := i) hx hb hK hP hD hS 1 rfl (by first | omega | assumption) (by omega) dX5_begins_14 (fun H locs hP hD hS => ?_)
        have hP : va_P (xD G) vwCl [oModel mA ma cols (nI n) pac opac rpac alike (nI (mK z0)) (mE z0) (mM z0) (mV z0) (nI (mH z0)) fresh bup bsum, xI G (ma 21) 16 (upd f0 i (-1)), xI G (ma 22) 16 f1, xZ G (ma 23) 16 f2, xI G (ma 24) 16 f3, xI G (ma 25) 16 (mX z0), xZ G (ma 26) 16 f4, xI G (ma 27) 16 f5, xZ G (ma 28) 16 (mW z0), xI G (ma 29) 16 f6, xI G (ma 30) 80 (mS z0)] H := hP
        have hD : va_D A [oModel mA ma cols (nI n) pac opac rpac alike (nI (mK z0)) (mE z0) (mM z0) (mV z0) (nI (mH z0)) fresh bup bsum, xI G (ma 21) 16 (upd f0 i (-1)), xI G (ma 22) 16 f1, xZ G (ma 23) 16 f2, xI G (ma 24) 16 f3, xI G (ma 25) 16 (mX z0), xZ G (ma 26) 16 f4, xI G (ma 27) 16 f5, xZ G (ma 28) 16 (mW z0), xI G (ma 29) 16 f6, xI G (ma 30) 80 (mS z0)] := hD
        refine lv_aload_n hx hb dX5_begins_15 rfl (lv_at hl 1 rfl) ?_
        refine va_get (D := xD G) (ci := 5) (v := .ref (ma 22)) (C := RX5) (T := TX5) (N := 42) hx hb hts inX5 hown hK hP 0 rfl rfl 22 (by decide) kl69 (fun _ h9 => h9) rfl dX5_begins_16 ?_
        refine lv_iload_n hx hb dX5_begins_19 rfl (lv_at hl 0 rfl) ?_
        refine lv_iconst (v := 0) hx hb dX5_begins_20 (by decide) ?_
        refine x_iast (i := i) hx hb hK hP hD hS 2 rfl (by first | omega | assumption) (by omega) dX5_begins_21 (fun H locs hP hD hS => ?_)
        have hP : va_P (xD G) vwCl [oModel mA ma cols (nI n) pac opac rpac alike (nI (mK z0)) (mE z0) (mM z0) (mV z0) (nI (mH z0)) fresh bup bsum, xI G (ma 21) 16 (upd f0 i (-1)), xI G (ma 22) 16 (upd f1 i 0), xZ G (ma 23) 16 f2, xI G (ma 24) 16 f3, xI G (ma 25) 16 (mX z0), xZ G (ma 26) 16 f4, xI G (ma 27) 16 f5, xZ G (ma 28) 16 (mW z0), xI G (ma 29) 16 f6, xI G (ma 30) 80 (mS z0)] H := hP
        have hD : va_D A [oModel mA ma cols (nI n) pac opac rpac alike (nI (mK z0)) (mE z0) (mM z0) (mV z0) (nI (mH z0)) fresh bup bsum, xI G (ma 21) 16 (upd f0 i (-1)), xI G (ma 22) 16 (upd f1 i 0), xZ G (ma 23) 16 f2, xI G (ma 24) 16 f3, xI G (ma 25) 16 (mX z0), xZ G (ma 26) 16 f4, xI G (ma 27) 16 f5, xZ G (ma 28) 16 (mW z0), xI G (ma 29) 16 f6, xI G (ma 30) 80 (mS z0)] := hD
        refine lv_aload_n hx hb dX5_begins_22 rfl (lv_at hl 1 rfl) ?_
        refine va_get (D := xD G) (ci := 5) (v := .ref (ma 23)) (C := RX5) (T := TX5) (N := 42) hx hb hts inX5 hown hK hP 0 rfl rfl 23 (by decide) kl72 (fun _ h9 => h9) rfl dX5_begins_23 ?_
        refine lv_iload_n hx hb dX5_begins_26 rfl (lv_at hl 0 rfl) ?_
        refine lv_iconst (v := 0) hx hb dX5_begins_27 (by decide) ?_
        refine x_zast (i := i) hx hb hK hP hD hS 3 rfl (by first | omega | assumption) (by omega) rfl dX5_begins_28 (fun H locs hP hD hS => ?_)
        have hP : va_P (xD G) vwCl [oModel mA ma cols (nI n) pac opac rpac alike (nI (mK z0)) (mE z0) (mM z0) (mV z0) (nI (mH z0)) fresh bup bsum, xI G (ma 21) 16 (upd f0 i (-1)), xI G (ma 22) 16 (upd f1 i 0), xZ G (ma 23) 16 (upd f2 i 0), xI G (ma 24) 16 f3, xI G (ma 25) 16 (mX z0), xZ G (ma 26) 16 f4, xI G (ma 27) 16 f5, xZ G (ma 28) 16 (mW z0), xI G (ma 29) 16 f6, xI G (ma 30) 80 (mS z0)] H := hP
        have hD : va_D A [oModel mA ma cols (nI n) pac opac rpac alike (nI (mK z0)) (mE z0) (mM z0) (mV z0) (nI (mH z0)) fresh bup bsum, xI G (ma 21) 16 (upd f0 i (-1)), xI G (ma 22) 16 (upd f1 i 0), xZ G (ma 23) 16 (upd f2 i 0), xI G (ma 24) 16 f3, xI G (ma 25) 16 (mX z0), xZ G (ma 26) 16 f4, xI G (ma 27) 16 f5, xZ G (ma 28) 16 (mW z0), xI G (ma 29) 16 f6, xI G (ma 30) 80 (mS z0)] := hD
        refine lv_aload_n hx hb dX5_begins_29 rfl (lv_at hl 1 rfl) ?_
        refine va_get (D := xD G) (ci := 5) (v := .ref (ma 24)) (C := RX5) (T := TX5) (N := 42) hx hb hts inX5 hown hK hP 0 rfl rfl 24 (by decide) kl75 (fun _ h9 => h9) rfl dX5_begins_30 ?_
        refine lv_iload_n hx hb dX5_begins_33 rfl (lv_at hl 0 rfl) ?_
        refine lv_iconst (v := 0) hx hb dX5_begins_34 (by decide) ?_
        refine x_iast (i := i) hx hb hK hP hD hS 4 rfl (by first | omega | assumption) (by omega) dX5_begins_35 (fun H locs hP hD hS => ?_)
        have hP : va_P (xD G) vwCl [oModel mA ma cols (nI n) pac opac rpac alike (nI (mK z0)) (mE z0) (mM z0) (mV z0) (nI (mH z0)) fresh bup bsum, xI G (ma 21) 16 (upd f0 i (-1)), xI G (ma 22) 16 (upd f1 i 0), xZ G (ma 23) 16 (upd f2 i 0), xI G (ma 24) 16 (upd f3 i 0), xI G (ma 25) 16 (mX z0), xZ G (ma 26) 16 f4, xI G (ma 27) 16 f5, xZ G (ma 28) 16 (mW z0), xI G (ma 29) 16 f6, xI G (ma 30) 80 (mS z0)] H := hP
        have hD : va_D A [oModel mA ma cols (nI n) pac opac rpac alike (nI (mK z0)) (mE z0) (mM z0) (mV z0) (nI (mH z0)) fresh bup bsum, xI G (ma 21) 16 (upd f0 i (-1)), xI G (ma 22) 16 (upd f1 i 0), xZ G (ma 23) 16 (upd f2 i 0), xI G (ma 24) 16 (upd f3 i 0), xI G (ma 25) 16 (mX z0), xZ G (ma 26) 16 f4, xI G (ma 27) 16 f5, xZ G (ma 28) 16 (mW z0), xI G (ma 29) 16 f6, xI G (ma 30) 80 (mS z0)] := hD
        refine lv_aload_n hx hb dX5_begins_36 rfl (lv_at hl 1 rfl) ?_
        refine va_get (D := xD G) (ci := 5) (v := .ref (ma 26)) (C := RX5) (T := TX5) (N := 42) hx hb hts inX5 hown hK hP 0 rfl rfl 26 (by decide) kl81 (fun _ h9 => h9) rfl dX5_begins_37 ?_
        refine lv_iload_n hx hb dX5_begins_40 rfl (lv_at hl 0 rfl) ?_
        refine lv_iconst (v := 0) hx hb dX5_begins_41 (by decide) ?_
        refine x_zast (i := i) hx hb hK hP hD hS 6 rfl (by first | omega | assumption) (by omega) rfl dX5_begins_42 (fun H locs hP hD hS => ?_)
        have hP : va_P (xD G) vwCl [oModel mA ma cols (nI n) pac opac rpac alike (nI (mK z0)) (mE z0) (mM z0) (mV z0) (nI (mH z0)) fresh bup bsum, xI G (ma 21) 16 (upd f0 i (-1)), xI G (ma 22) 16 (upd f1 i 0), xZ G (ma 23) 16 (upd f2 i 0), xI G (ma 24) 16 (upd f3 i 0), xI G (ma 25) 16 (mX z0), xZ G (ma 26) 16 (upd f4 i 0), xI G (ma 27) 16 f5, xZ G (ma 28) 16 (mW z0), xI G (ma 29) 16 f6, xI G (ma 30) 80 (mS z0)] H := hP
        have hD : va_D A [oModel mA ma cols (nI n) pac opac rpac alike (nI (mK z0)) (mE z0) (mM z0) (mV z0) (nI (mH z0)) fresh bup bsum, xI G (ma 21) 16 (upd f0 i (-1)), xI G (ma 22) 16 (upd f1 i 0), xZ G (ma 23) 16 (upd f2 i 0), xI G (ma 24) 16 (upd f3 i 0), xI G (ma 25) 16 (mX z0), xZ G (ma 26) 16 (upd f4 i 0), xI G (ma 27) 16 f5, xZ G (ma 28) 16 (mW z0), xI G (ma 29) 16 f6, xI G (ma 30) 80 (mS z0)] := hD
        refine lv_aload_n hx hb dX5_begins_43 rfl (lv_at hl 1 rfl) ?_
        refine va_get (D := xD G) (ci := 5) (v := .ref (ma 27)) (C := RX5) (T := TX5) (N := 42) hx hb hts inX5 hown hK hP 0 rfl rfl 27 (by decide) kl84 (fun _ h9 => h9) rfl dX5_begins_44 ?_
        refine lv_iload_n hx hb dX5_begins_47 rfl (lv_at hl 0 rfl) ?_
        refine lv_iconst (v := (-1)) hx hb dX5_begins_48 (by decide) ?_
        refine x_iast (i := i) hx hb hK hP hD hS 7 rfl (by first | omega | assumption) (by omega) dX5_begins_49 (fun H locs hP hD hS => ?_)
        have hP : va_P (xD G) vwCl [oModel mA ma cols (nI n) pac opac rpac alike (nI (mK z0)) (mE z0) (mM z0) (mV z0) (nI (mH z0)) fresh bup bsum, xI G (ma 21) 16 (upd f0 i (-1)), xI G (ma 22) 16 (upd f1 i 0), xZ G (ma 23) 16 (upd f2 i 0), xI G (ma 24) 16 (upd f3 i 0), xI G (ma 25) 16 (mX z0), xZ G (ma 26) 16 (upd f4 i 0), xI G (ma 27) 16 (upd f5 i (-1)), xZ G (ma 28) 16 (mW z0), xI G (ma 29) 16 f6, xI G (ma 30) 80 (mS z0)] H := hP
        have hD : va_D A [oModel mA ma cols (nI n) pac opac rpac alike (nI (mK z0)) (mE z0) (mM z0) (mV z0) (nI (mH z0)) fresh bup bsum, xI G (ma 21) 16 (upd f0 i (-1)), xI G (ma 22) 16 (upd f1 i 0), xZ G (ma 23) 16 (upd f2 i 0), xI G (ma 24) 16 (upd f3 i 0), xI G (ma 25) 16 (mX z0), xZ G (ma 26) 16 (upd f4 i 0), xI G (ma 27) 16 (upd f5 i (-1)), xZ G (ma 28) 16 (mW z0), xI G (ma 29) 16 f6, xI G (ma 30) 80 (mS z0)] := hD
        refine lv_aload_n hx hb dX5_begins_50 rfl (lv_at hl 1 rfl) ?_
        refine va_get (D := xD G) (ci := 5) (v := .ref (ma 29)) (C := RX5) (T := TX5) (N := 42) hx hb hts inX5 hown hK hP 0 rfl rfl 29 (by decide) kl90 (fun _ h9 => h9) rfl dX5_begins_51 ?_
        refine lv_iload_n hx hb dX5_begins_54 rfl (lv_at hl 0 rfl) ?_
        refine lv_iconst (v := (-1)) hx hb dX5_begins_55 (by decide) ?_
        refine x_iast (i := i) hx hb hK hP hD hS 9 rfl (by first | omega | assumption) (by omega) dX5_begins_56 (fun H locs hP hD hS => ?_)
        have hP : va_P (xD G) vwCl [oModel mA ma cols (nI n) pac opac rpac alike (nI (mK z0)) (mE z0) (mM z0) (mV z0) (nI (mH z0)) fresh bup bsum, xI G (ma 21) 16 (upd f0 i (-1)), xI G (ma 22) 16 (upd f1 i 0), xZ G (ma 23) 16 (upd f2 i 0), xI G (ma 24) 16 (upd f3 i 0), xI G (ma 25) 16 (mX z0), xZ G (ma 26) 16 (upd f4 i 0), xI G (ma 27) 16 (upd f5 i (-1)), xZ G (ma 28) 16 (mW z0), xI G (ma 29) 16 (upd f6 i (-1)), xI G (ma 30) 80 (mS z0)] H := hP
        have hD : va_D A [oModel mA ma cols (nI n) pac opac rpac alike (nI (mK z0)) (mE z0) (mM z0) (mV z0) (nI (mH z0)) fresh bup bsum, xI G (ma 21) 16 (upd f0 i (-1)), xI G (ma 22) 16 (upd f1 i 0), xZ G (ma 23) 16 (upd f2 i 0), xI G (ma 24) 16 (upd f3 i 0), xI G (ma 25) 16 (mX z0), xZ G (ma 26) 16 (upd f4 i 0), xI G (ma 27) 16 (upd f5 i (-1)), xZ G (ma 28) 16 (mW z0), xI G (ma 29) 16 (upd f6 i (-1)), xI G (ma 30) 80 (mS z0)] := hD
        refine lv_iinc (v := nI (i + 1)) (lv' := [(1, .int (nI (i + 1))), (0, .ref mA)]) hx hb dX5_begins_57 hl (k := 0) rfl (by exact nI_add i 1) (by decide) rfl (fun ls hl => ?_)
        refine lv_goto (tgt := 2) hx hb dX5_begins_60 (by decide) ?_
        exact ih2 (i + 1) (upd f0 i (-1)) (upd f1 i 0) (upd f2 i 0) (upd f3 i 0) (upd f4 i 0) (upd f5 i (-1)) (upd f6 i (-1)) (by omega) (by omega) (by rw [e0]; exact fl_s _ _ _) (by rw [e1]; exact fl_s _ _ _) (by rw [e2]; exact fl_s _ _ _) (by rw [e3]; exact fl_s _ _ _) (by rw [e4]; exact fl_s _ _ _) (by rw [e5]; exact fl_s _ _ _) (by rw [e6]; exact fl_s _ _ _) H locs hP hD hS ls (lv_sub hl [0, 1] rfl)
  exact L2 (16 + 1) 0 (mP z0) (mL z0) (mT z0) (mN z0) (mB z0) (mD z0) (mR z0) (by omega) (by omega) ((fl_0 _ _).symm) ((fl_0 _ _).symm) ((fl_0 _ _).symm) ((fl_0 _ _).symm) ((fl_0 _ _).symm) ((fl_0 _ _).symm) ((fl_0 _ _).symm) H locs hP hD hS ls (lv_sub hl [0, 1] rfl)
set_option maxHeartbeats 4000000 in
set_option maxRecDepth 100000 in
theorem mX5_through (l : Launch) (G : xG) (mA : Nat) (ma : Nat → Nat) (nc : Nat) (n : Nat) (pac : Int32) (opac : Int32) (rpac : Int32) (alike : Int32) (z0 : RS) (fresh : Int32) (bup : Int32) (bsum : Int32) (bfrom : Nat → Int32) (bto : Nat → Int32) (c : Nat) (k0 : Nat) (v : Int32)  (hc : c < 16) (hk : k0 < 4) : xM l yX5_through wsX5_through ({ frames := 0, cells := 0, slots := 0, locals := 0 } : Room) [.ref mA, .int (nI c), .int (nI k0), .int v] G [oModel mA ma (nI nc) (nI n) pac opac rpac alike (nI (mK z0)) (mE z0) (mM z0) (mV z0) (nI (mH z0)) fresh bup bsum, xI G (ma 21) 16 (mP z0), xI G (ma 22) 16 (mL z0), xZ G (ma 23) 16 (mT z0), xI G (ma 24) 16 (mN z0), xI G (ma 25) 16 (mX z0), xZ G (ma 26) 16 (mB z0), xI G (ma 27) 16 (mD z0), xZ G (ma 28) 16 (mW z0), xI G (ma 29) 16 (mR z0), xI G (ma 30) 80 (mS z0), xI G (ma 14) 16 bfrom, xI G (ma 15) 16 bto] [oModel mA ma (nI nc) (nI n) pac opac rpac alike (nI (mK (thM bfrom bto nc v z0 c k0))) (mE (thM bfrom bto nc v z0 c k0)) (mM (thM bfrom bto nc v z0 c k0)) (mV (thM bfrom bto nc v z0 c k0)) (nI (mH (thM bfrom bto nc v z0 c k0))) fresh bup bsum, xI G (ma 21) 16 (mP (thM bfrom bto nc v z0 c k0)), xI G (ma 22) 16 (mL (thM bfrom bto nc v z0 c k0)), xZ G (ma 23) 16 (mT (thM bfrom bto nc v z0 c k0)), xI G (ma 24) 16 (mN (thM bfrom bto nc v z0 c k0)), xI G (ma 25) 16 (mX (thM bfrom bto nc v z0 c k0)), xZ G (ma 26) 16 (mB (thM bfrom bto nc v z0 c k0)), xI G (ma 27) 16 (mD (thM bfrom bto nc v z0 c k0)), xZ G (ma 28) 16 (mW (thM bfrom bto nc v z0 c k0)), xI G (ma 29) 16 (mR (thM bfrom bto nc v z0 c k0)), xI G (ma 30) 80 (mS (thM bfrom bto nc v z0 c k0)), xI G (ma 14) 16 bfrom, xI G (ma 15) 16 bto] := by
  refine xM_of (cc := cX5_through) (maxL := 4) (by decide) rfl (Nat.le_of_ble_eq_true rfl) ?_
  intro p e s m below meth cO ls Q A hx hb hml hown hts hP hK hD hS hA hl hq
  have hown : s.vm.findClass RX5 = some m.cls := hown
  have kl87 := hts (.fieldLink RX5 87 "WorkBoardModel" "did" "[Z") (List.mem_of_getElem? (i := 1) rfl)
  have kl72 := hts (.fieldLink RX5 72 "WorkBoardModel" "isThrough" "[Z") (List.mem_of_getElem? (i := 2) rfl)
  have kl51 := hts (.fieldLink RX5 51 "WorkBoardModel" "backFrom" "[I") (List.mem_of_getElem? (i := 3) rfl)
  have kl81 := hts (.fieldLink RX5 81 "WorkBoardModel" "wasBack" "[Z") (List.mem_of_getElem? (i := 4) rfl)
  have kl75 := hts (.fieldLink RX5 75 "WorkBoardModel" "nextColumn" "[I") (List.mem_of_getElem? (i := 5) rfl)
  have kl54 := hts (.fieldLink RX5 54 "WorkBoardModel" "backTo" "[I") (List.mem_of_getElem? (i := 6) rfl)
  have kl7 := hts (.fieldLink RX5 7 "WorkBoardModel" "columns" "I") (List.mem_of_getElem? (i := 7) rfl)
  have kl66 := hts (.fieldLink RX5 66 "WorkBoardModel" "place" "[I") (List.mem_of_getElem? (i := 8) rfl)
  have kl84 := hts (.fieldLink RX5 84 "WorkBoardModel" "doneOn" "[I") (List.mem_of_getElem? (i := 9) rfl)
  have inX5 : ∀ w ∈ u_ws RX5 TX5 42, w ∈ wsX5_through := (fun w h => List.mem_cons_of_mem _ (List.mem_append_right _ h))
  have hl : lv_has ls 4 [(0, .ref mA), (1, .int (nI c)), (2, .int (nI k0)), (3, .int v)] := hl
  have hD : va_D A [oModel mA ma (nI nc) (nI n) pac opac rpac alike (nI (mK z0)) (mE z0) (mM z0) (mV z0) (nI (mH z0)) fresh bup bsum, xI G (ma 21) 16 (mP z0), xI G (ma 22) 16 (mL z0), xZ G (ma 23) 16 (mT z0), xI G (ma 24) 16 (mN z0), xI G (ma 25) 16 (mX z0), xZ G (ma 26) 16 (mB z0), xI G (ma 27) 16 (mD z0), xZ G (ma 28) 16 (mW z0), xI G (ma 29) 16 (mR z0), xI G (ma 30) 80 (mS z0), xI G (ma 14) 16 bfrom, xI G (ma 15) 16 bto] := hD
  obtain ⟨H, hH⟩ : ∃ z, z = s.heap := ⟨_, rfl⟩
  obtain ⟨locs, hlocs⟩ : ∃ z : List Loc, z = [] := ⟨_, rfl⟩
  have hS : va_S A s.heap H locs := by rw [hH, hlocs]; exact hS
  have hP : va_P (xD G) vwCl [oModel mA ma (nI nc) (nI n) pac opac rpac alike (nI (mK z0)) (mE z0) (mM z0) (mV z0) (nI (mH z0)) fresh bup bsum, xI G (ma 21) 16 (mP z0), xI G (ma 22) 16 (mL z0), xZ G (ma 23) 16 (mT z0), xI G (ma 24) 16 (mN z0), xI G (ma 25) 16 (mX z0), xZ G (ma 26) 16 (mB z0), xI G (ma 27) 16 (mD z0), xZ G (ma 28) 16 (mW z0), xI G (ma 29) 16 (mR z0), xI G (ma 30) 80 (mS z0), xI G (ma 14) 16 bfrom, xI G (ma 15) 16 bto] H := by rw [hH]; exact hP
  rw [← hH, ← hlocs]
  clear hH hlocs
  refine lv_aload_n hx hb dX5_through_0 rfl (lv_at hl 0 rfl) ?_
  refine va_get (D := xD G) (ci := 5) (v := .ref (ma 28)) (C := RX5) (T := TX5) (N := 42) hx hb hts inX5 hown hK hP 0 rfl rfl 28 (by decide) kl87 (fun _ h9 => h9) rfl dX5_through_1 ?_
  refine lv_iload_n hx hb dX5_through_4 rfl (lv_at hl 1 rfl) ?_
  refine lv_iconst (v := 1) hx hb dX5_through_5 (by decide) ?_
  refine x_zast (i := c) hx hb hK hP hD hS 8 rfl (by first | omega | assumption) (by omega) rfl dX5_through_6 (fun H locs hP hD hS => ?_)
  have hP : va_P (xD G) vwCl [oModel mA ma (nI nc) (nI n) pac opac rpac alike (nI (mK z0)) (mE z0) (mM z0) (mV z0) (nI (mH z0)) fresh bup bsum, xI G (ma 21) 16 (mP z0), xI G (ma 22) 16 (mL z0), xZ G (ma 23) 16 (mT z0), xI G (ma 24) 16 (mN z0), xI G (ma 25) 16 (mX z0), xZ G (ma 26) 16 (mB z0), xI G (ma 27) 16 (mD z0), xZ G (ma 28) 16 (upd (mW z0) c 1), xI G (ma 29) 16 (mR z0), xI G (ma 30) 80 (mS z0), xI G (ma 14) 16 bfrom, xI G (ma 15) 16 bto] H := hP
  have hD : va_D A [oModel mA ma (nI nc) (nI n) pac opac rpac alike (nI (mK z0)) (mE z0) (mM z0) (mV z0) (nI (mH z0)) fresh bup bsum, xI G (ma 21) 16 (mP z0), xI G (ma 22) 16 (mL z0), xZ G (ma 23) 16 (mT z0), xI G (ma 24) 16 (mN z0), xI G (ma 25) 16 (mX z0), xZ G (ma 26) 16 (mB z0), xI G (ma 27) 16 (mD z0), xZ G (ma 28) 16 (upd (mW z0) c 1), xI G (ma 29) 16 (mR z0), xI G (ma 30) 80 (mS z0), xI G (ma 14) 16 bfrom, xI G (ma 15) 16 bto] := hD
  refine lv_aload_n hx hb dX5_through_7 rfl (lv_at hl 0 rfl) ?_
  refine va_get (D := xD G) (ci := 5) (v := .ref (ma 23)) (C := RX5) (T := TX5) (N := 42) hx hb hts inX5 hown hK hP 0 rfl rfl 23 (by decide) kl72 (fun _ h9 => h9) rfl dX5_through_8 ?_
  refine lv_iload_n hx hb dX5_through_11 rfl (lv_at hl 1 rfl) ?_
  refine lv_iconst (v := 1) hx hb dX5_through_12 (by decide) ?_
  refine x_zast (i := c) hx hb hK hP hD hS 3 rfl (by first | omega | assumption) (by omega) rfl dX5_through_13 (fun H locs hP hD hS => ?_)
  have hP : va_P (xD G) vwCl [oModel mA ma (nI nc) (nI n) pac opac rpac alike (nI (mK z0)) (mE z0) (mM z0) (mV z0) (nI (mH z0)) fresh bup bsum, xI G (ma 21) 16 (mP z0), xI G (ma 22) 16 (mL z0), xZ G (ma 23) 16 (upd (mT z0) c 1), xI G (ma 24) 16 (mN z0), xI G (ma 25) 16 (mX z0), xZ G (ma 26) 16 (mB z0), xI G (ma 27) 16 (mD z0), xZ G (ma 28) 16 (upd (mW z0) c 1), xI G (ma 29) 16 (mR z0), xI G (ma 30) 80 (mS z0), xI G (ma 14) 16 bfrom, xI G (ma 15) 16 bto] H := hP
  have hD : va_D A [oModel mA ma (nI nc) (nI n) pac opac rpac alike (nI (mK z0)) (mE z0) (mM z0) (mV z0) (nI (mH z0)) fresh bup bsum, xI G (ma 21) 16 (mP z0), xI G (ma 22) 16 (mL z0), xZ G (ma 23) 16 (upd (mT z0) c 1), xI G (ma 24) 16 (mN z0), xI G (ma 25) 16 (mX z0), xZ G (ma 26) 16 (mB z0), xI G (ma 27) 16 (mD z0), xZ G (ma 28) 16 (upd (mW z0) c 1), xI G (ma 29) 16 (mR z0), xI G (ma 30) 80 (mS z0), xI G (ma 14) 16 bfrom, xI G (ma 15) 16 bto] := hD
  refine lv_aload_n hx hb dX5_through_14 rfl (lv_at hl 0 rfl) ?_
  refine va_get (D := xD G) (ci := 5) (v := .ref (ma 14)) (C := RX5) (T := TX5) (N := 42) hx hb hts inX5 hown hK hP 0 rfl rfl 14 (by decide) kl51 (fun _ h9 => h9) rfl dX5_through_15 ?_
  refine lv_iload_n hx hb dX5_through_18 rfl (lv_at hl 1 rfl) ?_
  refine x_iald (i := c) hx hb hK hP 11 rfl (by first | omega | assumption) (by omega) dX5_through_19 ?_
  refine lv_iload_n hx hb dX5_through_20 rfl (lv_at hl 2 rfl) ?_
  refine lv_icmp_ne (x := bfrom c) (y := nI k0) (tgt := 55) hx hb dX5_through_21 (by decide) (fun c21 => ?_) (fun c21 => ?_)
  · skip
    refine lv_iload_n hx hb dX5_through_55 rfl (lv_at hl 2 rfl) ?_
    refine lv_aload_n hx hb dX5_through_56 rfl (lv_at hl 0 rfl) ?_
    refine va_get (D := xD G) (ci := 5) (v := .int (nI nc)) (C := RX5) (T := TX5) (N := 42) hx hb hts inX5 hown hK hP 0 rfl rfl 0 (by decide) kl7 (fun _ h9 => h9) rfl dX5_through_57 ?_
    refine lv_iconst (v := 1) hx hb dX5_through_60 (by decide) ?_
    refine lv_isub hx hb dX5_through_61 ?_
    refine lv_icmp_ne (x := nI k0) (y := (nI nc) - 1) (tgt := 83) hx hb dX5_through_62 (by decide) (fun c62 => ?_) (fun c62 => ?_)
    · skip
      refine lv_aload_n hx hb dX5_through_83 rfl (lv_at hl 0 rfl) ?_
      refine va_get (D := xD G) (ci := 5) (v := .ref (ma 24)) (C := RX5) (T := TX5) (N := 42) hx hb hts inX5 hown hK hP 0 rfl rfl 24 (by decide) kl75 (fun _ h9 => h9) rfl dX5_through_84 ?_
      refine lv_iload_n hx hb dX5_through_87 rfl (lv_at hl 1 rfl) ?_
      refine lv_iload_n hx hb dX5_through_88 rfl (lv_at hl 2 rfl) ?_
      refine lv_iconst (v := 1) hx hb dX5_through_89 (by decide) ?_
      refine lv_iadd hx hb dX5_through_90 ?_
      refine x_top (y := nI (k0 + 1)) (nI_add k0 1) ?_
      refine x_iast (i := c) hx hb hK hP hD hS 4 rfl (by first | omega | assumption) (by omega) dX5_through_91 (fun H locs hP hD hS => ?_)
      have hP : va_P (xD G) vwCl [oModel mA ma (nI nc) (nI n) pac opac rpac alike (nI (mK z0)) (mE z0) (mM z0) (mV z0) (nI (mH z0)) fresh bup bsum, xI G (ma 21) 16 (mP z0), xI G (ma 22) 16 (mL z0), xZ G (ma 23) 16 (upd (mT z0) c 1), xI G (ma 24) 16 (upd (mN z0) c (nI (k0 + 1))), xI G (ma 25) 16 (mX z0), xZ G (ma 26) 16 (mB z0), xI G (ma 27) 16 (mD z0), xZ G (ma 28) 16 (upd (mW z0) c 1), xI G (ma 29) 16 (mR z0), xI G (ma 30) 80 (mS z0), xI G (ma 14) 16 bfrom, xI G (ma 15) 16 bto] H := hP
      have hD : va_D A [oModel mA ma (nI nc) (nI n) pac opac rpac alike (nI (mK z0)) (mE z0) (mM z0) (mV z0) (nI (mH z0)) fresh bup bsum, xI G (ma 21) 16 (mP z0), xI G (ma 22) 16 (mL z0), xZ G (ma 23) 16 (upd (mT z0) c 1), xI G (ma 24) 16 (upd (mN z0) c (nI (k0 + 1))), xI G (ma 25) 16 (mX z0), xZ G (ma 26) 16 (mB z0), xI G (ma 27) 16 (mD z0), xZ G (ma 28) 16 (upd (mW z0) c 1), xI G (ma 29) 16 (mR z0), xI G (ma 30) 80 (mS z0), xI G (ma 14) 16 bfrom, xI G (ma 15) 16 bto] := hD
      have eF : thM bfrom bto nc v z0 c k0 = (mP z0, mL z0, upd (mT z0) c 1, upd (mN z0) c (nI (k0 + 1)), mX z0, mB z0, mD z0, upd (mW z0) c 1, mR z0, mS z0, (mK z0), mE z0, mM z0, mV z0, (mH z0)) := (if_neg (fun h => c21 h.1)).trans (if_neg c62)
      rw [eF] at hq
      exact hq H locs 92 ls dX5_through_92 (by skip; exact hP) (by skip; exact hD) hS
    · skip
      refine lv_aload_n hx hb dX5_through_65 rfl (lv_at hl 0 rfl) ?_
      refine va_get (D := xD G) (ci := 5) (v := .ref (ma 21)) (C := RX5) (T := TX5) (N := 42) hx hb hts inX5 hown hK hP 0 rfl rfl 21 (by decide) kl66 (fun _ h9 => h9) rfl dX5_through_66 ?_
      refine lv_iload_n hx hb dX5_through_69 rfl (lv_at hl 1 rfl) ?_
      refine lv_bipush (v := 10) hx hb dX5_through_70 (by decide) ?_
      refine x_iast (i := c) hx hb hK hP hD hS 1 rfl (by first | omega | assumption) (by omega) dX5_through_72 (fun H locs hP hD hS => ?_)
      have hP : va_P (xD G) vwCl [oModel mA ma (nI nc) (nI n) pac opac rpac alike (nI (mK z0)) (mE z0) (mM z0) (mV z0) (nI (mH z0)) fresh bup bsum, xI G (ma 21) 16 (upd (mP z0) c 10), xI G (ma 22) 16 (mL z0), xZ G (ma 23) 16 (upd (mT z0) c 1), xI G (ma 24) 16 (mN z0), xI G (ma 25) 16 (mX z0), xZ G (ma 26) 16 (mB z0), xI G (ma 27) 16 (mD z0), xZ G (ma 28) 16 (upd (mW z0) c 1), xI G (ma 29) 16 (mR z0), xI G (ma 30) 80 (mS z0), xI G (ma 14) 16 bfrom, xI G (ma 15) 16 bto] H := hP
      have hD : va_D A [oModel mA ma (nI nc) (nI n) pac opac rpac alike (nI (mK z0)) (mE z0) (mM z0) (mV z0) (nI (mH z0)) fresh bup bsum, xI G (ma 21) 16 (upd (mP z0) c 10), xI G (ma 22) 16 (mL z0), xZ G (ma 23) 16 (upd (mT z0) c 1), xI G (ma 24) 16 (mN z0), xI G (ma 25) 16 (mX z0), xZ G (ma 26) 16 (mB z0), xI G (ma 27) 16 (mD z0), xZ G (ma 28) 16 (upd (mW z0) c 1), xI G (ma 29) 16 (mR z0), xI G (ma 30) 80 (mS z0), xI G (ma 14) 16 bfrom, xI G (ma 15) 16 bto] := hD
      refine lv_aload_n hx hb dX5_through_73 rfl (lv_at hl 0 rfl) ?_
      refine va_get (D := xD G) (ci := 5) (v := .ref (ma 27)) (C := RX5) (T := TX5) (N := 42) hx hb hts inX5 hown hK hP 0 rfl rfl 27 (by decide) kl84 (fun _ h9 => h9) rfl dX5_through_74 ?_
      refine lv_iload_n hx hb dX5_through_77 rfl (lv_at hl 1 rfl) ?_
      refine lv_iload_n hx hb dX5_through_78 rfl (lv_at hl 3 rfl) ?_
      refine x_iast (i := c) hx hb hK hP hD hS 7 rfl (by first | omega | assumption) (by omega) dX5_through_79 (fun H locs hP hD hS => ?_)
      have hP : va_P (xD G) vwCl [oModel mA ma (nI nc) (nI n) pac opac rpac alike (nI (mK z0)) (mE z0) (mM z0) (mV z0) (nI (mH z0)) fresh bup bsum, xI G (ma 21) 16 (upd (mP z0) c 10), xI G (ma 22) 16 (mL z0), xZ G (ma 23) 16 (upd (mT z0) c 1), xI G (ma 24) 16 (mN z0), xI G (ma 25) 16 (mX z0), xZ G (ma 26) 16 (mB z0), xI G (ma 27) 16 (upd (mD z0) c v), xZ G (ma 28) 16 (upd (mW z0) c 1), xI G (ma 29) 16 (mR z0), xI G (ma 30) 80 (mS z0), xI G (ma 14) 16 bfrom, xI G (ma 15) 16 bto] H := hP
      have hD : va_D A [oModel mA ma (nI nc) (nI n) pac opac rpac alike (nI (mK z0)) (mE z0) (mM z0) (mV z0) (nI (mH z0)) fresh bup bsum, xI G (ma 21) 16 (upd (mP z0) c 10), xI G (ma 22) 16 (mL z0), xZ G (ma 23) 16 (upd (mT z0) c 1), xI G (ma 24) 16 (mN z0), xI G (ma 25) 16 (mX z0), xZ G (ma 26) 16 (mB z0), xI G (ma 27) 16 (upd (mD z0) c v), xZ G (ma 28) 16 (upd (mW z0) c 1), xI G (ma 29) 16 (mR z0), xI G (ma 30) 80 (mS z0), xI G (ma 14) 16 bfrom, xI G (ma 15) 16 bto] := hD
      refine lv_goto (tgt := 92) hx hb dX5_through_80 (by decide) ?_
      have eF : thM bfrom bto nc v z0 c k0 = (upd (mP z0) c 10, mL z0, upd (mT z0) c 1, mN z0, mX z0, mB z0, upd (mD z0) c v, upd (mW z0) c 1, mR z0, mS z0, (mK z0), mE z0, mM z0, mV z0, (mH z0)) := (if_neg (fun h => c21 h.1)).trans (if_pos c62)
      rw [eF] at hq
      exact hq H locs 92 ls dX5_through_92 (by skip; exact hP) (by skip; exact hD) hS
  · skip
    refine lv_aload_n hx hb dX5_through_24 rfl (lv_at hl 0 rfl) ?_
    refine va_get (D := xD G) (ci := 5) (v := .ref (ma 26)) (C := RX5) (T := TX5) (N := 42) hx hb hts inX5 hown hK hP 0 rfl rfl 26 (by decide) kl81 (fun _ h9 => h9) rfl dX5_through_25 ?_
    refine lv_iload_n hx hb dX5_through_28 rfl (lv_at hl 1 rfl) ?_
    refine x_zald (i := c) hx hb hK hP 6 rfl (by first | omega | assumption) (by omega) dX5_through_29 ?_
    refine lv_if_ne (x := (mB z0) c) (tgt := 55) hx hb dX5_through_30 (by decide) (fun c30 => ?_) (fun c30 => ?_)
    · skip
      refine lv_iload_n hx hb dX5_through_55 rfl (lv_at hl 2 rfl) ?_
      refine lv_aload_n hx hb dX5_through_56 rfl (lv_at hl 0 rfl) ?_
      refine va_get (D := xD G) (ci := 5) (v := .int (nI nc)) (C := RX5) (T := TX5) (N := 42) hx hb hts inX5 hown hK hP 0 rfl rfl 0 (by decide) kl7 (fun _ h9 => h9) rfl dX5_through_57 ?_
      refine lv_iconst (v := 1) hx hb dX5_through_60 (by decide) ?_
      refine lv_isub hx hb dX5_through_61 ?_
      refine lv_icmp_ne (x := nI k0) (y := (nI nc) - 1) (tgt := 83) hx hb dX5_through_62 (by decide) (fun c62 => ?_) (fun c62 => ?_)
      · skip
        refine lv_aload_n hx hb dX5_through_83 rfl (lv_at hl 0 rfl) ?_
        refine va_get (D := xD G) (ci := 5) (v := .ref (ma 24)) (C := RX5) (T := TX5) (N := 42) hx hb hts inX5 hown hK hP 0 rfl rfl 24 (by decide) kl75 (fun _ h9 => h9) rfl dX5_through_84 ?_
        refine lv_iload_n hx hb dX5_through_87 rfl (lv_at hl 1 rfl) ?_
        refine lv_iload_n hx hb dX5_through_88 rfl (lv_at hl 2 rfl) ?_
        refine lv_iconst (v := 1) hx hb dX5_through_89 (by decide) ?_
        refine lv_iadd hx hb dX5_through_90 ?_
        refine x_top (y := nI (k0 + 1)) (nI_add k0 1) ?_
        refine x_iast (i := c) hx hb hK hP hD hS 4 rfl (by first | omega | assumption) (by omega) dX5_through_91 (fun H locs hP hD hS => ?_)
        have hP : va_P (xD G) vwCl [oModel mA ma (nI nc) (nI n) pac opac rpac alike (nI (mK z0)) (mE z0) (mM z0) (mV z0) (nI (mH z0)) fresh bup bsum, xI G (ma 21) 16 (mP z0), xI G (ma 22) 16 (mL z0), xZ G (ma 23) 16 (upd (mT z0) c 1), xI G (ma 24) 16 (upd (mN z0) c (nI (k0 + 1))), xI G (ma 25) 16 (mX z0), xZ G (ma 26) 16 (mB z0), xI G (ma 27) 16 (mD z0), xZ G (ma 28) 16 (upd (mW z0) c 1), xI G (ma 29) 16 (mR z0), xI G (ma 30) 80 (mS z0), xI G (ma 14) 16 bfrom, xI G (ma 15) 16 bto] H := hP
        have hD : va_D A [oModel mA ma (nI nc) (nI n) pac opac rpac alike (nI (mK z0)) (mE z0) (mM z0) (mV z0) (nI (mH z0)) fresh bup bsum, xI G (ma 21) 16 (mP z0), xI G (ma 22) 16 (mL z0), xZ G (ma 23) 16 (upd (mT z0) c 1), xI G (ma 24) 16 (upd (mN z0) c (nI (k0 + 1))), xI G (ma 25) 16 (mX z0), xZ G (ma 26) 16 (mB z0), xI G (ma 27) 16 (mD z0), xZ G (ma 28) 16 (upd (mW z0) c 1), xI G (ma 29) 16 (mR z0), xI G (ma 30) 80 (mS z0), xI G (ma 14) 16 bfrom, xI G (ma 15) 16 bto] := hD
        have eF : thM bfrom bto nc v z0 c k0 = (mP z0, mL z0, upd (mT z0) c 1, upd (mN z0) c (nI (k0 + 1)), mX z0, mB z0, mD z0, upd (mW z0) c 1, mR z0, mS z0, (mK z0), mE z0, mM z0, mV z0, (mH z0)) := (if_neg (fun h => c30 h.2)).trans (if_neg c62)
        rw [eF] at hq
        exact hq H locs 92 ls dX5_through_92 (by skip; exact hP) (by skip; exact hD) hS
      · skip
        refine lv_aload_n hx hb dX5_through_65 rfl (lv_at hl 0 rfl) ?_
        refine va_get (D := xD G) (ci := 5) (v := .ref (ma 21)) (C := RX5) (T := TX5) (N := 42) hx hb hts inX5 hown hK hP 0 rfl rfl 21 (by decide) kl66 (fun _ h9 => h9) rfl dX5_through_66 ?_
        refine lv_iload_n hx hb dX5_through_69 rfl (lv_at hl 1 rfl) ?_
        refine lv_bipush (v := 10) hx hb dX5_through_70 (by decide) ?_
        refine x_iast (i := c) hx hb hK hP hD hS 1 rfl (by first | omega | assumption) (by omega) dX5_through_72 (fun H locs hP hD hS => ?_)
        have hP : va_P (xD G) vwCl [oModel mA ma (nI nc) (nI n) pac opac rpac alike (nI (mK z0)) (mE z0) (mM z0) (mV z0) (nI (mH z0)) fresh bup bsum, xI G (ma 21) 16 (upd (mP z0) c 10), xI G (ma 22) 16 (mL z0), xZ G (ma 23) 16 (upd (mT z0) c 1), xI G (ma 24) 16 (mN z0), xI G (ma 25) 16 (mX z0), xZ G (ma 26) 16 (mB z0), xI G (ma 27) 16 (mD z0), xZ G (ma 28) 16 (upd (mW z0) c 1), xI G (ma 29) 16 (mR z0), xI G (ma 30) 80 (mS z0), xI G (ma 14) 16 bfrom, xI G (ma 15) 16 bto] H := hP
        have hD : va_D A [oModel mA ma (nI nc) (nI n) pac opac rpac alike (nI (mK z0)) (mE z0) (mM z0) (mV z0) (nI (mH z0)) fresh bup bsum, xI G (ma 21) 16 (upd (mP z0) c 10), xI G (ma 22) 16 (mL z0), xZ G (ma 23) 16 (upd (mT z0) c 1), xI G (ma 24) 16 (mN z0), xI G (ma 25) 16 (mX z0), xZ G (ma 26) 16 (mB z0), xI G (ma 27) 16 (mD z0), xZ G (ma 28) 16 (upd (mW z0) c 1), xI G (ma 29) 16 (mR z0), xI G (ma 30) 80 (mS z0), xI G (ma 14) 16 bfrom, xI G (ma 15) 16 bto] := hD
        refine lv_aload_n hx hb dX5_through_73 rfl (lv_at hl 0 rfl) ?_
        refine va_get (D := xD G) (ci := 5) (v := .ref (ma 27)) (C := RX5) (T := TX5) (N := 42) hx hb hts inX5 hown hK hP 0 rfl rfl 27 (by decide) kl84 (fun _ h9 => h9) rfl dX5_through_74 ?_
        refine lv_iload_n hx hb dX5_through_77 rfl (lv_at hl 1 rfl) ?_
        refine lv_iload_n hx hb dX5_through_78 rfl (lv_at hl 3 rfl) ?_
        refine x_iast (i := c) hx hb hK hP hD hS 7 rfl (by first | omega | assumption) (by omega) dX5_through_79 (fun H locs hP hD hS => ?_)
        have hP : va_P (xD G) vwCl [oModel mA ma (nI nc) (nI n) pac opac rpac alike (nI (mK z0)) (mE z0) (mM z0) (mV z0) (nI (mH z0)) fresh bup bsum, xI G (ma 21) 16 (upd (mP z0) c 10), xI G (ma 22) 16 (mL z0), xZ G (ma 23) 16 (upd (mT z0) c 1), xI G (ma 24) 16 (mN z0), xI G (ma 25) 16 (mX z0), xZ G (ma 26) 16 (mB z0), xI G (ma 27) 16 (upd (mD z0) c v), xZ G (ma 28) 16 (upd (mW z0) c 1), xI G (ma 29) 16 (mR z0), xI G (ma 30) 80 (mS z0), xI G (ma 14) 16 bfrom, xI G (ma 15) 16 bto] H := hP
        have hD : va_D A [oModel mA ma (nI nc) (nI n) pac opac rpac alike (nI (mK z0)) (mE z0) (mM z0) (mV z0) (nI (mH z0)) fresh bup bsum, xI G (ma 21) 16 (upd (mP z0) c 10), xI G (ma 22) 16 (mL z0), xZ G (ma 23) 16 (upd (mT z0) c 1), xI G (ma 24) 16 (mN z0), xI G (ma 25) 16 (mX z0), xZ G (ma 26) 16 (mB z0), xI G (ma 27) 16 (upd (mD z0) c v), xZ G (ma 28) 16 (upd (mW z0) c 1), xI G (ma 29) 16 (mR z0), xI G (ma 30) 80 (mS z0), xI G (ma 14) 16 bfrom, xI G (ma 15) 16 bto] := hD
        refine lv_goto (tgt := 92) hx hb dX5_through_80 (by decide) ?_
        have eF : thM bfrom bto nc v z0 c k0 = (upd (mP z0) c 10, mL z0, upd (mT z0) c 1, mN z0, mX z0, mB z0, upd (mD z0) c v, upd (mW z0) c 1, mR z0, mS z0, (mK z0), mE z0, mM z0, mV z0, (mH z0)) := (if_neg (fun h => c30 h.2)).trans (if_pos c62)
        rw [eF] at hq
        exact hq H locs 92 ls dX5_through_92 (by skip; exact hP) (by skip; exact hD) hS
    · skip
      refine lv_aload_n hx hb dX5_through_33 rfl (lv_at hl 0 rfl) ?_
      refine va_get (D := xD G) (ci := 5) (v := .ref (ma 26)) (C := RX5) (T := TX5) (N := 42) hx hb hts inX5 hown hK hP 0 rfl rfl 26 (by decide) kl81 (fun _ h9 => h9) rfl dX5_through_34 ?_
      refine lv_iload_n hx hb dX5_through_37 rfl (lv_at hl 1 rfl) ?_
      refine lv_iconst (v := 1) hx hb dX5_through_38 (by decide) ?_
      refine x_zast (i := c) hx hb hK hP hD hS 6 rfl (by first | omega | assumption) (by omega) rfl dX5_through_39 (fun H locs hP hD hS => ?_)
      have hP : va_P (xD G) vwCl [oModel mA ma (nI nc) (nI n) pac opac rpac alike (nI (mK z0)) (mE z0) (mM z0) (mV z0) (nI (mH z0)) fresh bup bsum, xI G (ma 21) 16 (mP z0), xI G (ma 22) 16 (mL z0), xZ G (ma 23) 16 (upd (mT z0) c 1), xI G (ma 24) 16 (mN z0), xI G (ma 25) 16 (mX z0), xZ G (ma 26) 16 (upd (mB z0) c 1), xI G (ma 27) 16 (mD z0), xZ G (ma 28) 16 (upd (mW z0) c 1), xI G (ma 29) 16 (mR z0), xI G (ma 30) 80 (mS z0), xI G (ma 14) 16 bfrom, xI G (ma 15) 16 bto] H := hP
      have hD : va_D A [oModel mA ma (nI nc) (nI n) pac opac rpac alike (nI (mK z0)) (mE z0) (mM z0) (mV z0) (nI (mH z0)) fresh bup bsum, xI G (ma 21) 16 (mP z0), xI G (ma 22) 16 (mL z0), xZ G (ma 23) 16 (upd (mT z0) c 1), xI G (ma 24) 16 (mN z0), xI G (ma 25) 16 (mX z0), xZ G (ma 26) 16 (upd (mB z0) c 1), xI G (ma 27) 16 (mD z0), xZ G (ma 28) 16 (upd (mW z0) c 1), xI G (ma 29) 16 (mR z0), xI G (ma 30) 80 (mS z0), xI G (ma 14) 16 bfrom, xI G (ma 15) 16 bto] := hD
      refine lv_aload_n hx hb dX5_through_40 rfl (lv_at hl 0 rfl) ?_
      refine va_get (D := xD G) (ci := 5) (v := .ref (ma 24)) (C := RX5) (T := TX5) (N := 42) hx hb hts inX5 hown hK hP 0 rfl rfl 24 (by decide) kl75 (fun _ h9 => h9) rfl dX5_through_41 ?_
      refine lv_iload_n hx hb dX5_through_44 rfl (lv_at hl 1 rfl) ?_
      refine lv_aload_n hx hb dX5_through_45 rfl (lv_at hl 0 rfl) ?_
      refine va_get (D := xD G) (ci := 5) (v := .ref (ma 15)) (C := RX5) (T := TX5) (N := 42) hx hb hts inX5 hown hK hP 0 rfl rfl 15 (by decide) kl54 (fun _ h9 => h9) rfl dX5_through_46 ?_
      refine lv_iload_n hx hb dX5_through_49 rfl (lv_at hl 1 rfl) ?_
      refine x_iald (i := c) hx hb hK hP 12 rfl (by first | omega | assumption) (by omega) dX5_through_50 ?_
      refine x_iast (i := c) hx hb hK hP hD hS 4 rfl (by first | omega | assumption) (by omega) dX5_through_51 (fun H locs hP hD hS => ?_)
      have hP : va_P (xD G) vwCl [oModel mA ma (nI nc) (nI n) pac opac rpac alike (nI (mK z0)) (mE z0) (mM z0) (mV z0) (nI (mH z0)) fresh bup bsum, xI G (ma 21) 16 (mP z0), xI G (ma 22) 16 (mL z0), xZ G (ma 23) 16 (upd (mT z0) c 1), xI G (ma 24) 16 (upd (mN z0) c (bto c)), xI G (ma 25) 16 (mX z0), xZ G (ma 26) 16 (upd (mB z0) c 1), xI G (ma 27) 16 (mD z0), xZ G (ma 28) 16 (upd (mW z0) c 1), xI G (ma 29) 16 (mR z0), xI G (ma 30) 80 (mS z0), xI G (ma 14) 16 bfrom, xI G (ma 15) 16 bto] H := hP
      have hD : va_D A [oModel mA ma (nI nc) (nI n) pac opac rpac alike (nI (mK z0)) (mE z0) (mM z0) (mV z0) (nI (mH z0)) fresh bup bsum, xI G (ma 21) 16 (mP z0), xI G (ma 22) 16 (mL z0), xZ G (ma 23) 16 (upd (mT z0) c 1), xI G (ma 24) 16 (upd (mN z0) c (bto c)), xI G (ma 25) 16 (mX z0), xZ G (ma 26) 16 (upd (mB z0) c 1), xI G (ma 27) 16 (mD z0), xZ G (ma 28) 16 (upd (mW z0) c 1), xI G (ma 29) 16 (mR z0), xI G (ma 30) 80 (mS z0), xI G (ma 14) 16 bfrom, xI G (ma 15) 16 bto] := hD
      refine lv_goto (tgt := 92) hx hb dX5_through_52 (by decide) ?_
      have eF : thM bfrom bto nc v z0 c k0 = (mP z0, mL z0, upd (mT z0) c 1, upd (mN z0) c (bto c), mX z0, upd (mB z0) c 1, mD z0, upd (mW z0) c 1, mR z0, mS z0, (mK z0), mE z0, mM z0, mV z0, (mH z0)) := if_pos ⟨c21, c30⟩
      rw [eF] at hq
      exact hq H locs 92 ls dX5_through_92 (by skip; exact hP) (by skip; exact hD) hS
set_option maxHeartbeats 4000000 in
set_option maxRecDepth 100000 in
theorem mX5_pull (l : Launch) (G : xG) (mA : Nat) (ma : Nat → Nat) (cols : Int32) (n : Nat) (pac : Int32) (opac : Int32) (rpac : Int32) (alike : Int32) (z0 : RS) (fresh : Int32) (bup : Int32) (bsum : Int32) (cday : Nat → Int32) (urg : Nat → Int32) (szs : Nat → Int32) (waits : Nat → Int32) (rl : XF) (rn : XF) (k0 : Nat)  (hn : n ≤ 16) (hk : k0 < 4) (hw : ∀ t9, t9 < n → ¬ waits t9 < 0 → vp_in (waits t9) 16) : xM l yX5_pull wsX5_pull ({ frames := 3, cells := 0, slots := 0, locals := 68 } : Room) [.ref mA, .int (nI k0)] G [oModel mA ma cols (nI n) pac opac rpac alike (nI (mK z0)) (mE z0) (mM z0) (mV z0) (nI (mH z0)) fresh bup bsum, xI G (ma 21) 16 (mP z0), xI G (ma 22) 16 (mL z0), xZ G (ma 23) 16 (mT z0), xI G (ma 24) 16 (mN z0), xI G (ma 25) 16 (mX z0), xZ G (ma 26) 16 (mB z0), xI G (ma 27) 16 (mD z0), xZ G (ma 28) 16 (mW z0), xI G (ma 29) 16 (mR z0), xI G (ma 30) 80 (mS z0), xI G (ma 10) 16 cday, xZ G (ma 11) 16 urg, xI G (ma 12) 64 szs, xI G (ma 13) 16 waits, xI G (ma 16) 4 rl, xI G (ma 17) 4 rn] [oModel mA ma cols (nI n) pac opac rpac alike (nI (mK (puM cday urg szs waits rl rn n alike k0 17 z0))) (mE (puM cday urg szs waits rl rn n alike k0 17 z0)) (mM (puM cday urg szs waits rl rn n alike k0 17 z0)) (mV (puM cday urg szs waits rl rn n alike k0 17 z0)) (nI (mH (puM cday urg szs waits rl rn n alike k0 17 z0))) fresh bup bsum, xI G (ma 21) 16 (mP (puM cday urg szs waits rl rn n alike k0 17 z0)), xI G (ma 22) 16 (mL (puM cday urg szs waits rl rn n alike k0 17 z0)), xZ G (ma 23) 16 (mT (puM cday urg szs waits rl rn n alike k0 17 z0)), xI G (ma 24) 16 (mN (puM cday urg szs waits rl rn n alike k0 17 z0)), xI G (ma 25) 16 (mX (puM cday urg szs waits rl rn n alike k0 17 z0)), xZ G (ma 26) 16 (mB (puM cday urg szs waits rl rn n alike k0 17 z0)), xI G (ma 27) 16 (mD (puM cday urg szs waits rl rn n alike k0 17 z0)), xZ G (ma 28) 16 (mW (puM cday urg szs waits rl rn n alike k0 17 z0)), xI G (ma 29) 16 (mR (puM cday urg szs waits rl rn n alike k0 17 z0)), xI G (ma 30) 80 (mS (puM cday urg szs waits rl rn n alike k0 17 z0)), xI G (ma 10) 16 cday, xZ G (ma 11) 16 urg, xI G (ma 12) 64 szs, xI G (ma 13) 16 waits, xI G (ma 16) 4 rl, xI G (ma 17) 4 rn] := by
  refine xM_of (cc := cX5_pull) (maxL := 5) (by decide) rfl (Nat.le_of_ble_eq_true rfl) ?_
  intro p e s m below meth cO ls Q A hx hb hml hown hts hP hK hD hS hA hl hq
  have hown : s.vm.findClass RX5 = some m.cls := hown
  have kl105 := hts (.fieldLink RX5 105 "WorkBoardModel" "cards" "I") (List.mem_of_getElem? (i := 1) rfl)
  have kl66 := hts (.fieldLink RX5 66 "WorkBoardModel" "place" "[I") (List.mem_of_getElem? (i := 2) rfl)
  have kl69 := hts (.fieldLink RX5 69 "WorkBoardModel" "left" "[I") (List.mem_of_getElem? (i := 3) rfl)
  have kl45 := hts (.fieldLink RX5 45 "WorkBoardModel" "size" "[I") (List.mem_of_getElem? (i := 4) rfl)
  have kl72 := hts (.fieldLink RX5 72 "WorkBoardModel" "isThrough" "[Z") (List.mem_of_getElem? (i := 5) rfl)
  have kl78 := hts (.fieldLink RX5 78 "WorkBoardModel" "pulledAs" "[I") (List.mem_of_getElem? (i := 6) rfl)
  have kl137 := hts (.fieldLink RX5 137 "WorkBoardModel" "pulls" "I") (List.mem_of_getElem? (i := 7) rfl)
  have kl163 := hts (.fieldLink RX5 163 "WorkBoardModel" "moved" "Z") (List.mem_of_getElem? (i := 8) rfl)
  have inX5 : ∀ w ∈ u_ws RX5 TX5 42, w ∈ wsX5_pull := (fun w h => List.mem_cons_of_mem _ (List.mem_append_right _ h))
  have hl : lv_has ls 5 [(0, .ref mA), (1, .int (nI k0))] := hl
  have hD : va_D A [oModel mA ma cols (nI n) pac opac rpac alike (nI (mK z0)) (mE z0) (mM z0) (mV z0) (nI (mH z0)) fresh bup bsum, xI G (ma 21) 16 (mP z0), xI G (ma 22) 16 (mL z0), xZ G (ma 23) 16 (mT z0), xI G (ma 24) 16 (mN z0), xI G (ma 25) 16 (mX z0), xZ G (ma 26) 16 (mB z0), xI G (ma 27) 16 (mD z0), xZ G (ma 28) 16 (mW z0), xI G (ma 29) 16 (mR z0), xI G (ma 30) 80 (mS z0), xI G (ma 10) 16 cday, xZ G (ma 11) 16 urg, xI G (ma 12) 64 szs, xI G (ma 13) 16 waits, xI G (ma 16) 4 rl, xI G (ma 17) 4 rn] := hD
  obtain ⟨H, hH⟩ : ∃ z, z = s.heap := ⟨_, rfl⟩
  obtain ⟨locs, hlocs⟩ : ∃ z : List Loc, z = [] := ⟨_, rfl⟩
  have hS : va_S A s.heap H locs := by rw [hH, hlocs]; exact hS
  have hP : va_P (xD G) vwCl [oModel mA ma cols (nI n) pac opac rpac alike (nI (mK z0)) (mE z0) (mM z0) (mV z0) (nI (mH z0)) fresh bup bsum, xI G (ma 21) 16 (mP z0), xI G (ma 22) 16 (mL z0), xZ G (ma 23) 16 (mT z0), xI G (ma 24) 16 (mN z0), xI G (ma 25) 16 (mX z0), xZ G (ma 26) 16 (mB z0), xI G (ma 27) 16 (mD z0), xZ G (ma 28) 16 (mW z0), xI G (ma 29) 16 (mR z0), xI G (ma 30) 80 (mS z0), xI G (ma 10) 16 cday, xZ G (ma 11) 16 urg, xI G (ma 12) 64 szs, xI G (ma 13) 16 waits, xI G (ma 16) 4 rl, xI G (ma 17) 4 rn] H := by rw [hH]; exact hP
  rw [← hH, ← hlocs]
  clear hH hlocs
  refine lv_iconst (v := 1) hx hb dX5_pull_0 (by decide) ?_
  refine lv_istore_n (lv' := [(2, .int 1), (0, .ref mA), (1, .int (nI k0))]) hx hb dX5_pull_1 rfl hl (by decide) rfl (fun ls hl => ?_)
  have L2 : ∀ (kk2 : Nat) (z1 : RS), (puM cday urg szs waits rl rn n alike k0 kk2 z1 = puM cday urg szs waits rl rn n alike k0 17 z0) → (rdC waits n k0 z1 < kk2) → ∀ (H : Heap) (locs : List Loc), va_P (xD G) vwCl [oModel mA ma cols (nI n) pac opac rpac alike (nI (mK z1)) (mE z1) (mM z1) (mV z1) (nI (mH z1)) fresh bup bsum, xI G (ma 21) 16 (mP z1), xI G (ma 22) 16 (mL z1), xZ G (ma 23) 16 (mT z1), xI G (ma 24) 16 (mN z1), xI G (ma 25) 16 (mX z1), xZ G (ma 26) 16 (mB z1), xI G (ma 27) 16 (mD z1), xZ G (ma 28) 16 (mW z1), xI G (ma 29) 16 (mR z1), xI G (ma 30) 80 (mS z1), xI G (ma 10) 16 cday, xZ G (ma 11) 16 urg, xI G (ma 12) 64 szs, xI G (ma 13) 16 waits, xI G (ma 16) 4 rl, xI G (ma 17) 4 rn] H → va_D A [oModel mA ma cols (nI n) pac opac rpac alike (nI (mK z1)) (mE z1) (mM z1) (mV z1) (nI (mH z1)) fresh bup bsum, xI G (ma 21) 16 (mP z1), xI G (ma 22) 16 (mL z1), xZ G (ma 23) 16 (mT z1), xI G (ma 24) 16 (mN z1), xI G (ma 25) 16 (mX z1), xZ G (ma 26) 16 (mB z1), xI G (ma 27) 16 (mD z1), xZ G (ma 28) 16 (mW z1), xI G (ma 29) 16 (mR z1), xI G (ma 30) 80 (mS z1), xI G (ma 10) 16 cday, xZ G (ma 11) 16 urg, xI G (ma 12) 64 szs, xI G (ma 13) 16 waits, xI G (ma 16) 4 rl, xI G (ma 17) 4 rn] → va_S A s.heap H locs → ∀ (ls : Array Slot), lv_has ls 5 [(2, .int 1), (0, .ref mA), (1, .int (nI k0))] → W p l e ({ frames := 3, cells := 0, slots := 0, locals := 68 } : Room) s m #[Value.ref mA, Value.int (nI k0)] below meth cO H locs 0 0 Q (F0 m 2 ls []) := by
    intro kk2
    induction kk2 with
    | zero => intro z1 es hr; exact absurd hr (Nat.not_lt_zero _)
    | succ kk2 ih2 =>
      intro z1 es hr H locs hP hD hS ls hl
      refine lv_iload_n hx hb dX5_pull_2 rfl (lv_at hl 0 rfl) ?_
      refine lv_if_eq (x := 1) (tgt := 125) hx hb dX5_pull_3 (by decide) (fun c3 => ?_) (fun c3 => ?_)
      · skip
        exact absurd c3 (by decide)
      · skip
        refine lv_iconst (v := (-1)) hx hb dX5_pull_6 (by decide) ?_
        refine lv_istore_n (lv' := [(3, .int (-1)), (2, .int 1), (0, .ref mA), (1, .int (nI k0))]) hx hb dX5_pull_7 rfl hl (by decide) rfl (fun ls hl => ?_)
        refine lv_iconst (v := 0) hx hb dX5_pull_8 (by decide) ?_
        refine lv_istore (lv' := [(4, .int 0), (3, .int (-1)), (2, .int 1), (0, .ref mA), (1, .int (nI k0))]) hx hb dX5_pull_9 hl (by decide) rfl (fun ls hl => ?_)
        have L11 : ∀ (kk11 i : Nat) (x : Nat), i ≤ n → n + 1 ≤ i + kk11 → (x = slN (fun c => mgP urg waits rl rn n alike (mP z1) (mT z1) (mN z1) (mD z1) k0 c) (fun a b => ahP urg cday alike a b) i) → ∀ (H : Heap) (locs : List Loc), va_P (xD G) vwCl [oModel mA ma cols (nI n) pac opac rpac alike (nI (mK z1)) (mE z1) (mM z1) (mV z1) (nI (mH z1)) fresh bup bsum, xI G (ma 21) 16 (mP z1), xI G (ma 22) 16 (mL z1), xZ G (ma 23) 16 (mT z1), xI G (ma 24) 16 (mN z1), xI G (ma 25) 16 (mX z1), xZ G (ma 26) 16 (mB z1), xI G (ma 27) 16 (mD z1), xZ G (ma 28) 16 (mW z1), xI G (ma 29) 16 (mR z1), xI G (ma 30) 80 (mS z1), xI G (ma 10) 16 cday, xZ G (ma 11) 16 urg, xI G (ma 12) 64 szs, xI G (ma 13) 16 waits, xI G (ma 16) 4 rl, xI G (ma 17) 4 rn] H → va_D A [oModel mA ma cols (nI n) pac opac rpac alike (nI (mK z1)) (mE z1) (mM z1) (mV z1) (nI (mH z1)) fresh bup bsum, xI G (ma 21) 16 (mP z1), xI G (ma 22) 16 (mL z1), xZ G (ma 23) 16 (mT z1), xI G (ma 24) 16 (mN z1), xI G (ma 25) 16 (mX z1), xZ G (ma 26) 16 (mB z1), xI G (ma 27) 16 (mD z1), xZ G (ma 28) 16 (mW z1), xI G (ma 29) 16 (mR z1), xI G (ma 30) 80 (mS z1), xI G (ma 10) 16 cday, xZ G (ma 11) 16 urg, xI G (ma 12) 64 szs, xI G (ma 13) 16 waits, xI G (ma 16) 4 rl, xI G (ma 17) 4 rn] → va_S A s.heap H locs → ∀ (ls : Array Slot), lv_has ls 5 [(4, .int (nI i)), (3, .int (dn x)), (2, .int 1), (0, .ref mA), (1, .int (nI k0))] → W p l e ({ frames := 3, cells := 0, slots := 0, locals := 68 } : Room) s m #[Value.ref mA, Value.int (nI k0)] below meth cO H locs 0 0 Q (F0 m 11 ls []) := by
          intro kk11
          induction kk11 with
          | zero => intro i x h1 h2; exact absurd h2 (by omega)
          | succ kk11 ih11 =>
            intro i x hi11 hk11 ex H locs hP hD hS ls hl
            have hxi : x ≤ i := by rw [ex]; exact slN_le _ _ i
            refine lv_iload hx hb dX5_pull_11 (lv_at hl 0 rfl) ?_
            refine lv_aload_n hx hb dX5_pull_13 rfl (lv_at hl 3 rfl) ?_
            refine va_get (D := xD G) (ci := 5) (v := .int (nI n)) (C := RX5) (T := TX5) (N := 42) hx hb hts inX5 hown hK hP 0 rfl rfl 1 (by decide) kl105 (fun _ h9 => h9) rfl dX5_pull_14 ?_
            refine x_icmp_ge (x := i) (y := n) (tgt := 53) hx hb (by omega) (by omega) dX5_pull_17 (by decide) (fun c17 => ?_) (fun c17 => ?_)
            · skip
              have e9 : i = n := by omega
              rw [e9] at ex
              have ex : x = seL cday urg waits rl rn n alike k0 z1 := ex
              refine lv_iload_n hx hb dX5_pull_53 rfl (lv_at hl 1 rfl) ?_
              refine lv_if_lt (x := dn x) (tgt := 61) hx hb dX5_pull_54 (by decide) (fun c54 => ?_) (fun c54 => ?_)
              · skip
                have hx0 : x = 0 := (dn_neg (by omega)).mp c54
                have eF : puM cday urg szs waits rl rn n alike k0 17 z0 = z1 := by rw [← es]; exact if_pos (by rw [← ex]; exact hx0)
                rw [eF] at hq
                refine lv_iconst (v := 0) hx hb dX5_pull_61 (by decide) ?_
                refine lv_istore_n (lv' := [(2, .int 0), (4, .int (nI i)), (3, .int (dn x)), (0, .ref mA), (1, .int (nI k0))]) hx hb dX5_pull_62 rfl hl (by decide) rfl (fun ls hl => ?_)
                refine lv_iload_n hx hb dX5_pull_63 rfl (lv_at hl 0 rfl) ?_
                refine lv_if_eq (x := 0) (tgt := 122) hx hb dX5_pull_64 (by decide) (fun c64 => ?_) (fun c64 => ?_)
                · skip
                  refine lv_goto (tgt := 2) hx hb dX5_pull_122 (by decide) ?_
                  refine lv_iload_n hx hb dX5_pull_2 rfl (lv_at hl 0 rfl) ?_
                  refine lv_if_eq (x := 0) (tgt := 125) hx hb dX5_pull_3 (by decide) (fun c3 => ?_) (fun c3 => ?_)
                  · skip
                    exact hq H locs 125 ls dX5_pull_125 (by skip; exact hP) (by skip; exact hD) hS
                  · skip
                    exact absurd c3 (by decide)
                · skip
                  exact absurd c64 (by decide)
              · skip
                have hx0 : ¬ x = 0 := fun q => c54 ((dn_neg (by omega)).mpr q)
                obtain ⟨y, rfl⟩ : ∃ y, x = y + 1 := ⟨x - 1, by omega⟩
                have hl : lv_has ls 5 [(4, .int (nI i)), (3, .int (nI y)), (2, .int 1), (0, .ref mA), (1, .int (nI k0))] := hl
                have hmg := slN_P _ _ n y (show slN (fun c => mgP urg waits rl rn n alike (mP z1) (mT z1) (mN z1) (mD z1) k0 c) (fun a b => ahP urg cday alike a b) n = y + 1 from ex.symm)
                have hy : y < n := by omega
                refine lv_iconst (v := 1) hx hb dX5_pull_57 (by decide) ?_
                refine lv_goto (tgt := 62) hx hb dX5_pull_58 (by decide) ?_
                refine lv_istore_n (lv' := [(2, .int 1), (4, .int (nI i)), (3, .int (nI y)), (0, .ref mA), (1, .int (nI k0))]) hx hb dX5_pull_62 rfl hl (by decide) rfl (fun ls hl => ?_)
                refine lv_iload_n hx hb dX5_pull_63 rfl (lv_at hl 0 rfl) ?_
                refine lv_if_eq (x := 1) (tgt := 122) hx hb dX5_pull_64 (by decide) (fun c64 => ?_) (fun c64 => ?_)
                · skip
                  exact absurd c64 (by decide)
                · skip
                  refine lv_aload_n hx hb dX5_pull_67 rfl (lv_at hl 3 rfl) ?_
                  refine va_get (D := xD G) (ci := 5) (v := .ref (ma 21)) (C := RX5) (T := TX5) (N := 42) hx hb hts inX5 hown hK hP 0 rfl rfl 21 (by decide) kl66 (fun _ h9 => h9) rfl dX5_pull_68 ?_
                  refine lv_iload_n hx hb dX5_pull_71 rfl (lv_at hl 2 rfl) ?_
                  refine lv_iload_n hx hb dX5_pull_72 rfl (lv_at hl 4 rfl) ?_
                  refine x_iast (i := y) hx hb hK hP hD hS 1 rfl (by first | omega | assumption) (by omega) dX5_pull_73 (fun H locs hP hD hS => ?_)
                  have hP : va_P (xD G) vwCl [oModel mA ma cols (nI n) pac opac rpac alike (nI (mK z1)) (mE z1) (mM z1) (mV z1) (nI (mH z1)) fresh bup bsum, xI G (ma 21) 16 (upd (mP z1) y (nI k0)), xI G (ma 22) 16 (mL z1), xZ G (ma 23) 16 (mT z1), xI G (ma 24) 16 (mN z1), xI G (ma 25) 16 (mX z1), xZ G (ma 26) 16 (mB z1), xI G (ma 27) 16 (mD z1), xZ G (ma 28) 16 (mW z1), xI G (ma 29) 16 (mR z1), xI G (ma 30) 80 (mS z1), xI G (ma 10) 16 cday, xZ G (ma 11) 16 urg, xI G (ma 12) 64 szs, xI G (ma 13) 16 waits, xI G (ma 16) 4 rl, xI G (ma 17) 4 rn] H := hP
                  have hD : va_D A [oModel mA ma cols (nI n) pac opac rpac alike (nI (mK z1)) (mE z1) (mM z1) (mV z1) (nI (mH z1)) fresh bup bsum, xI G (ma 21) 16 (upd (mP z1) y (nI k0)), xI G (ma 22) 16 (mL z1), xZ G (ma 23) 16 (mT z1), xI G (ma 24) 16 (mN z1), xI G (ma 25) 16 (mX z1), xZ G (ma 26) 16 (mB z1), xI G (ma 27) 16 (mD z1), xZ G (ma 28) 16 (mW z1), xI G (ma 29) 16 (mR z1), xI G (ma 30) 80 (mS z1), xI G (ma 10) 16 cday, xZ G (ma 11) 16 urg, xI G (ma 12) 64 szs, xI G (ma 13) 16 waits, xI G (ma 16) 4 rl, xI G (ma 17) 4 rn] := hD
                  refine lv_aload_n hx hb dX5_pull_74 rfl (lv_at hl 3 rfl) ?_
                  refine va_get (D := xD G) (ci := 5) (v := .ref (ma 22)) (C := RX5) (T := TX5) (N := 42) hx hb hts inX5 hown hK hP 0 rfl rfl 22 (by decide) kl69 (fun _ h9 => h9) rfl dX5_pull_75 ?_
                  refine lv_iload_n hx hb dX5_pull_78 rfl (lv_at hl 2 rfl) ?_
                  refine lv_aload_n hx hb dX5_pull_79 rfl (lv_at hl 3 rfl) ?_
                  refine va_get (D := xD G) (ci := 5) (v := .ref (ma 12)) (C := RX5) (T := TX5) (N := 42) hx hb hts inX5 hown hK hP 0 rfl rfl 12 (by decide) kl45 (fun _ h9 => h9) rfl dX5_pull_80 ?_
                  refine lv_iconst (v := 4) hx hb dX5_pull_83 (by decide) ?_
                  refine lv_iload_n hx hb dX5_pull_84 rfl (lv_at hl 2 rfl) ?_
                  refine lv_imul hx hb dX5_pull_85 ?_
                  refine x_top (y := nI (4 * y)) (pk_mul 4 y) ?_
                  refine lv_iload_n hx hb dX5_pull_86 rfl (lv_at hl 4 rfl) ?_
                  refine lv_iadd hx hb dX5_pull_87 ?_
                  refine x_top (y := nI ((4 * y) + k0)) (nI_add (4 * y) k0) ?_
                  refine x_iald (i := (4 * y) + k0) hx hb hK hP 13 rfl (by first | omega | assumption) (by omega) dX5_pull_88 ?_
                  refine x_iast (i := y) hx hb hK hP hD hS 2 rfl (by first | omega | assumption) (by omega) dX5_pull_89 (fun H locs hP hD hS => ?_)
                  have hP : va_P (xD G) vwCl [oModel mA ma cols (nI n) pac opac rpac alike (nI (mK z1)) (mE z1) (mM z1) (mV z1) (nI (mH z1)) fresh bup bsum, xI G (ma 21) 16 (upd (mP z1) y (nI k0)), xI G (ma 22) 16 (upd (mL z1) y (szs ((4 * y) + k0))), xZ G (ma 23) 16 (mT z1), xI G (ma 24) 16 (mN z1), xI G (ma 25) 16 (mX z1), xZ G (ma 26) 16 (mB z1), xI G (ma 27) 16 (mD z1), xZ G (ma 28) 16 (mW z1), xI G (ma 29) 16 (mR z1), xI G (ma 30) 80 (mS z1), xI G (ma 10) 16 cday, xZ G (ma 11) 16 urg, xI G (ma 12) 64 szs, xI G (ma 13) 16 waits, xI G (ma 16) 4 rl, xI G (ma 17) 4 rn] H := hP
                  have hD : va_D A [oModel mA ma cols (nI n) pac opac rpac alike (nI (mK z1)) (mE z1) (mM z1) (mV z1) (nI (mH z1)) fresh bup bsum, xI G (ma 21) 16 (upd (mP z1) y (nI k0)), xI G (ma 22) 16 (upd (mL z1) y (szs ((4 * y) + k0))), xZ G (ma 23) 16 (mT z1), xI G (ma 24) 16 (mN z1), xI G (ma 25) 16 (mX z1), xZ G (ma 26) 16 (mB z1), xI G (ma 27) 16 (mD z1), xZ G (ma 28) 16 (mW z1), xI G (ma 29) 16 (mR z1), xI G (ma 30) 80 (mS z1), xI G (ma 10) 16 cday, xZ G (ma 11) 16 urg, xI G (ma 12) 64 szs, xI G (ma 13) 16 waits, xI G (ma 16) 4 rl, xI G (ma 17) 4 rn] := hD
                  refine lv_aload_n hx hb dX5_pull_90 rfl (lv_at hl 3 rfl) ?_
                  refine va_get (D := xD G) (ci := 5) (v := .ref (ma 23)) (C := RX5) (T := TX5) (N := 42) hx hb hts inX5 hown hK hP 0 rfl rfl 23 (by decide) kl72 (fun _ h9 => h9) rfl dX5_pull_91 ?_
                  refine lv_iload_n hx hb dX5_pull_94 rfl (lv_at hl 2 rfl) ?_
                  refine lv_iconst (v := 0) hx hb dX5_pull_95 (by decide) ?_
                  refine x_zast (i := y) hx hb hK hP hD hS 3 rfl (by first | omega | assumption) (by omega) rfl dX5_pull_96 (fun H locs hP hD hS => ?_)
                  have hP : va_P (xD G) vwCl [oModel mA ma cols (nI n) pac opac rpac alike (nI (mK z1)) (mE z1) (mM z1) (mV z1) (nI (mH z1)) fresh bup bsum, xI G (ma 21) 16 (upd (mP z1) y (nI k0)), xI G (ma 22) 16 (upd (mL z1) y (szs ((4 * y) + k0))), xZ G (ma 23) 16 (upd (mT z1) y 0), xI G (ma 24) 16 (mN z1), xI G (ma 25) 16 (mX z1), xZ G (ma 26) 16 (mB z1), xI G (ma 27) 16 (mD z1), xZ G (ma 28) 16 (mW z1), xI G (ma 29) 16 (mR z1), xI G (ma 30) 80 (mS z1), xI G (ma 10) 16 cday, xZ G (ma 11) 16 urg, xI G (ma 12) 64 szs, xI G (ma 13) 16 waits, xI G (ma 16) 4 rl, xI G (ma 17) 4 rn] H := hP
                  have hD : va_D A [oModel mA ma cols (nI n) pac opac rpac alike (nI (mK z1)) (mE z1) (mM z1) (mV z1) (nI (mH z1)) fresh bup bsum, xI G (ma 21) 16 (upd (mP z1) y (nI k0)), xI G (ma 22) 16 (upd (mL z1) y (szs ((4 * y) + k0))), xZ G (ma 23) 16 (upd (mT z1) y 0), xI G (ma 24) 16 (mN z1), xI G (ma 25) 16 (mX z1), xZ G (ma 26) 16 (mB z1), xI G (ma 27) 16 (mD z1), xZ G (ma 28) 16 (mW z1), xI G (ma 29) 16 (mR z1), xI G (ma 30) 80 (mS z1), xI G (ma 10) 16 cday, xZ G (ma 11) 16 urg, xI G (ma 12) 64 szs, xI G (ma 13) 16 waits, xI G (ma 16) 4 rl, xI G (ma 17) 4 rn] := hD
                  refine lv_aload_n hx hb dX5_pull_97 rfl (lv_at hl 3 rfl) ?_
                  refine va_get (D := xD G) (ci := 5) (v := .ref (ma 25)) (C := RX5) (T := TX5) (N := 42) hx hb hts inX5 hown hK hP 0 rfl rfl 25 (by decide) kl78 (fun _ h9 => h9) rfl dX5_pull_98 ?_
                  refine lv_iload_n hx hb dX5_pull_101 rfl (lv_at hl 2 rfl) ?_
                  refine lv_aload_n hx hb dX5_pull_102 rfl (lv_at hl 3 rfl) ?_
                  refine va_get (D := xD G) (ci := 5) (v := .int (nI (mK z1))) (C := RX5) (T := TX5) (N := 42) hx hb hts inX5 hown hK hP 0 rfl rfl 31 (by decide) kl137 (fun _ h9 => h9) rfl dX5_pull_103 ?_
                  refine x_iast (i := y) hx hb hK hP hD hS 5 rfl (by first | omega | assumption) (by omega) dX5_pull_106 (fun H locs hP hD hS => ?_)
                  have hP : va_P (xD G) vwCl [oModel mA ma cols (nI n) pac opac rpac alike (nI (mK z1)) (mE z1) (mM z1) (mV z1) (nI (mH z1)) fresh bup bsum, xI G (ma 21) 16 (upd (mP z1) y (nI k0)), xI G (ma 22) 16 (upd (mL z1) y (szs ((4 * y) + k0))), xZ G (ma 23) 16 (upd (mT z1) y 0), xI G (ma 24) 16 (mN z1), xI G (ma 25) 16 (upd (mX z1) y (nI (mK z1))), xZ G (ma 26) 16 (mB z1), xI G (ma 27) 16 (mD z1), xZ G (ma 28) 16 (mW z1), xI G (ma 29) 16 (mR z1), xI G (ma 30) 80 (mS z1), xI G (ma 10) 16 cday, xZ G (ma 11) 16 urg, xI G (ma 12) 64 szs, xI G (ma 13) 16 waits, xI G (ma 16) 4 rl, xI G (ma 17) 4 rn] H := hP
                  have hD : va_D A [oModel mA ma cols (nI n) pac opac rpac alike (nI (mK z1)) (mE z1) (mM z1) (mV z1) (nI (mH z1)) fresh bup bsum, xI G (ma 21) 16 (upd (mP z1) y (nI k0)), xI G (ma 22) 16 (upd (mL z1) y (szs ((4 * y) + k0))), xZ G (ma 23) 16 (upd (mT z1) y 0), xI G (ma 24) 16 (mN z1), xI G (ma 25) 16 (upd (mX z1) y (nI (mK z1))), xZ G (ma 26) 16 (mB z1), xI G (ma 27) 16 (mD z1), xZ G (ma 28) 16 (mW z1), xI G (ma 29) 16 (mR z1), xI G (ma 30) 80 (mS z1), xI G (ma 10) 16 cday, xZ G (ma 11) 16 urg, xI G (ma 12) 64 szs, xI G (ma 13) 16 waits, xI G (ma 16) 4 rl, xI G (ma 17) 4 rn] := hD
                  refine lv_aload_n hx hb dX5_pull_107 rfl (lv_at hl 3 rfl) ?_
                  refine lv_dup hx hb dX5_pull_108 rfl ?_
                  refine va_get (D := xD G) (ci := 5) (v := .int (nI (mK z1))) (C := RX5) (T := TX5) (N := 42) hx hb hts inX5 hown hK hP 0 rfl rfl 31 (by decide) kl137 (fun _ h9 => h9) rfl dX5_pull_109 ?_
                  refine lv_iconst (v := 1) hx hb dX5_pull_112 (by decide) ?_
                  refine lv_iadd hx hb dX5_pull_113 ?_
                  refine x_top (y := nI ((mK z1) + 1)) (nI_add (mK z1) 1) ?_
                  refine va_put (D := xD G) (ci := 5) (v := .int (nI ((mK z1) + 1))) (ty := .int) (C := RX5) (T := TX5) (N := 42) hx hb hts inX5 tyX5 tyX5_ok nmX5 hown hK hP hD hS 0 rfl rfl 31 (by decide) kl137 (fun _ h9 => h9) rfl (by decide +kernel) rfl rfl (Nat.le_of_ble_eq_true rfl) dX5_pull_114 (fun H locs hP hD hS => ?_)
                  have hP : va_P (xD G) vwCl [oModel mA ma cols (nI n) pac opac rpac alike (nI ((mK z1) + 1)) (mE z1) (mM z1) (mV z1) (nI (mH z1)) fresh bup bsum, xI G (ma 21) 16 (upd (mP z1) y (nI k0)), xI G (ma 22) 16 (upd (mL z1) y (szs ((4 * y) + k0))), xZ G (ma 23) 16 (upd (mT z1) y 0), xI G (ma 24) 16 (mN z1), xI G (ma 25) 16 (upd (mX z1) y (nI (mK z1))), xZ G (ma 26) 16 (mB z1), xI G (ma 27) 16 (mD z1), xZ G (ma 28) 16 (mW z1), xI G (ma 29) 16 (mR z1), xI G (ma 30) 80 (mS z1), xI G (ma 10) 16 cday, xZ G (ma 11) 16 urg, xI G (ma 12) 64 szs, xI G (ma 13) 16 waits, xI G (ma 16) 4 rl, xI G (ma 17) 4 rn] H := hP
                  have hD : va_D A [oModel mA ma cols (nI n) pac opac rpac alike (nI ((mK z1) + 1)) (mE z1) (mM z1) (mV z1) (nI (mH z1)) fresh bup bsum, xI G (ma 21) 16 (upd (mP z1) y (nI k0)), xI G (ma 22) 16 (upd (mL z1) y (szs ((4 * y) + k0))), xZ G (ma 23) 16 (upd (mT z1) y 0), xI G (ma 24) 16 (mN z1), xI G (ma 25) 16 (upd (mX z1) y (nI (mK z1))), xZ G (ma 26) 16 (mB z1), xI G (ma 27) 16 (mD z1), xZ G (ma 28) 16 (mW z1), xI G (ma 29) 16 (mR z1), xI G (ma 30) 80 (mS z1), xI G (ma 10) 16 cday, xZ G (ma 11) 16 urg, xI G (ma 12) 64 szs, xI G (ma 13) 16 waits, xI G (ma 16) 4 rl, xI G (ma 17) 4 rn] := hD
                  refine lv_aload_n hx hb dX5_pull_117 rfl (lv_at hl 3 rfl) ?_
                  refine lv_iconst (v := 1) hx hb dX5_pull_118 (by decide) ?_
                  refine va_put (D := xD G) (ci := 5) (v := .int 1) (ty := .boolean) (C := RX5) (T := TX5) (N := 42) hx hb hts inX5 tyX5 tyX5_ok nmX5 hown hK hP hD hS 0 rfl rfl 34 (by decide) kl163 (fun _ h9 => h9) rfl (by decide +kernel) rfl rfl (Nat.le_of_ble_eq_true rfl) dX5_pull_119 (fun H locs hP hD hS => ?_)
                  have hP : va_P (xD G) vwCl [oModel mA ma cols (nI n) pac opac rpac alike (nI ((mK z1) + 1)) (mE z1) (mM z1) 1 (nI (mH z1)) fresh bup bsum, xI G (ma 21) 16 (upd (mP z1) y (nI k0)), xI G (ma 22) 16 (upd (mL z1) y (szs ((4 * y) + k0))), xZ G (ma 23) 16 (upd (mT z1) y 0), xI G (ma 24) 16 (mN z1), xI G (ma 25) 16 (upd (mX z1) y (nI (mK z1))), xZ G (ma 26) 16 (mB z1), xI G (ma 27) 16 (mD z1), xZ G (ma 28) 16 (mW z1), xI G (ma 29) 16 (mR z1), xI G (ma 30) 80 (mS z1), xI G (ma 10) 16 cday, xZ G (ma 11) 16 urg, xI G (ma 12) 64 szs, xI G (ma 13) 16 waits, xI G (ma 16) 4 rl, xI G (ma 17) 4 rn] H := hP
                  have hD : va_D A [oModel mA ma cols (nI n) pac opac rpac alike (nI ((mK z1) + 1)) (mE z1) (mM z1) 1 (nI (mH z1)) fresh bup bsum, xI G (ma 21) 16 (upd (mP z1) y (nI k0)), xI G (ma 22) 16 (upd (mL z1) y (szs ((4 * y) + k0))), xZ G (ma 23) 16 (upd (mT z1) y 0), xI G (ma 24) 16 (mN z1), xI G (ma 25) 16 (upd (mX z1) y (nI (mK z1))), xZ G (ma 26) 16 (mB z1), xI G (ma 27) 16 (mD z1), xZ G (ma 28) 16 (mW z1), xI G (ma 29) 16 (mR z1), xI G (ma 30) 80 (mS z1), xI G (ma 10) 16 cday, xZ G (ma 11) 16 urg, xI G (ma 12) 64 szs, xI G (ma 13) 16 waits, xI G (ma 16) 4 rl, xI G (ma 17) 4 rn] := hD
                  refine lv_goto (tgt := 2) hx hb dX5_pull_122 (by decide) ?_
                  exact ih2 (plO szs k0 z1 y) (by rw [← es]; show _ = (if seL cday urg waits rl rn n alike k0 z1 = 0 then z1 else puM cday urg szs waits rl rn n alike k0 kk2 (plO szs k0 z1 (seL cday urg waits rl rn n alike k0 z1 - 1))); rw [if_neg (by rw [← ex]; omega), ← ex]; rfl) (by have := rdC_plO (szs := szs) hk hy hmg.1; omega) H locs hP hD hS ls (lv_sub hl [0, 3, 4] rfl)
            · skip
              refine lv_aload_n hx hb dX5_pull_20 rfl (lv_at hl 3 rfl) ?_
              refine lv_iload hx hb dX5_pull_21 (lv_at hl 0 rfl) ?_
              refine lv_iload_n hx hb dX5_pull_23 rfl (lv_at hl 4 rfl) ?_
              refine x_callR (As := [.int (nI i), .int (nI k0)]) (rest := []) (ci := 5) (q0 := 0) ⟨hx, hb, hml, hown, hts⟩ (mX5_mayGo l G mA ma cols n pac opac rpac alike (nI (mK z1)) (mE z1) (mM z1) (mV z1) (nI (mH z1)) fresh bup bsum (mP z1) (mT z1) (mN z1) (mD z1) urg waits rl rn i k0 (by first | assumption | omega) (by first | assumption | omega) (by first | assumption | omega) (hw _ (by omega))) (cwV 2 hts gX5_pull_X5_mayGo rfl rfl rfl (by decide +kernel) ⟨Nat.le_of_ble_eq_true rfl, Nat.le_of_ble_eq_true rfl⟩) hK hP hD [0, 1, 3, 4, 7, 12, 14, 15, 16] rfl rfl rfl rfl rfl rfl rfl hl.1 rfl (Nat.le_of_ble_eq_true rfl) dX5_pull_24 ⟨Nat.zero_le _, Nat.zero_le _⟩ (fun r hr => ?_)
              subst hr
              refine x_if_eq (P := mgP urg waits rl rn n alike (mP z1) (mT z1) (mN z1) (mD z1) k0 i) (tgt := 47) hx hb dX5_pull_27 (by decide) (fun c27 => ?_) (fun c27 => ?_)
              · skip
                refine lv_iinc (v := nI (i + 1)) (lv' := [(4, .int (nI (i + 1))), (3, .int (dn x)), (2, .int 1), (0, .ref mA), (1, .int (nI k0))]) hx hb dX5_pull_47 hl (k := 0) rfl (by exact nI_add i 1) (by decide) rfl (fun ls hl => ?_)
                refine lv_goto (tgt := 11) hx hb dX5_pull_50 (by decide) ?_
                exact ih11 (i + 1) x (by omega) (by omega) (by simp only [slN, ← ex]; exact (if_neg (fun h => c27 h.1)).symm) H locs hP hD hS ls (lv_sub hl [0, 1, 2, 3, 4] rfl)
              · skip
                refine lv_iload_n hx hb dX5_pull_30 rfl (lv_at hl 1 rfl) ?_
                refine lv_if_lt (x := dn x) (tgt := 44) hx hb dX5_pull_31 (by decide) (fun c31 => ?_) (fun c31 => ?_)
                · skip
                  have hx0 : x = 0 := (dn_neg (by omega)).mp c31
                  refine lv_iload hx hb dX5_pull_44 (lv_at hl 0 rfl) ?_
                  refine lv_istore_n (lv' := [(3, .int (nI i)), (4, .int (nI i)), (2, .int 1), (0, .ref mA), (1, .int (nI k0))]) hx hb dX5_pull_46 rfl hl (by decide) rfl (fun ls hl => ?_)
                  refine lv_iinc (v := nI (i + 1)) (lv' := [(4, .int (nI (i + 1))), (3, .int (nI i)), (2, .int 1), (0, .ref mA), (1, .int (nI k0))]) hx hb dX5_pull_47 hl (k := 1) rfl (by exact nI_add i 1) (by decide) rfl (fun ls hl => ?_)
                  refine lv_goto (tgt := 11) hx hb dX5_pull_50 (by decide) ?_
                  exact ih11 (i + 1) (i + 1) (by omega) (by omega) (by simp only [slN, ← ex]; exact (if_pos ⟨c27, Or.inl hx0⟩).symm) H locs hP hD hS ls (lv_sub hl [0, 1, 2, 3, 4] rfl)
                · skip
                  have hx0 : ¬ x = 0 := fun q => c31 ((dn_neg (by omega)).mpr q)
                  obtain ⟨y, rfl⟩ : ∃ y, x = y + 1 := ⟨x - 1, by omega⟩
                  have hl : lv_has ls 5 [(4, .int (nI i)), (3, .int (nI y)), (2, .int 1), (0, .ref mA), (1, .int (nI k0))] := hl
                  refine lv_aload_n hx hb dX5_pull_34 rfl (lv_at hl 3 rfl) ?_
                  refine lv_iload hx hb dX5_pull_35 (lv_at hl 0 rfl) ?_
                  refine lv_iload_n hx hb dX5_pull_37 rfl (lv_at hl 1 rfl) ?_
                  refine x_callR (As := [.int (nI i), .int (nI y)]) (rest := []) (ci := 5) (q0 := 0) ⟨hx, hb, hml, hown, hts⟩ (mX5_isAhead l G mA ma cols n pac opac rpac alike (nI (mK z1)) (mE z1) (mM z1) (mV z1) (nI (mH z1)) fresh bup bsum urg cday i y (by first | assumption | omega) (by first | assumption | omega)) (cwV 2 hts gX5_pull_X5_isAhead rfl rfl rfl (by decide +kernel) ⟨Nat.le_of_ble_eq_true rfl, Nat.le_of_ble_eq_true rfl⟩) hK hP hD [0, 12, 11] rfl rfl rfl rfl rfl rfl rfl hl.1 rfl (Nat.le_of_ble_eq_true rfl) dX5_pull_38 ⟨Nat.zero_le _, Nat.zero_le _⟩ (fun r hr => ?_)
                  subst hr
                  refine x_if_eq (P := ahP urg cday alike i y) (tgt := 47) hx hb dX5_pull_41 (by decide) (fun c41 => ?_) (fun c41 => ?_)
                  · skip
                    refine lv_iinc (v := nI (i + 1)) (lv' := [(4, .int (nI (i + 1))), (3, .int (nI y)), (2, .int 1), (0, .ref mA), (1, .int (nI k0))]) hx hb dX5_pull_47 hl (k := 0) rfl (by exact nI_add i 1) (by decide) rfl (fun ls hl => ?_)
                    refine lv_goto (tgt := 11) hx hb dX5_pull_50 (by decide) ?_
                    exact ih11 (i + 1) (y + 1) (by omega) (by omega) (by simp only [slN, ← ex]; exact (if_neg (fun h => h.2.elim (fun q => absurd q (by omega)) c41)).symm) H locs hP hD hS ls (lv_sub hl [0, 1, 2, 3, 4] rfl)
                  · skip
                    refine lv_iload hx hb dX5_pull_44 (lv_at hl 0 rfl) ?_
                    refine lv_istore_n (lv' := [(3, .int (nI i)), (4, .int (nI i)), (2, .int 1), (0, .ref mA), (1, .int (nI k0))]) hx hb dX5_pull_46 rfl hl (by decide) rfl (fun ls hl => ?_)
                    refine lv_iinc (v := nI (i + 1)) (lv' := [(4, .int (nI (i + 1))), (3, .int (nI i)), (2, .int 1), (0, .ref mA), (1, .int (nI k0))]) hx hb dX5_pull_47 hl (k := 1) rfl (by exact nI_add i 1) (by decide) rfl (fun ls hl => ?_)
                    refine lv_goto (tgt := 11) hx hb dX5_pull_50 (by decide) ?_
                    exact ih11 (i + 1) (i + 1) (by omega) (by omega) (by simp only [slN, ← ex]; exact (if_pos ⟨c27, Or.inr c41⟩).symm) H locs hP hD hS ls (lv_sub hl [0, 1, 2, 3, 4] rfl)
        exact L11 (n + 1) 0 0 (by omega) (by omega) (rfl) H locs hP hD hS ls (lv_sub hl [0, 1, 2, 3, 4] rfl)
  exact L2 17 z0 (rfl) (by have := rdC_le waits n k0 z0; omega) H locs hP hD hS ls (lv_sub hl [0, 1, 2] rfl)
set_option maxHeartbeats 4000000 in
set_option maxRecDepth 100000 in
theorem mX5_nextWork (l : Launch) (G : xG) (mA : Nat) (ma : Nat → Nat) (cols : Int32) (n : Nat) (pac : Int32) (opac : Int32) (rpac : Int32) (alike : Int32) (pulls : Int32) (len : Int32) (lmv : Int32) (mov : Int32) (ther : Int32) (fresh : Int32) (bup : Int32) (bsum : Int32) (place : Nat → Int32) (thr : XF) (pas : XF) (urg : Nat → Int32) (k0 : Nat) (u : Bool) (bh : Int32)  (hn : n ≤ 16) (hk : k0 < 4) : xR l yX5_nextWork wsX5_nextWork ({ frames := 1, cells := 0, slots := 0, locals := 21 } : Room) [.ref mA, .int (nI k0), .int (b2 (u = true)), .int bh] G [oModel mA ma cols (nI n) pac opac rpac alike pulls len lmv mov ther fresh bup bsum, xI G (ma 21) 16 place, xZ G (ma 23) 16 thr, xI G (ma 25) 16 pas, xZ G (ma 11) 16 urg] (fun r => r = dn (nwN urg n alike place thr pas k0 u bh)) := by
  refine xR_of (cc := cX5_nextWork) (maxL := 7) (ty := .int) (by decide) rfl (Nat.le_of_ble_eq_true rfl) ?_
  intro p e s m below meth cO ls Q hx hb hml hown hts hP hK hD hl hq
  have hown : s.vm.findClass RX5 = some m.cls := hown
  have kl105 := hts (.fieldLink RX5 105 "WorkBoardModel" "cards" "I") (List.mem_of_getElem? (i := 1) rfl)
  have kl66 := hts (.fieldLink RX5 66 "WorkBoardModel" "place" "[I") (List.mem_of_getElem? (i := 2) rfl)
  have kl72 := hts (.fieldLink RX5 72 "WorkBoardModel" "isThrough" "[Z") (List.mem_of_getElem? (i := 3) rfl)
  have kl78 := hts (.fieldLink RX5 78 "WorkBoardModel" "pulledAs" "[I") (List.mem_of_getElem? (i := 4) rfl)
  have inX5 : ∀ w ∈ u_ws RX5 TX5 42, w ∈ wsX5_nextWork := (fun w h => List.mem_cons_of_mem _ (List.mem_append_right _ h))
  have hl : lv_has ls 7 [(0, .ref mA), (1, .int (nI k0)), (2, .int (b2 (u = true))), (3, .int bh)] := hl
  have hP : va_P (xD G) vwCl [oModel mA ma cols (nI n) pac opac rpac alike pulls len lmv mov ther fresh bup bsum, xI G (ma 21) 16 place, xZ G (ma 23) 16 thr, xI G (ma 25) 16 pas, xZ G (ma 11) 16 urg] s.heap := hP
  refine lv_iconst (v := (-1)) hx hb dX5_nextWork_0 (by decide) ?_
  refine lv_istore (lv' := [(4, .int (-1)), (0, .ref mA), (1, .int (nI k0)), (2, .int (b2 (u = true))), (3, .int bh)]) hx hb dX5_nextWork_1 hl (by decide) rfl (fun ls hl => ?_)
  refine lv_iconst (v := 0) hx hb dX5_nextWork_3 (by decide) ?_
  refine lv_istore (lv' := [(5, .int 0), (4, .int (-1)), (0, .ref mA), (1, .int (nI k0)), (2, .int (b2 (u = true))), (3, .int bh)]) hx hb dX5_nextWork_4 hl (by decide) rfl (fun ls hl => ?_)
  have L6 : ∀ (kk6 i : Nat) (x : Nat), i ≤ n → n + 1 ≤ i + kk6 → (x = slN (fun b => nwP urg alike place thr pas k0 u bh b) (fun a b => ¬ pas b ≤ pas a) i) → ∀ (ls : Array Slot), lv_has ls 7 [(5, .int (nI i)), (4, .int (dn x)), (0, .ref mA), (1, .int (nI k0)), (2, .int (b2 (u = true))), (3, .int bh)] → W p l e ({ frames := 1, cells := 0, slots := 0, locals := 21 } : Room) s m #[Value.ref mA, Value.int (nI k0), Value.int (b2 (u = true)), Value.int bh] below meth cO s.heap [] 0 0 Q (F0 m 6 ls []) := by
    intro kk6
    induction kk6 with
    | zero => intro i x h1 h2; exact absurd h2 (by omega)
    | succ kk6 ih6 =>
      intro i x hi6 hk6 ex ls hl
      have hxi : x ≤ i := by rw [ex]; exact slN_le _ _ i
      refine lv_iload hx hb dX5_nextWork_6 (lv_at hl 0 rfl) ?_
      refine lv_aload_n hx hb dX5_nextWork_8 rfl (lv_at hl 2 rfl) ?_
      refine va_get (D := xD G) (ci := 5) (v := .int (nI n)) (C := RX5) (T := TX5) (N := 42) hx hb hts inX5 hown hK hP 0 rfl rfl 1 (by decide) kl105 (fun _ h9 => h9) rfl dX5_nextWork_9 ?_
      refine x_icmp_ge (x := i) (y := n) (tgt := 109) hx hb (by omega) (by omega) dX5_nextWork_12 (by decide) (fun c12 => ?_) (fun c12 => ?_)
      · skip
        have e9 : i = n := by omega
        rw [e9] at ex
        refine lv_iload hx hb dX5_nextWork_109 (lv_at hl 1 rfl) ?_
        exact hq (dn x) 111 ls dX5_nextWork_111 rfl (by rw [ex]; rfl)
      · skip
        refine lv_aload_n hx hb dX5_nextWork_15 rfl (lv_at hl 2 rfl) ?_
        refine va_get (D := xD G) (ci := 5) (v := .ref (ma 21)) (C := RX5) (T := TX5) (N := 42) hx hb hts inX5 hown hK hP 0 rfl rfl 21 (by decide) kl66 (fun _ h9 => h9) rfl dX5_nextWork_16 ?_
        refine lv_iload hx hb dX5_nextWork_19 (lv_at hl 0 rfl) ?_
        refine x_iald (i := i) hx hb hK hP 1 rfl (by first | omega | assumption) (by omega) dX5_nextWork_21 ?_
        refine lv_iload_n hx hb dX5_nextWork_22 rfl (lv_at hl 3 rfl) ?_
        refine lv_icmp_ne (x := place i) (y := nI k0) (tgt := 69) hx hb dX5_nextWork_23 (by decide) (fun c23 => ?_) (fun c23 => ?_)
        · skip
          refine lv_iconst (v := 0) hx hb dX5_nextWork_69 (by decide) ?_
          refine lv_istore (lv' := [(6, .int 0), (5, .int (nI i)), (4, .int (dn x)), (0, .ref mA), (1, .int (nI k0)), (2, .int (b2 (u = true))), (3, .int bh)]) hx hb dX5_nextWork_70 hl (by decide) rfl (fun ls hl => ?_)
          refine lv_iload hx hb dX5_nextWork_72 (lv_at hl 0 rfl) ?_
          refine lv_if_eq (x := 0) (tgt := 103) hx hb dX5_nextWork_74 (by decide) (fun c74 => ?_) (fun c74 => ?_)
          · skip
            refine lv_iinc (v := nI (i + 1)) (lv' := [(5, .int (nI (i + 1))), (6, .int 0), (4, .int (dn x)), (0, .ref mA), (1, .int (nI k0)), (2, .int (b2 (u = true))), (3, .int bh)]) hx hb dX5_nextWork_103 hl (k := 1) rfl (by exact nI_add i 1) (by decide) rfl (fun ls hl => ?_)
            refine lv_goto (tgt := 6) hx hb dX5_nextWork_106 (by decide) ?_
            exact ih6 (i + 1) x (by omega) (by omega) (by rw [slN, ← ex]; exact (if_neg (fun h => c23 h.1.1)).symm) ls (lv_sub hl [0, 2, 3, 4, 5, 6] rfl)
          · skip
            exact absurd c74 (by decide)
        · skip
          refine lv_aload_n hx hb dX5_nextWork_26 rfl (lv_at hl 2 rfl) ?_
          refine va_get (D := xD G) (ci := 5) (v := .ref (ma 23)) (C := RX5) (T := TX5) (N := 42) hx hb hts inX5 hown hK hP 0 rfl rfl 23 (by decide) kl72 (fun _ h9 => h9) rfl dX5_nextWork_27 ?_
          refine lv_iload hx hb dX5_nextWork_30 (lv_at hl 0 rfl) ?_
          refine x_zald (i := i) hx hb hK hP 2 rfl (by first | omega | assumption) (by omega) dX5_nextWork_32 ?_
          refine lv_if_ne (x := thr i) (tgt := 69) hx hb dX5_nextWork_33 (by decide) (fun c33 => ?_) (fun c33 => ?_)
          · skip
            refine lv_iconst (v := 0) hx hb dX5_nextWork_69 (by decide) ?_
            refine lv_istore (lv' := [(6, .int 0), (5, .int (nI i)), (4, .int (dn x)), (0, .ref mA), (1, .int (nI k0)), (2, .int (b2 (u = true))), (3, .int bh)]) hx hb dX5_nextWork_70 hl (by decide) rfl (fun ls hl => ?_)
            refine lv_iload hx hb dX5_nextWork_72 (lv_at hl 0 rfl) ?_
            refine lv_if_eq (x := 0) (tgt := 103) hx hb dX5_nextWork_74 (by decide) (fun c74 => ?_) (fun c74 => ?_)
            · skip
              refine lv_iinc (v := nI (i + 1)) (lv' := [(5, .int (nI (i + 1))), (6, .int 0), (4, .int (dn x)), (0, .ref mA), (1, .int (nI k0)), (2, .int (b2 (u = true))), (3, .int bh)]) hx hb dX5_nextWork_103 hl (k := 1) rfl (by exact nI_add i 1) (by decide) rfl (fun ls hl => ?_)
              refine lv_goto (tgt := 6) hx hb dX5_nextWork_106 (by decide) ?_
              exact ih6 (i + 1) x (by omega) (by omega) (by rw [slN, ← ex]; exact (if_neg (fun h => c33 h.1.2.1)).symm) ls (lv_sub hl [0, 2, 3, 4, 5, 6] rfl)
            · skip
              exact absurd c74 (by decide)
          · skip
            refine x_cut (g1 := F0 m 50 ls [.int (b2 (urgP urg alike i))]) ?_ (fun J50 => ?_)
            · skip
              refine lv_iload_n hx hb dX5_nextWork_50 rfl (lv_at hl 4 rfl) ?_
              refine x_bcmp_ne (P := urgP urg alike i) (U := u = true) (tgt := 69) hx hb dX5_nextWork_51 (by decide) (fun c51 => ?_) (fun c51 => ?_)
              · skip
                refine lv_iconst (v := 0) hx hb dX5_nextWork_69 (by decide) ?_
                refine lv_istore (lv' := [(6, .int 0), (5, .int (nI i)), (4, .int (dn x)), (0, .ref mA), (1, .int (nI k0)), (2, .int (b2 (u = true))), (3, .int bh)]) hx hb dX5_nextWork_70 hl (by decide) rfl (fun ls hl => ?_)
                refine lv_iload hx hb dX5_nextWork_72 (lv_at hl 0 rfl) ?_
                refine lv_if_eq (x := 0) (tgt := 103) hx hb dX5_nextWork_74 (by decide) (fun c74 => ?_) (fun c74 => ?_)
                · skip
                  refine lv_iinc (v := nI (i + 1)) (lv' := [(5, .int (nI (i + 1))), (6, .int 0), (4, .int (dn x)), (0, .ref mA), (1, .int (nI k0)), (2, .int (b2 (u = true))), (3, .int bh)]) hx hb dX5_nextWork_103 hl (k := 1) rfl (by exact nI_add i 1) (by decide) rfl (fun ls hl => ?_)
                  refine lv_goto (tgt := 6) hx hb dX5_nextWork_106 (by decide) ?_
                  exact ih6 (i + 1) x (by omega) (by omega) (by rw [slN, ← ex]; exact (if_neg (fun h => c51 h.1.2.2.1)).symm) ls (lv_sub hl [0, 2, 3, 4, 5, 6] rfl)
                · skip
                  exact absurd c74 (by decide)
              · skip
                refine lv_aload_n hx hb dX5_nextWork_54 rfl (lv_at hl 2 rfl) ?_
                refine va_get (D := xD G) (ci := 5) (v := .ref (ma 25)) (C := RX5) (T := TX5) (N := 42) hx hb hts inX5 hown hK hP 0 rfl rfl 25 (by decide) kl78 (fun _ h9 => h9) rfl dX5_nextWork_55 ?_
                refine lv_iload hx hb dX5_nextWork_58 (lv_at hl 0 rfl) ?_
                refine x_iald (i := i) hx hb hK hP 3 rfl (by first | omega | assumption) (by omega) dX5_nextWork_60 ?_
                refine lv_iload_n hx hb dX5_nextWork_61 rfl (lv_at hl 5 rfl) ?_
                refine lv_icmp_le (x := pas i) (y := bh) (tgt := 69) hx hb dX5_nextWork_62 (by decide) (fun c62 => ?_) (fun c62 => ?_)
                · skip
                  refine lv_iconst (v := 0) hx hb dX5_nextWork_69 (by decide) ?_
                  refine lv_istore (lv' := [(6, .int 0), (5, .int (nI i)), (4, .int (dn x)), (0, .ref mA), (1, .int (nI k0)), (2, .int (b2 (u = true))), (3, .int bh)]) hx hb dX5_nextWork_70 hl (by decide) rfl (fun ls hl => ?_)
                  refine lv_iload hx hb dX5_nextWork_72 (lv_at hl 0 rfl) ?_
                  refine lv_if_eq (x := 0) (tgt := 103) hx hb dX5_nextWork_74 (by decide) (fun c74 => ?_) (fun c74 => ?_)
                  · skip
                    refine lv_iinc (v := nI (i + 1)) (lv' := [(5, .int (nI (i + 1))), (6, .int 0), (4, .int (dn x)), (0, .ref mA), (1, .int (nI k0)), (2, .int (b2 (u = true))), (3, .int bh)]) hx hb dX5_nextWork_103 hl (k := 1) rfl (by exact nI_add i 1) (by decide) rfl (fun ls hl => ?_)
                    refine lv_goto (tgt := 6) hx hb dX5_nextWork_106 (by decide) ?_
                    exact ih6 (i + 1) x (by omega) (by omega) (by rw [slN, ← ex]; exact (if_neg (fun h => h.1.2.2.2 c62)).symm) ls (lv_sub hl [0, 2, 3, 4, 5, 6] rfl)
                  · skip
                    exact absurd c74 (by decide)
                · skip
                  refine lv_iconst (v := 1) hx hb dX5_nextWork_65 (by decide) ?_
                  refine lv_goto (tgt := 70) hx hb dX5_nextWork_66 (by decide) ?_
                  refine lv_istore (lv' := [(6, .int 1), (5, .int (nI i)), (4, .int (dn x)), (0, .ref mA), (1, .int (nI k0)), (2, .int (b2 (u = true))), (3, .int bh)]) hx hb dX5_nextWork_70 hl (by decide) rfl (fun ls hl => ?_)
                  refine lv_iload hx hb dX5_nextWork_72 (lv_at hl 0 rfl) ?_
                  refine lv_if_eq (x := 1) (tgt := 103) hx hb dX5_nextWork_74 (by decide) (fun c74 => ?_) (fun c74 => ?_)
                  · skip
                    exact absurd c74 (by decide)
                  · skip
                    refine lv_iload hx hb dX5_nextWork_77 (lv_at hl 2 rfl) ?_
                    refine lv_if_lt (x := dn x) (tgt := 99) hx hb dX5_nextWork_79 (by decide) (fun c79 => ?_) (fun c79 => ?_)
                    · skip
                      have hx0 : x = 0 := (dn_neg (by omega)).mp c79
                      refine lv_iload hx hb dX5_nextWork_99 (lv_at hl 1 rfl) ?_
                      refine lv_istore (lv' := [(4, .int (nI i)), (6, .int 1), (5, .int (nI i)), (0, .ref mA), (1, .int (nI k0)), (2, .int (b2 (u = true))), (3, .int bh)]) hx hb dX5_nextWork_101 hl (by decide) rfl (fun ls hl => ?_)
                      refine lv_iinc (v := nI (i + 1)) (lv' := [(5, .int (nI (i + 1))), (4, .int (nI i)), (6, .int 1), (0, .ref mA), (1, .int (nI k0)), (2, .int (b2 (u = true))), (3, .int bh)]) hx hb dX5_nextWork_103 hl (k := 2) rfl (by exact nI_add i 1) (by decide) rfl (fun ls hl => ?_)
                      refine lv_goto (tgt := 6) hx hb dX5_nextWork_106 (by decide) ?_
                      exact ih6 (i + 1) (i + 1) (by omega) (by omega) (by rw [slN, ← ex]; exact (if_pos ⟨⟨c23, c33, c51, c62⟩, Or.inl hx0⟩).symm) ls (lv_sub hl [0, 1, 3, 4, 5, 6] rfl)
                    · skip
                      have hx0 : ¬ x = 0 := fun q => c79 ((dn_neg (by omega)).mpr q)
                      obtain ⟨y, rfl⟩ : ∃ y, x = y + 1 := ⟨x - 1, by omega⟩
                      have hl : lv_has ls 7 [(6, .int 1), (5, .int (nI i)), (4, .int (nI y)), (0, .ref mA), (1, .int (nI k0)), (2, .int (b2 (u = true))), (3, .int bh)] := hl
                      refine lv_aload_n hx hb dX5_nextWork_82 rfl (lv_at hl 3 rfl) ?_
                      refine va_get (D := xD G) (ci := 5) (v := .ref (ma 25)) (C := RX5) (T := TX5) (N := 42) hx hb hts inX5 hown hK hP 0 rfl rfl 25 (by decide) kl78 (fun _ h9 => h9) rfl dX5_nextWork_83 ?_
                      refine lv_iload hx hb dX5_nextWork_86 (lv_at hl 1 rfl) ?_
                      refine x_iald (i := i) hx hb hK hP 3 rfl (by first | omega | assumption) (by omega) dX5_nextWork_88 ?_
                      refine lv_aload_n hx hb dX5_nextWork_89 rfl (lv_at hl 3 rfl) ?_
                      refine va_get (D := xD G) (ci := 5) (v := .ref (ma 25)) (C := RX5) (T := TX5) (N := 42) hx hb hts inX5 hown hK hP 0 rfl rfl 25 (by decide) kl78 (fun _ h9 => h9) rfl dX5_nextWork_90 ?_
                      refine lv_iload hx hb dX5_nextWork_93 (lv_at hl 2 rfl) ?_
                      refine x_iald (i := y) hx hb hK hP 3 rfl (by first | omega | assumption) (by omega) dX5_nextWork_95 ?_
                      refine lv_icmp_ge (x := pas i) (y := pas y) (tgt := 103) hx hb dX5_nextWork_96 (by decide) (fun c96 => ?_) (fun c96 => ?_)
                      · skip
                        refine lv_iinc (v := nI (i + 1)) (lv' := [(5, .int (nI (i + 1))), (6, .int 1), (4, .int (nI y)), (0, .ref mA), (1, .int (nI k0)), (2, .int (b2 (u = true))), (3, .int bh)]) hx hb dX5_nextWork_103 hl (k := 1) rfl (by exact nI_add i 1) (by decide) rfl (fun ls hl => ?_)
                        refine lv_goto (tgt := 6) hx hb dX5_nextWork_106 (by decide) ?_
                        exact ih6 (i + 1) (y + 1) (by omega) (by omega) (by rw [slN, ← ex]; exact (if_neg (fun h => h.2.elim (fun q => absurd q (by omega)) (fun q => q c96))).symm) ls (lv_sub hl [0, 2, 3, 4, 5, 6] rfl)
                      · skip
                        refine lv_iload hx hb dX5_nextWork_99 (lv_at hl 1 rfl) ?_
                        refine lv_istore (lv' := [(4, .int (nI i)), (6, .int 1), (5, .int (nI i)), (0, .ref mA), (1, .int (nI k0)), (2, .int (b2 (u = true))), (3, .int bh)]) hx hb dX5_nextWork_101 hl (by decide) rfl (fun ls hl => ?_)
                        refine lv_iinc (v := nI (i + 1)) (lv' := [(5, .int (nI (i + 1))), (4, .int (nI i)), (6, .int 1), (0, .ref mA), (1, .int (nI k0)), (2, .int (b2 (u = true))), (3, .int bh)]) hx hb dX5_nextWork_103 hl (k := 2) rfl (by exact nI_add i 1) (by decide) rfl (fun ls hl => ?_)
                        refine lv_goto (tgt := 6) hx hb dX5_nextWork_106 (by decide) ?_
                        exact ih6 (i + 1) (i + 1) (by omega) (by omega) (by rw [slN, ← ex]; exact (if_pos ⟨⟨c23, c33, c51, c62⟩, Or.inr c96⟩).symm) ls (lv_sub hl [0, 1, 3, 4, 5, 6] rfl)
            · skip
              refine lv_aload_n hx hb dX5_nextWork_36 rfl (lv_at hl 2 rfl) ?_
              refine lv_iload hx hb dX5_nextWork_37 (lv_at hl 0 rfl) ?_
              refine x_callR (As := [.int (nI i)]) (rest := []) (ci := 5) (q0 := 0) ⟨hx, hb, hml, hown, hts⟩ (mX5_isUrgentNow l G mA ma cols n pac opac rpac alike pulls len lmv mov ther fresh bup bsum urg i (by first | assumption | omega)) (cwV 1 hts gX5_nextWork_X5_isUrgentNow rfl rfl rfl (by decide +kernel) ⟨Nat.le_of_ble_eq_true rfl, Nat.le_of_ble_eq_true rfl⟩) hK hP hD [0, 4] rfl rfl rfl rfl rfl rfl rfl hl.1 rfl (Nat.le_of_ble_eq_true rfl) dX5_nextWork_39 ⟨Nat.zero_le _, Nat.zero_le _⟩ (fun r hr => ?_)
              subst hr
              refine x_if_eq (P := urgP urg alike i) (tgt := 49) hx hb dX5_nextWork_42 (by decide) (fun c42 => ?_) (fun c42 => ?_)
              · skip
                refine lv_iconst (v := 0) hx hb dX5_nextWork_49 (by decide) ?_
                exact x_top (show 0 = b2 (urgP urg alike i) from (b2_f c42).symm) J50
              · skip
                refine lv_iconst (v := 1) hx hb dX5_nextWork_45 (by decide) ?_
                refine lv_goto (tgt := 50) hx hb dX5_nextWork_46 (by decide) ?_
                exact x_top (show 1 = b2 (urgP urg alike i) from (b2_t c42).symm) J50
  exact L6 (n + 1) 0 0 (by omega) (by omega) (rfl) ls (lv_sub hl [0, 1, 2, 3, 4, 5] rfl)
set_option maxHeartbeats 4000000 in
set_option maxRecDepth 100000 in
theorem mX5_work (l : Launch) (G : xG) (mA : Nat) (ma : Nat → Nat) (nc : Nat) (n : Nat) (pac : Int32) (opac : Int32) (rpac : Int32) (alike : Int32) (z0 : RS) (fresh : Int32) (bup : Int32) (bsum : Int32) (urg : Nat → Int32) (bfrom : Nat → Int32) (bto : Nat → Int32) (rh : XF) (k0 : Nat) (v : Int32)  (hn : n ≤ 16) (hk : k0 < 4) : xM l yX5_work wsX5_work ({ frames := 2, cells := 0, slots := 0, locals := 47 } : Room) [.ref mA, .int (nI k0), .int v] G [oModel mA ma (nI nc) (nI n) pac opac rpac alike (nI (mK z0)) (mE z0) (mM z0) (mV z0) (nI (mH z0)) fresh bup bsum, xI G (ma 21) 16 (mP z0), xI G (ma 22) 16 (mL z0), xZ G (ma 23) 16 (mT z0), xI G (ma 24) 16 (mN z0), xI G (ma 25) 16 (mX z0), xZ G (ma 26) 16 (mB z0), xI G (ma 27) 16 (mD z0), xZ G (ma 28) 16 (mW z0), xI G (ma 29) 16 (mR z0), xI G (ma 30) 80 (mS z0), xZ G (ma 11) 16 urg, xI G (ma 14) 16 bfrom, xI G (ma 15) 16 bto, xI G (ma 18) 4 rh] [oModel mA ma (nI nc) (nI n) pac opac rpac alike (nI (mK (wkF urg bfrom bto rh n nc alike rpac v k0 z0))) (mE (wkF urg bfrom bto rh n nc alike rpac v k0 z0)) (mM (wkF urg bfrom bto rh n nc alike rpac v k0 z0)) (mV (wkF urg bfrom bto rh n nc alike rpac v k0 z0)) (nI (mH (wkF urg bfrom bto rh n nc alike rpac v k0 z0))) fresh bup bsum, xI G (ma 21) 16 (mP (wkF urg bfrom bto rh n nc alike rpac v k0 z0)), xI G (ma 22) 16 (mL (wkF urg bfrom bto rh n nc alike rpac v k0 z0)), xZ G (ma 23) 16 (mT (wkF urg bfrom bto rh n nc alike rpac v k0 z0)), xI G (ma 24) 16 (mN (wkF urg bfrom bto rh n nc alike rpac v k0 z0)), xI G (ma 25) 16 (mX (wkF urg bfrom bto rh n nc alike rpac v k0 z0)), xZ G (ma 26) 16 (mB (wkF urg bfrom bto rh n nc alike rpac v k0 z0)), xI G (ma 27) 16 (mD (wkF urg bfrom bto rh n nc alike rpac v k0 z0)), xZ G (ma 28) 16 (mW (wkF urg bfrom bto rh n nc alike rpac v k0 z0)), xI G (ma 29) 16 (mR (wkF urg bfrom bto rh n nc alike rpac v k0 z0)), xI G (ma 30) 80 (mS (wkF urg bfrom bto rh n nc alike rpac v k0 z0)), xZ G (ma 11) 16 urg, xI G (ma 14) 16 bfrom, xI G (ma 15) 16 bto, xI G (ma 18) 4 rh] := by
  refine xM_of (cc := cX5_work) (maxL := 8) (by decide) rfl (Nat.le_of_ble_eq_true rfl) ?_
  intro p e s m below meth cO ls Q A hx hb hml hown hts hP hK hD hS hA hl hq
  have hown : s.vm.findClass RX5 = some m.cls := hown
  have kl63 := hts (.fieldLink RX5 63 "WorkBoardModel" "runHands" "[I") (List.mem_of_getElem? (i := 1) rfl)
  have kl78 := hts (.fieldLink RX5 78 "WorkBoardModel" "pulledAs" "[I") (List.mem_of_getElem? (i := 2) rfl)
  have kl69 := hts (.fieldLink RX5 69 "WorkBoardModel" "left" "[I") (List.mem_of_getElem? (i := 3) rfl)
  have kl131 := hts (.fieldLink RX5 131 "WorkBoardModel" "runPace" "I") (List.mem_of_getElem? (i := 4) rfl)
  have kl87 := hts (.fieldLink RX5 87 "WorkBoardModel" "did" "[Z") (List.mem_of_getElem? (i := 5) rfl)
  have inX5 : ∀ w ∈ u_ws RX5 TX5 42, w ∈ wsX5_work := (fun w h => List.mem_cons_of_mem _ (List.mem_append_right _ h))
  have hl : lv_has ls 8 [(0, .ref mA), (1, .int (nI k0)), (2, .int v)] := hl
  have hD : va_D A [oModel mA ma (nI nc) (nI n) pac opac rpac alike (nI (mK z0)) (mE z0) (mM z0) (mV z0) (nI (mH z0)) fresh bup bsum, xI G (ma 21) 16 (mP z0), xI G (ma 22) 16 (mL z0), xZ G (ma 23) 16 (mT z0), xI G (ma 24) 16 (mN z0), xI G (ma 25) 16 (mX z0), xZ G (ma 26) 16 (mB z0), xI G (ma 27) 16 (mD z0), xZ G (ma 28) 16 (mW z0), xI G (ma 29) 16 (mR z0), xI G (ma 30) 80 (mS z0), xZ G (ma 11) 16 urg, xI G (ma 14) 16 bfrom, xI G (ma 15) 16 bto, xI G (ma 18) 4 rh] := hD
  obtain ⟨H, hH⟩ : ∃ z, z = s.heap := ⟨_, rfl⟩
  obtain ⟨locs, hlocs⟩ : ∃ z : List Loc, z = [] := ⟨_, rfl⟩
  have hS : va_S A s.heap H locs := by rw [hH, hlocs]; exact hS
  have hP : va_P (xD G) vwCl [oModel mA ma (nI nc) (nI n) pac opac rpac alike (nI (mK z0)) (mE z0) (mM z0) (mV z0) (nI (mH z0)) fresh bup bsum, xI G (ma 21) 16 (mP z0), xI G (ma 22) 16 (mL z0), xZ G (ma 23) 16 (mT z0), xI G (ma 24) 16 (mN z0), xI G (ma 25) 16 (mX z0), xZ G (ma 26) 16 (mB z0), xI G (ma 27) 16 (mD z0), xZ G (ma 28) 16 (mW z0), xI G (ma 29) 16 (mR z0), xI G (ma 30) 80 (mS z0), xZ G (ma 11) 16 urg, xI G (ma 14) 16 bfrom, xI G (ma 15) 16 bto, xI G (ma 18) 4 rh] H := by rw [hH]; exact hP
  rw [← hH, ← hlocs]
  clear hH hlocs
  refine lv_aload_n hx hb dX5_work_0 rfl (lv_at hl 0 rfl) ?_
  refine va_get (D := xD G) (ci := 5) (v := .ref (ma 18)) (C := RX5) (T := TX5) (N := 42) hx hb hts inX5 hown hK hP 0 rfl rfl 18 (by decide) kl63 (fun _ h9 => h9) rfl dX5_work_1 ?_
  refine lv_iload_n hx hb dX5_work_4 rfl (lv_at hl 1 rfl) ?_
  refine x_iald (i := k0) hx hb hK hP 14 rfl (by first | omega | assumption) (by omega) dX5_work_5 ?_
  refine lv_istore_n (lv' := [(3, .int (rh k0)), (0, .ref mA), (1, .int (nI k0)), (2, .int v)]) hx hb dX5_work_6 rfl hl (by decide) rfl (fun ls hl => ?_)
  refine lv_iconst (v := 1) hx hb dX5_work_7 (by decide) ?_
  refine lv_istore (lv' := [(4, .int 1), (3, .int (rh k0)), (0, .ref mA), (1, .int (nI k0)), (2, .int v)]) hx hb dX5_work_8 hl (by decide) rfl (fun ls hl => ?_)
  have L10 : ∀ (j : Nat) (z1 : RS) (un : Int32), j ≤ 2 → (wkJ urg bfrom bto n nc alike rpac v k0 j z1 un = wkJ urg bfrom bto n nc alike rpac v k0 2 z0 (rh k0)) → ∀ (H : Heap) (locs : List Loc), va_P (xD G) vwCl [oModel mA ma (nI nc) (nI n) pac opac rpac alike (nI (mK z1)) (mE z1) (mM z1) (mV z1) (nI (mH z1)) fresh bup bsum, xI G (ma 21) 16 (mP z1), xI G (ma 22) 16 (mL z1), xZ G (ma 23) 16 (mT z1), xI G (ma 24) 16 (mN z1), xI G (ma 25) 16 (mX z1), xZ G (ma 26) 16 (mB z1), xI G (ma 27) 16 (mD z1), xZ G (ma 28) 16 (mW z1), xI G (ma 29) 16 (mR z1), xI G (ma 30) 80 (mS z1), xZ G (ma 11) 16 urg, xI G (ma 14) 16 bfrom, xI G (ma 15) 16 bto, xI G (ma 18) 4 rh] H → va_D A [oModel mA ma (nI nc) (nI n) pac opac rpac alike (nI (mK z1)) (mE z1) (mM z1) (mV z1) (nI (mH z1)) fresh bup bsum, xI G (ma 21) 16 (mP z1), xI G (ma 22) 16 (mL z1), xZ G (ma 23) 16 (mT z1), xI G (ma 24) 16 (mN z1), xI G (ma 25) 16 (mX z1), xZ G (ma 26) 16 (mB z1), xI G (ma 27) 16 (mD z1), xZ G (ma 28) 16 (mW z1), xI G (ma 29) 16 (mR z1), xI G (ma 30) 80 (mS z1), xZ G (ma 11) 16 urg, xI G (ma 14) 16 bfrom, xI G (ma 15) 16 bto, xI G (ma 18) 4 rh] → va_S A s.heap H locs → ∀ (ls : Array Slot), lv_has ls 8 [(4, .int (dn j)), (3, .int un), (0, .ref mA), (1, .int (nI k0)), (2, .int v)] → W p l e ({ frames := 2, cells := 0, slots := 0, locals := 47 } : Room) s m #[Value.ref mA, Value.int (nI k0), Value.int v] below meth cO H locs 0 0 Q (F0 m 10 ls []) := by
    intro j
    induction j with
    | zero =>
      intro z1 un hi10 es H locs hP hD hS ls hl
      have hl : lv_has ls 8 [(4, .int (-1)), (3, .int un), (0, .ref mA), (1, .int (nI k0)), (2, .int v)] := hl
      refine lv_iload hx hb dX5_work_10 (lv_at hl 0 rfl) ?_
      refine lv_if_lt (x := (-1)) (tgt := 151) hx hb dX5_work_12 (by decide) (fun c12 => ?_) (fun c12 => ?_)
      · skip
        have eF : wkF urg bfrom bto rh n nc alike rpac v k0 z0 = z1 := (congrArg Prod.fst es).symm
        rw [eF] at hq
        exact hq H locs 151 ls dX5_work_151 (by skip; exact hP) (by skip; exact hD) hS
      · skip
        exact absurd c12 (by decide)
    | succ j ih10 =>
      intro z1 un hi10 es H locs hP hD hS ls hl
      have hl : lv_has ls 8 [(4, .int (nI j)), (3, .int un), (0, .ref mA), (1, .int (nI k0)), (2, .int v)] := hl
      refine lv_iload hx hb dX5_work_10 (lv_at hl 0 rfl) ?_
      refine lv_if_lt (x := nI j) (tgt := 151) hx hb dX5_work_12 (by decide) (fun c12 => ?_) (fun c12 => ?_)
      · skip
        exact absurd c12 (nI_pos (by omega))
      · skip
        refine lv_aload_n hx hb dX5_work_15 rfl (lv_at hl 2 rfl) ?_
        refine lv_iload_n hx hb dX5_work_16 rfl (lv_at hl 3 rfl) ?_
        refine lv_iload hx hb dX5_work_17 (lv_at hl 0 rfl) ?_
        refine x_top (y := b2 (decide (j = 1) = true)) (nI_b2 (by omega)) ?_
        refine lv_iconst (v := (-1)) hx hb dX5_work_19 (by decide) ?_
        refine x_callR (As := [.int (nI k0), .int (b2 (decide (j = 1) = true)), .int (-1)]) (rest := []) (ci := 5) (q0 := 0) ⟨hx, hb, hml, hown, hts⟩ (mX5_nextWork l G mA ma (nI nc) n pac opac rpac alike (nI (mK z1)) (mE z1) (mM z1) (mV z1) (nI (mH z1)) fresh bup bsum (mP z1) (mT z1) (mX z1) urg k0 (decide (j = 1)) (-1) (by first | assumption | omega) (by first | assumption | omega)) (cwV 3 hts gX5_work_X5_nextWork rfl rfl rfl (by decide +kernel) ⟨Nat.le_of_ble_eq_true rfl, Nat.le_of_ble_eq_true rfl⟩) hK hP hD [0, 1, 3, 5, 11] rfl rfl rfl rfl rfl rfl rfl hl.1 rfl (Nat.le_of_ble_eq_true rfl) dX5_work_20 ⟨Nat.zero_le _, Nat.zero_le _⟩ (fun r hr => ?_)
        subst hr
        refine lv_istore (lv' := [(5, .int (dn (nwN urg n alike (mP z1) (mT z1) (mX z1) k0 (decide (j = 1)) (-1)))), (4, .int (nI j)), (3, .int un), (0, .ref mA), (1, .int (nI k0)), (2, .int v)]) hx hb dX5_work_23 hl (by decide) rfl (fun ls hl => ?_)
        have L25 : ∀ (kk25 : Nat) (z2 : RS) (u2 : Int32) (bh2 : Int32) (x : Nat), (x = nwN urg n alike (mP z2) (mT z2) (mX z2) k0 (decide (j = 1)) bh2) → (wkL urg bfrom bto n nc alike v rpac k0 (decide (j = 1)) kk25 z2 u2 bh2 = wkL urg bfrom bto n nc alike v rpac k0 (decide (j = 1)) 17 z1 un (-1)) → (bhC n (mX z2) bh2 < kk25) → ∀ (H : Heap) (locs : List Loc), va_P (xD G) vwCl [oModel mA ma (nI nc) (nI n) pac opac rpac alike (nI (mK z2)) (mE z2) (mM z2) (mV z2) (nI (mH z2)) fresh bup bsum, xI G (ma 21) 16 (mP z2), xI G (ma 22) 16 (mL z2), xZ G (ma 23) 16 (mT z2), xI G (ma 24) 16 (mN z2), xI G (ma 25) 16 (mX z2), xZ G (ma 26) 16 (mB z2), xI G (ma 27) 16 (mD z2), xZ G (ma 28) 16 (mW z2), xI G (ma 29) 16 (mR z2), xI G (ma 30) 80 (mS z2), xZ G (ma 11) 16 urg, xI G (ma 14) 16 bfrom, xI G (ma 15) 16 bto, xI G (ma 18) 4 rh] H → va_D A [oModel mA ma (nI nc) (nI n) pac opac rpac alike (nI (mK z2)) (mE z2) (mM z2) (mV z2) (nI (mH z2)) fresh bup bsum, xI G (ma 21) 16 (mP z2), xI G (ma 22) 16 (mL z2), xZ G (ma 23) 16 (mT z2), xI G (ma 24) 16 (mN z2), xI G (ma 25) 16 (mX z2), xZ G (ma 26) 16 (mB z2), xI G (ma 27) 16 (mD z2), xZ G (ma 28) 16 (mW z2), xI G (ma 29) 16 (mR z2), xI G (ma 30) 80 (mS z2), xZ G (ma 11) 16 urg, xI G (ma 14) 16 bfrom, xI G (ma 15) 16 bto, xI G (ma 18) 4 rh] → va_S A s.heap H locs → ∀ (ls : Array Slot), lv_has ls 8 [(5, .int (dn x)), (4, .int (nI j)), (3, .int u2), (0, .ref mA), (1, .int (nI k0)), (2, .int v)] → W p l e ({ frames := 2, cells := 0, slots := 0, locals := 47 } : Room) s m #[Value.ref mA, Value.int (nI k0), Value.int v] below meth cO H locs 0 0 Q (F0 m 25 ls []) := by
          intro kk25
          induction kk25 with
          | zero => intro z2 u2 bh2 x ex es2 hr; exact absurd hr (Nat.not_lt_zero _)
          | succ kk25 ih25 =>
            intro z2 u2 bh2 x ex es2 hr H locs hP hD hS ls hl
            refine lv_iload hx hb dX5_work_25 (lv_at hl 0 rfl) ?_
            refine lv_if_lt (x := dn x) (tgt := 145) hx hb dX5_work_27 (by decide) (fun c27 => ?_) (fun c27 => ?_)
            · skip
              have hx0 : x = 0 := (dn_neg (by rw [ex]; have := slN_le (fun b => nwP urg alike (mP z2) (mT z2) (mX z2) k0 (decide (j = 1)) bh2 b) (fun a b => ¬ mX z2 b ≤ mX z2 a) n; unfold nwN; omega)).mp c27
              have eL : wkL urg bfrom bto n nc alike v rpac k0 (decide (j = 1)) 17 z1 un (-1) = (z2, u2) := by rw [← es2]; exact if_pos (by rw [← ex]; exact hx0)
              refine lv_iinc (v := dn j) (lv' := [(4, .int (dn j)), (5, .int (dn x)), (3, .int u2), (0, .ref mA), (1, .int (nI k0)), (2, .int v)]) hx hb dX5_work_145 hl (k := 1) rfl (dn_m1 j) (by decide) rfl (fun ls hl => ?_)
              refine lv_goto (tgt := 10) hx hb dX5_work_148 (by decide) ?_
              exact ih10 z2 u2 (by omega) (by rw [← es]; show _ = wkJ urg bfrom bto n nc alike rpac v k0 j (wkL urg bfrom bto n nc alike v rpac k0 (decide (j = 1)) 17 z1 un (-1)).1 (wkL urg bfrom bto n nc alike v rpac k0 (decide (j = 1)) 17 z1 un (-1)).2; rw [eL]) H locs hP hD hS ls (lv_sub hl [0, 2, 3, 4, 5] rfl)
            · skip
              have hxn : x ≤ n := by rw [ex]; exact slN_le _ _ n
              have hx0 : ¬ x = 0 := fun q => c27 ((dn_neg (by omega)).mpr q)
              obtain ⟨y, rfl⟩ : ∃ y, x = y + 1 := ⟨x - 1, by omega⟩
              have hl : lv_has ls 8 [(5, .int (nI y)), (4, .int (nI j)), (3, .int u2), (0, .ref mA), (1, .int (nI k0)), (2, .int v)] := hl
              have hnw := slN_P _ _ n y (show slN (fun b => nwP urg alike (mP z2) (mT z2) (mX z2) k0 (decide (j = 1)) bh2 b) (fun a b => ¬ mX z2 b ≤ mX z2 a) n = y + 1 from ex.symm)
              have hy : y < n := by omega
              refine lv_aload_n hx hb dX5_work_30 rfl (lv_at hl 3 rfl) ?_
              refine va_get (D := xD G) (ci := 5) (v := .ref (ma 25)) (C := RX5) (T := TX5) (N := 42) hx hb hts inX5 hown hK hP 0 rfl rfl 25 (by decide) kl78 (fun _ h9 => h9) rfl dX5_work_31 ?_
              refine lv_iload hx hb dX5_work_34 (lv_at hl 0 rfl) ?_
              refine x_iald (i := y) hx hb hK hP 5 rfl (by first | omega | assumption) (by omega) dX5_work_36 ?_
              refine lv_istore (lv' := [(6, .int ((mX z2) y)), (5, .int (nI y)), (4, .int (nI j)), (3, .int u2), (0, .ref mA), (1, .int (nI k0)), (2, .int v)]) hx hb dX5_work_37 hl (by decide) rfl (fun ls hl => ?_)
              refine x_cut (g1 := F0 m 61 ls [.int (mnU (mL z2 y) u2)]) ?_ (fun J61 => ?_)
              · skip
                refine lv_istore (lv' := [(7, .int (mnU (mL z2 y) u2)), (6, .int ((mX z2) y)), (5, .int (nI y)), (4, .int (nI j)), (3, .int u2), (0, .ref mA), (1, .int (nI k0)), (2, .int v)]) hx hb dX5_work_61 hl (by decide) rfl (fun ls hl => ?_)
                refine x_cut (g1 := F0 m 81 ls [.int (wkU rpac z2 u2 y)]) ?_ (fun J81 => ?_)
                · skip
                  refine lv_istore (lv' := [(7, .int (wkU rpac z2 u2 y)), (6, .int ((mX z2) y)), (5, .int (nI y)), (4, .int (nI j)), (3, .int u2), (0, .ref mA), (1, .int (nI k0)), (2, .int v)]) hx hb dX5_work_81 hl (by decide) rfl (fun ls hl => ?_)
                  refine lv_aload_n hx hb dX5_work_83 rfl (lv_at hl 5 rfl) ?_
                  refine va_get (D := xD G) (ci := 5) (v := .ref (ma 22)) (C := RX5) (T := TX5) (N := 42) hx hb hts inX5 hown hK hP 0 rfl rfl 22 (by decide) kl69 (fun _ h9 => h9) rfl dX5_work_84 ?_
                  refine lv_iload hx hb dX5_work_87 (lv_at hl 2 rfl) ?_
                  refine lv_dup2_11 hx hb dX5_work_89 rfl rfl ?_
                  refine x_iald (i := y) hx hb hK hP 2 rfl (by first | omega | assumption) (by omega) dX5_work_90 ?_
                  refine lv_iload hx hb dX5_work_91 (lv_at hl 0 rfl) ?_
                  refine lv_isub hx hb dX5_work_93 ?_
                  refine x_iast (i := y) hx hb hK hP hD hS 2 rfl (by first | omega | assumption) (by omega) dX5_work_94 (fun H locs hP hD hS => ?_)
                  have hP : va_P (xD G) vwCl [oModel mA ma (nI nc) (nI n) pac opac rpac alike (nI (mK z2)) (mE z2) (mM z2) (mV z2) (nI (mH z2)) fresh bup bsum, xI G (ma 21) 16 (mP z2), xI G (ma 22) 16 (upd (mL z2) y (((mL z2) y) - (wkU rpac z2 u2 y))), xZ G (ma 23) 16 (mT z2), xI G (ma 24) 16 (mN z2), xI G (ma 25) 16 (mX z2), xZ G (ma 26) 16 (mB z2), xI G (ma 27) 16 (mD z2), xZ G (ma 28) 16 (mW z2), xI G (ma 29) 16 (mR z2), xI G (ma 30) 80 (mS z2), xZ G (ma 11) 16 urg, xI G (ma 14) 16 bfrom, xI G (ma 15) 16 bto, xI G (ma 18) 4 rh] H := hP
                  have hD : va_D A [oModel mA ma (nI nc) (nI n) pac opac rpac alike (nI (mK z2)) (mE z2) (mM z2) (mV z2) (nI (mH z2)) fresh bup bsum, xI G (ma 21) 16 (mP z2), xI G (ma 22) 16 (upd (mL z2) y (((mL z2) y) - (wkU rpac z2 u2 y))), xZ G (ma 23) 16 (mT z2), xI G (ma 24) 16 (mN z2), xI G (ma 25) 16 (mX z2), xZ G (ma 26) 16 (mB z2), xI G (ma 27) 16 (mD z2), xZ G (ma 28) 16 (mW z2), xI G (ma 29) 16 (mR z2), xI G (ma 30) 80 (mS z2), xZ G (ma 11) 16 urg, xI G (ma 14) 16 bfrom, xI G (ma 15) 16 bto, xI G (ma 18) 4 rh] := hD
                  refine lv_iload_n hx hb dX5_work_95 rfl (lv_at hl 4 rfl) ?_
                  refine lv_iload hx hb dX5_work_96 (lv_at hl 0 rfl) ?_
                  refine lv_isub hx hb dX5_work_98 ?_
                  refine lv_istore_n (lv' := [(3, .int (u2 - (wkU rpac z2 u2 y))), (7, .int (wkU rpac z2 u2 y)), (6, .int ((mX z2) y)), (5, .int (nI y)), (4, .int (nI j)), (0, .ref mA), (1, .int (nI k0)), (2, .int v)]) hx hb dX5_work_99 rfl hl (by decide) rfl (fun ls hl => ?_)
                  refine lv_iload hx hb dX5_work_100 (lv_at hl 1 rfl) ?_
                  refine lv_if_le (x := wkU rpac z2 u2 y) (tgt := 113) hx hb dX5_work_102 (by decide) (fun c102 => ?_) (fun c102 => ?_)
                  · skip
                    refine lv_aload_n hx hb dX5_work_113 rfl (lv_at hl 5 rfl) ?_
                    refine va_get (D := xD G) (ci := 5) (v := .ref (ma 22)) (C := RX5) (T := TX5) (N := 42) hx hb hts inX5 hown hK hP 0 rfl rfl 22 (by decide) kl69 (fun _ h9 => h9) rfl dX5_work_114 ?_
                    refine lv_iload hx hb dX5_work_117 (lv_at hl 3 rfl) ?_
                    refine x_iald (i := y) hx hb hK hP 2 rfl (by first | omega | assumption) (by omega) dX5_work_119 ?_
                    refine lv_if_ne (x := (upd (mL z2) y (((mL z2) y) - (wkU rpac z2 u2 y))) y) (tgt := 131) hx hb dX5_work_120 (by decide) (fun c120 => ?_) (fun c120 => ?_)
                    · skip
                      refine lv_aload_n hx hb dX5_work_131 rfl (lv_at hl 5 rfl) ?_
                      refine lv_iload_n hx hb dX5_work_132 rfl (lv_at hl 6 rfl) ?_
                      refine lv_iload hx hb dX5_work_133 (lv_at hl 4 rfl) ?_
                      refine x_top (y := b2 (decide (j = 1) = true)) (nI_b2 (by omega)) ?_
                      refine lv_iload hx hb dX5_work_135 (lv_at hl 2 rfl) ?_
                      refine x_callR (As := [.int (nI k0), .int (b2 (decide (j = 1) = true)), .int ((mX z2) y)]) (rest := []) (ci := 5) (q0 := 0) ⟨hx, hb, hml, hown, hts⟩ (mX5_nextWork l G mA ma (nI nc) n pac opac rpac alike (nI (mK z2)) (mE z2) (mM z2) (mV z2) (nI (mH z2)) fresh bup bsum (mP z2) (mT z2) (mX z2) urg k0 (decide (j = 1)) ((mX z2) y) (by first | assumption | omega) (by first | assumption | omega)) (cwV 3 hts gX5_work_X5_nextWork rfl rfl rfl (by decide +kernel) ⟨Nat.le_of_ble_eq_true rfl, Nat.le_of_ble_eq_true rfl⟩) hK hP hD [0, 1, 3, 5, 11] rfl rfl rfl rfl rfl rfl rfl hl.1 rfl (Nat.le_of_ble_eq_true rfl) dX5_work_137 ⟨Nat.zero_le _, Nat.zero_le _⟩ (fun r hr => ?_)
                      subst hr
                      refine lv_istore (lv' := [(5, .int (dn (nwN urg n alike (mP z2) (mT z2) (mX z2) k0 (decide (j = 1)) ((mX z2) y)))), (3, .int (u2 - (wkU rpac z2 u2 y))), (7, .int (wkU rpac z2 u2 y)), (6, .int ((mX z2) y)), (4, .int (nI j)), (0, .ref mA), (1, .int (nI k0)), (2, .int v)]) hx hb dX5_work_140 hl (by decide) rfl (fun ls hl => ?_)
                      refine lv_goto (tgt := 25) hx hb dX5_work_142 (by decide) ?_
                      have e2 : wk2 rpac z2 u2 y = zlF z2 y (wkU rpac z2 u2 y) := if_pos c102
                      have eW : wk1 bfrom bto nc v rpac z2 u2 y k0 = zlF z2 y (wkU rpac z2 u2 y) := by unfold wk1; rw [e2]; exact if_neg c120
                      exact ih25 (zlF z2 y (wkU rpac z2 u2 y)) (u2 - wkU rpac z2 u2 y) (mX z2 y) (nwN urg n alike (mP z2) (mT z2) (mX z2) k0 (decide (j = 1)) ((mX z2) y)) (rfl) (by rw [← eW, ← es2]; exact (wkL_s ex.symm).symm) (by rw [← eW, wk1_X]; have := bhC_lt hy hnw.2.2.2; omega) H locs hP hD hS ls (lv_sub hl [0, 4, 1, 5, 6, 7] rfl)
                    · skip
                      refine lv_aload_n hx hb dX5_work_123 rfl (lv_at hl 5 rfl) ?_
                      refine lv_iload hx hb dX5_work_124 (lv_at hl 3 rfl) ?_
                      refine lv_iload_n hx hb dX5_work_126 rfl (lv_at hl 6 rfl) ?_
                      refine lv_iload_n hx hb dX5_work_127 rfl (lv_at hl 7 rfl) ?_
                      refine x_callM (As := [.int (nI y), .int (nI k0), .int v]) (rest := []) (w2 := [oModel mA ma (nI nc) (nI n) pac opac rpac alike (nI (mK (thM bfrom bto nc v (zlF z2 y (wkU rpac z2 u2 y)) y k0))) (mE (thM bfrom bto nc v (zlF z2 y (wkU rpac z2 u2 y)) y k0)) (mM (thM bfrom bto nc v (zlF z2 y (wkU rpac z2 u2 y)) y k0)) (mV (thM bfrom bto nc v (zlF z2 y (wkU rpac z2 u2 y)) y k0)) (nI (mH (thM bfrom bto nc v (zlF z2 y (wkU rpac z2 u2 y)) y k0))) fresh bup bsum, xI G (ma 21) 16 (mP (thM bfrom bto nc v (zlF z2 y (wkU rpac z2 u2 y)) y k0)), xI G (ma 22) 16 (mL (thM bfrom bto nc v (zlF z2 y (wkU rpac z2 u2 y)) y k0)), xZ G (ma 23) 16 (mT (thM bfrom bto nc v (zlF z2 y (wkU rpac z2 u2 y)) y k0)), xI G (ma 24) 16 (mN (thM bfrom bto nc v (zlF z2 y (wkU rpac z2 u2 y)) y k0)), xI G (ma 25) 16 (mX (thM bfrom bto nc v (zlF z2 y (wkU rpac z2 u2 y)) y k0)), xZ G (ma 26) 16 (mB (thM bfrom bto nc v (zlF z2 y (wkU rpac z2 u2 y)) y k0)), xI G (ma 27) 16 (mD (thM bfrom bto nc v (zlF z2 y (wkU rpac z2 u2 y)) y k0)), xZ G (ma 28) 16 (mW (thM bfrom bto nc v (zlF z2 y (wkU rpac z2 u2 y)) y k0)), xI G (ma 29) 16 (mR (thM bfrom bto nc v (zlF z2 y (wkU rpac z2 u2 y)) y k0)), xI G (ma 30) 80 (mS (thM bfrom bto nc v (zlF z2 y (wkU rpac z2 u2 y)) y k0)), xZ G (ma 11) 16 urg, xI G (ma 14) 16 bfrom, xI G (ma 15) 16 bto, xI G (ma 18) 4 rh]) (wr := [xZ G (ma 11) 16 urg, xI G (ma 18) 4 rh]) (ci := 5) (q0 := 0) ⟨hx, hb, hml, hown, hts⟩ (mX5_through l G mA ma nc n pac opac rpac alike (zlF z2 y (wkU rpac z2 u2 y)) fresh bup bsum bfrom bto y k0 v (by first | assumption | omega) (by first | assumption | omega)) (cwV 3 hts gX5_work_X5_through rfl rfl rfl (by decide +kernel) ⟨Nat.le_of_ble_eq_true rfl, Nat.le_of_ble_eq_true rfl⟩) hK hP hD hS hA [0, 1, 2, 3, 4, 5, 6, 7, 8, 9, 10, 12, 13] [11, 14] [2, 3, 4, 5, 6, 7, 8, 9, 10, 11, 12, 0, 13, 14, 1] rfl rfl rfl rfl rfl (by decide) rfl rfl rfl rfl rfl rfl rfl hl.1 rfl (Nat.le_of_ble_eq_true rfl) dX5_work_128 ⟨Nat.zero_le _, Nat.zero_le _⟩ (fun H locs hP hD hS => ?_)
                      refine lv_aload_n hx hb dX5_work_131 rfl (lv_at hl 5 rfl) ?_
                      refine lv_iload_n hx hb dX5_work_132 rfl (lv_at hl 6 rfl) ?_
                      refine lv_iload hx hb dX5_work_133 (lv_at hl 4 rfl) ?_
                      refine x_top (y := b2 (decide (j = 1) = true)) (nI_b2 (by omega)) ?_
                      refine lv_iload hx hb dX5_work_135 (lv_at hl 2 rfl) ?_
                      refine x_callR (As := [.int (nI k0), .int (b2 (decide (j = 1) = true)), .int ((mX z2) y)]) (rest := []) (ci := 5) (q0 := 0) ⟨hx, hb, hml, hown, hts⟩ (mX5_nextWork l G mA ma (nI nc) n pac opac rpac alike (nI (mK (thM bfrom bto nc v (zlF z2 y (wkU rpac z2 u2 y)) y k0))) (mE (thM bfrom bto nc v (zlF z2 y (wkU rpac z2 u2 y)) y k0)) (mM (thM bfrom bto nc v (zlF z2 y (wkU rpac z2 u2 y)) y k0)) (mV (thM bfrom bto nc v (zlF z2 y (wkU rpac z2 u2 y)) y k0)) (nI (mH (thM bfrom bto nc v (zlF z2 y (wkU rpac z2 u2 y)) y k0))) fresh bup bsum (mP (thM bfrom bto nc v (zlF z2 y (wkU rpac z2 u2 y)) y k0)) (mT (thM bfrom bto nc v (zlF z2 y (wkU rpac z2 u2 y)) y k0)) (mX (thM bfrom bto nc v (zlF z2 y (wkU rpac z2 u2 y)) y k0)) urg k0 (decide (j = 1)) ((mX z2) y) (by first | assumption | omega) (by first | assumption | omega)) (cwV 3 hts gX5_work_X5_nextWork rfl rfl rfl (by decide +kernel) ⟨Nat.le_of_ble_eq_true rfl, Nat.le_of_ble_eq_true rfl⟩) hK hP hD [0, 1, 3, 5, 11] rfl rfl rfl rfl rfl rfl rfl hl.1 rfl (Nat.le_of_ble_eq_true rfl) dX5_work_137 ⟨Nat.zero_le _, Nat.zero_le _⟩ (fun r hr => ?_)
                      subst hr
                      refine lv_istore (lv' := [(5, .int (dn (nwN urg n alike (mP (thM bfrom bto nc v (zlF z2 y (wkU rpac z2 u2 y)) y k0)) (mT (thM bfrom bto nc v (zlF z2 y (wkU rpac z2 u2 y)) y k0)) (mX (thM bfrom bto nc v (zlF z2 y (wkU rpac z2 u2 y)) y k0)) k0 (decide (j = 1)) ((mX z2) y)))), (3, .int (u2 - (wkU rpac z2 u2 y))), (7, .int (wkU rpac z2 u2 y)), (6, .int ((mX z2) y)), (4, .int (nI j)), (0, .ref mA), (1, .int (nI k0)), (2, .int v)]) hx hb dX5_work_140 hl (by decide) rfl (fun ls hl => ?_)
                      refine lv_goto (tgt := 25) hx hb dX5_work_142 (by decide) ?_
                      have e2 : wk2 rpac z2 u2 y = zlF z2 y (wkU rpac z2 u2 y) := if_pos c102
                      have eW : wk1 bfrom bto nc v rpac z2 u2 y k0 = thM bfrom bto nc v (zlF z2 y (wkU rpac z2 u2 y)) y k0 := by unfold wk1; rw [e2]; exact if_pos c120
                      exact ih25 (thM bfrom bto nc v (zlF z2 y (wkU rpac z2 u2 y)) y k0) (u2 - wkU rpac z2 u2 y) (mX z2 y) (nwN urg n alike (mP (thM bfrom bto nc v (zlF z2 y (wkU rpac z2 u2 y)) y k0)) (mT (thM bfrom bto nc v (zlF z2 y (wkU rpac z2 u2 y)) y k0)) (mX (thM bfrom bto nc v (zlF z2 y (wkU rpac z2 u2 y)) y k0)) k0 (decide (j = 1)) ((mX z2) y)) (rfl) (by rw [← eW, ← es2]; exact (wkL_s ex.symm).symm) (by rw [← eW, wk1_X]; have := bhC_lt hy hnw.2.2.2; omega) H locs hP hD hS ls (lv_sub hl [0, 4, 1, 5, 6, 7] rfl)
                  · skip
                    refine lv_aload_n hx hb dX5_work_105 rfl (lv_at hl 5 rfl) ?_
                    refine va_get (D := xD G) (ci := 5) (v := .ref (ma 28)) (C := RX5) (T := TX5) (N := 42) hx hb hts inX5 hown hK hP 0 rfl rfl 28 (by decide) kl87 (fun _ h9 => h9) rfl dX5_work_106 ?_
                    refine lv_iload hx hb dX5_work_109 (lv_at hl 3 rfl) ?_
                    refine lv_iconst (v := 1) hx hb dX5_work_111 (by decide) ?_
                    refine x_zast (i := y) hx hb hK hP hD hS 8 rfl (by first | omega | assumption) (by omega) rfl dX5_work_112 (fun H locs hP hD hS => ?_)
                    have hP : va_P (xD G) vwCl [oModel mA ma (nI nc) (nI n) pac opac rpac alike (nI (mK z2)) (mE z2) (mM z2) (mV z2) (nI (mH z2)) fresh bup bsum, xI G (ma 21) 16 (mP z2), xI G (ma 22) 16 (upd (mL z2) y (((mL z2) y) - (wkU rpac z2 u2 y))), xZ G (ma 23) 16 (mT z2), xI G (ma 24) 16 (mN z2), xI G (ma 25) 16 (mX z2), xZ G (ma 26) 16 (mB z2), xI G (ma 27) 16 (mD z2), xZ G (ma 28) 16 (upd (mW z2) y 1), xI G (ma 29) 16 (mR z2), xI G (ma 30) 80 (mS z2), xZ G (ma 11) 16 urg, xI G (ma 14) 16 bfrom, xI G (ma 15) 16 bto, xI G (ma 18) 4 rh] H := hP
                    have hD : va_D A [oModel mA ma (nI nc) (nI n) pac opac rpac alike (nI (mK z2)) (mE z2) (mM z2) (mV z2) (nI (mH z2)) fresh bup bsum, xI G (ma 21) 16 (mP z2), xI G (ma 22) 16 (upd (mL z2) y (((mL z2) y) - (wkU rpac z2 u2 y))), xZ G (ma 23) 16 (mT z2), xI G (ma 24) 16 (mN z2), xI G (ma 25) 16 (mX z2), xZ G (ma 26) 16 (mB z2), xI G (ma 27) 16 (mD z2), xZ G (ma 28) 16 (upd (mW z2) y 1), xI G (ma 29) 16 (mR z2), xI G (ma 30) 80 (mS z2), xZ G (ma 11) 16 urg, xI G (ma 14) 16 bfrom, xI G (ma 15) 16 bto, xI G (ma 18) 4 rh] := hD
                    refine lv_aload_n hx hb dX5_work_113 rfl (lv_at hl 5 rfl) ?_
                    refine va_get (D := xD G) (ci := 5) (v := .ref (ma 22)) (C := RX5) (T := TX5) (N := 42) hx hb hts inX5 hown hK hP 0 rfl rfl 22 (by decide) kl69 (fun _ h9 => h9) rfl dX5_work_114 ?_
                    refine lv_iload hx hb dX5_work_117 (lv_at hl 3 rfl) ?_
                    refine x_iald (i := y) hx hb hK hP 2 rfl (by first | omega | assumption) (by omega) dX5_work_119 ?_
                    refine lv_if_ne (x := (upd (mL z2) y (((mL z2) y) - (wkU rpac z2 u2 y))) y) (tgt := 131) hx hb dX5_work_120 (by decide) (fun c120 => ?_) (fun c120 => ?_)
                    · skip
                      refine lv_aload_n hx hb dX5_work_131 rfl (lv_at hl 5 rfl) ?_
                      refine lv_iload_n hx hb dX5_work_132 rfl (lv_at hl 6 rfl) ?_
                      refine lv_iload hx hb dX5_work_133 (lv_at hl 4 rfl) ?_
                      refine x_top (y := b2 (decide (j = 1) = true)) (nI_b2 (by omega)) ?_
                      refine lv_iload hx hb dX5_work_135 (lv_at hl 2 rfl) ?_
                      refine x_callR (As := [.int (nI k0), .int (b2 (decide (j = 1) = true)), .int ((mX z2) y)]) (rest := []) (ci := 5) (q0 := 0) ⟨hx, hb, hml, hown, hts⟩ (mX5_nextWork l G mA ma (nI nc) n pac opac rpac alike (nI (mK z2)) (mE z2) (mM z2) (mV z2) (nI (mH z2)) fresh bup bsum (mP z2) (mT z2) (mX z2) urg k0 (decide (j = 1)) ((mX z2) y) (by first | assumption | omega) (by first | assumption | omega)) (cwV 3 hts gX5_work_X5_nextWork rfl rfl rfl (by decide +kernel) ⟨Nat.le_of_ble_eq_true rfl, Nat.le_of_ble_eq_true rfl⟩) hK hP hD [0, 1, 3, 5, 11] rfl rfl rfl rfl rfl rfl rfl hl.1 rfl (Nat.le_of_ble_eq_true rfl) dX5_work_137 ⟨Nat.zero_le _, Nat.zero_le _⟩ (fun r hr => ?_)
                      subst hr
                      refine lv_istore (lv' := [(5, .int (dn (nwN urg n alike (mP z2) (mT z2) (mX z2) k0 (decide (j = 1)) ((mX z2) y)))), (3, .int (u2 - (wkU rpac z2 u2 y))), (7, .int (wkU rpac z2 u2 y)), (6, .int ((mX z2) y)), (4, .int (nI j)), (0, .ref mA), (1, .int (nI k0)), (2, .int v)]) hx hb dX5_work_140 hl (by decide) rfl (fun ls hl => ?_)
                      refine lv_goto (tgt := 25) hx hb dX5_work_142 (by decide) ?_
                      have e2 : wk2 rpac z2 u2 y = zdF (zlF z2 y (wkU rpac z2 u2 y)) y := if_neg c102
                      have eW : wk1 bfrom bto nc v rpac z2 u2 y k0 = zdF (zlF z2 y (wkU rpac z2 u2 y)) y := by unfold wk1; rw [e2]; exact if_neg c120
                      exact ih25 (zdF (zlF z2 y (wkU rpac z2 u2 y)) y) (u2 - wkU rpac z2 u2 y) (mX z2 y) (nwN urg n alike (mP z2) (mT z2) (mX z2) k0 (decide (j = 1)) ((mX z2) y)) (rfl) (by rw [← eW, ← es2]; exact (wkL_s ex.symm).symm) (by rw [← eW, wk1_X]; have := bhC_lt hy hnw.2.2.2; omega) H locs hP hD hS ls (lv_sub hl [0, 4, 1, 5, 6, 7] rfl)
                    · skip
                      refine lv_aload_n hx hb dX5_work_123 rfl (lv_at hl 5 rfl) ?_
                      refine lv_iload hx hb dX5_work_124 (lv_at hl 3 rfl) ?_
                      refine lv_iload_n hx hb dX5_work_126 rfl (lv_at hl 6 rfl) ?_
                      refine lv_iload_n hx hb dX5_work_127 rfl (lv_at hl 7 rfl) ?_
                      refine x_callM (As := [.int (nI y), .int (nI k0), .int v]) (rest := []) (w2 := [oModel mA ma (nI nc) (nI n) pac opac rpac alike (nI (mK (thM bfrom bto nc v (zdF (zlF z2 y (wkU rpac z2 u2 y)) y) y k0))) (mE (thM bfrom bto nc v (zdF (zlF z2 y (wkU rpac z2 u2 y)) y) y k0)) (mM (thM bfrom bto nc v (zdF (zlF z2 y (wkU rpac z2 u2 y)) y) y k0)) (mV (thM bfrom bto nc v (zdF (zlF z2 y (wkU rpac z2 u2 y)) y) y k0)) (nI (mH (thM bfrom bto nc v (zdF (zlF z2 y (wkU rpac z2 u2 y)) y) y k0))) fresh bup bsum, xI G (ma 21) 16 (mP (thM bfrom bto nc v (zdF (zlF z2 y (wkU rpac z2 u2 y)) y) y k0)), xI G (ma 22) 16 (mL (thM bfrom bto nc v (zdF (zlF z2 y (wkU rpac z2 u2 y)) y) y k0)), xZ G (ma 23) 16 (mT (thM bfrom bto nc v (zdF (zlF z2 y (wkU rpac z2 u2 y)) y) y k0)), xI G (ma 24) 16 (mN (thM bfrom bto nc v (zdF (zlF z2 y (wkU rpac z2 u2 y)) y) y k0)), xI G (ma 25) 16 (mX (thM bfrom bto nc v (zdF (zlF z2 y (wkU rpac z2 u2 y)) y) y k0)), xZ G (ma 26) 16 (mB (thM bfrom bto nc v (zdF (zlF z2 y (wkU rpac z2 u2 y)) y) y k0)), xI G (ma 27) 16 (mD (thM bfrom bto nc v (zdF (zlF z2 y (wkU rpac z2 u2 y)) y) y k0)), xZ G (ma 28) 16 (mW (thM bfrom bto nc v (zdF (zlF z2 y (wkU rpac z2 u2 y)) y) y k0)), xI G (ma 29) 16 (mR (thM bfrom bto nc v (zdF (zlF z2 y (wkU rpac z2 u2 y)) y) y k0)), xI G (ma 30) 80 (mS (thM bfrom bto nc v (zdF (zlF z2 y (wkU rpac z2 u2 y)) y) y k0)), xZ G (ma 11) 16 urg, xI G (ma 14) 16 bfrom, xI G (ma 15) 16 bto, xI G (ma 18) 4 rh]) (wr := [xZ G (ma 11) 16 urg, xI G (ma 18) 4 rh]) (ci := 5) (q0 := 0) ⟨hx, hb, hml, hown, hts⟩ (mX5_through l G mA ma nc n pac opac rpac alike (zdF (zlF z2 y (wkU rpac z2 u2 y)) y) fresh bup bsum bfrom bto y k0 v (by first | assumption | omega) (by first | assumption | omega)) (cwV 3 hts gX5_work_X5_through rfl rfl rfl (by decide +kernel) ⟨Nat.le_of_ble_eq_true rfl, Nat.le_of_ble_eq_true rfl⟩) hK hP hD hS hA [0, 1, 2, 3, 4, 5, 6, 7, 8, 9, 10, 12, 13] [11, 14] [2, 3, 4, 5, 6, 7, 8, 9, 10, 11, 12, 0, 13, 14, 1] rfl rfl rfl rfl rfl (by decide) rfl rfl rfl rfl rfl rfl rfl hl.1 rfl (Nat.le_of_ble_eq_true rfl) dX5_work_128 ⟨Nat.zero_le _, Nat.zero_le _⟩ (fun H locs hP hD hS => ?_)
                      refine lv_aload_n hx hb dX5_work_131 rfl (lv_at hl 5 rfl) ?_
                      refine lv_iload_n hx hb dX5_work_132 rfl (lv_at hl 6 rfl) ?_
                      refine lv_iload hx hb dX5_work_133 (lv_at hl 4 rfl) ?_
                      refine x_top (y := b2 (decide (j = 1) = true)) (nI_b2 (by omega)) ?_
                      refine lv_iload hx hb dX5_work_135 (lv_at hl 2 rfl) ?_
                      refine x_callR (As := [.int (nI k0), .int (b2 (decide (j = 1) = true)), .int ((mX z2) y)]) (rest := []) (ci := 5) (q0 := 0) ⟨hx, hb, hml, hown, hts⟩ (mX5_nextWork l G mA ma (nI nc) n pac opac rpac alike (nI (mK (thM bfrom bto nc v (zdF (zlF z2 y (wkU rpac z2 u2 y)) y) y k0))) (mE (thM bfrom bto nc v (zdF (zlF z2 y (wkU rpac z2 u2 y)) y) y k0)) (mM (thM bfrom bto nc v (zdF (zlF z2 y (wkU rpac z2 u2 y)) y) y k0)) (mV (thM bfrom bto nc v (zdF (zlF z2 y (wkU rpac z2 u2 y)) y) y k0)) (nI (mH (thM bfrom bto nc v (zdF (zlF z2 y (wkU rpac z2 u2 y)) y) y k0))) fresh bup bsum (mP (thM bfrom bto nc v (zdF (zlF z2 y (wkU rpac z2 u2 y)) y) y k0)) (mT (thM bfrom bto nc v (zdF (zlF z2 y (wkU rpac z2 u2 y)) y) y k0)) (mX (thM bfrom bto nc v (zdF (zlF z2 y (wkU rpac z2 u2 y)) y) y k0)) urg k0 (decide (j = 1)) ((mX z2) y) (by first | assumption | omega) (by first | assumption | omega)) (cwV 3 hts gX5_work_X5_nextWork rfl rfl rfl (by decide +kernel) ⟨Nat.le_of_ble_eq_true rfl, Nat.le_of_ble_eq_true rfl⟩) hK hP hD [0, 1, 3, 5, 11] rfl rfl rfl rfl rfl rfl rfl hl.1 rfl (Nat.le_of_ble_eq_true rfl) dX5_work_137 ⟨Nat.zero_le _, Nat.zero_le _⟩ (fun r hr => ?_)
                      subst hr
                      refine lv_istore (lv' := [(5, .int (dn (nwN urg n alike (mP (thM bfrom bto nc v (zdF (zlF z2 y (wkU rpac z2 u2 y)) y) y k0)) (mT (thM bfrom bto nc v (zdF (zlF z2 y (wkU rpac z2 u2 y)) y) y k0)) (mX (thM bfrom bto nc v (zdF (zlF z2 y (wkU rpac z2 u2 y)) y) y k0)) k0 (decide (j = 1)) ((mX z2) y)))), (3, .int (u2 - (wkU rpac z2 u2 y))), (7, .int (wkU rpac z2 u2 y)), (6, .int ((mX z2) y)), (4, .int (nI j)), (0, .ref mA), (1, .int (nI k0)), (2, .int v)]) hx hb dX5_work_140 hl (by decide) rfl (fun ls hl => ?_)
                      refine lv_goto (tgt := 25) hx hb dX5_work_142 (by decide) ?_
                      have e2 : wk2 rpac z2 u2 y = zdF (zlF z2 y (wkU rpac z2 u2 y)) y := if_neg c102
                      have eW : wk1 bfrom bto nc v rpac z2 u2 y k0 = thM bfrom bto nc v (zdF (zlF z2 y (wkU rpac z2 u2 y)) y) y k0 := by unfold wk1; rw [e2]; exact if_pos c120
                      exact ih25 (thM bfrom bto nc v (zdF (zlF z2 y (wkU rpac z2 u2 y)) y) y k0) (u2 - wkU rpac z2 u2 y) (mX z2 y) (nwN urg n alike (mP (thM bfrom bto nc v (zdF (zlF z2 y (wkU rpac z2 u2 y)) y) y k0)) (mT (thM bfrom bto nc v (zdF (zlF z2 y (wkU rpac z2 u2 y)) y) y k0)) (mX (thM bfrom bto nc v (zdF (zlF z2 y (wkU rpac z2 u2 y)) y) y k0)) k0 (decide (j = 1)) ((mX z2) y)) (rfl) (by rw [← eW, ← es2]; exact (wkL_s ex.symm).symm) (by rw [← eW, wk1_X]; have := bhC_lt hy hnw.2.2.2; omega) H locs hP hD hS ls (lv_sub hl [0, 4, 1, 5, 6, 7] rfl)
                · skip
                  refine lv_iload hx hb dX5_work_63 (lv_at hl 0 rfl) ?_
                  refine lv_aload_n hx hb dX5_work_65 rfl (lv_at hl 5 rfl) ?_
                  refine va_get (D := xD G) (ci := 5) (v := .int rpac) (C := RX5) (T := TX5) (N := 42) hx hb hts inX5 hown hK hP 0 rfl rfl 19 (by decide) kl131 (fun _ h9 => h9) rfl dX5_work_66 ?_
                  refine lv_icmp_ge (x := mnU (mL z2 y) u2) (y := rpac) (tgt := 77) hx hb dX5_work_69 (by decide) (fun c69 => ?_) (fun c69 => ?_)
                  · skip
                    refine lv_aload_n hx hb dX5_work_77 rfl (lv_at hl 5 rfl) ?_
                    refine va_get (D := xD G) (ci := 5) (v := .int rpac) (C := RX5) (T := TX5) (N := 42) hx hb hts inX5 hown hK hP 0 rfl rfl 19 (by decide) kl131 (fun _ h9 => h9) rfl dX5_work_78 ?_
                    exact x_top (show rpac = wkU rpac z2 u2 y from (if_pos c69).symm) J81
                  · skip
                    refine lv_iload hx hb dX5_work_72 (lv_at hl 0 rfl) ?_
                    refine lv_goto (tgt := 81) hx hb dX5_work_74 (by decide) ?_
                    exact x_top (show mnU (mL z2 y) u2 = wkU rpac z2 u2 y from (if_neg c69).symm) J81
              · skip
                refine lv_aload_n hx hb dX5_work_39 rfl (lv_at hl 4 rfl) ?_
                refine va_get (D := xD G) (ci := 5) (v := .ref (ma 22)) (C := RX5) (T := TX5) (N := 42) hx hb hts inX5 hown hK hP 0 rfl rfl 22 (by decide) kl69 (fun _ h9 => h9) rfl dX5_work_40 ?_
                refine lv_iload hx hb dX5_work_43 (lv_at hl 1 rfl) ?_
                refine x_iald (i := y) hx hb hK hP 2 rfl (by first | omega | assumption) (by omega) dX5_work_45 ?_
                refine lv_iload_n hx hb dX5_work_46 rfl (lv_at hl 3 rfl) ?_
                refine lv_icmp_ge (x := (mL z2) y) (y := u2) (tgt := 60) hx hb dX5_work_47 (by decide) (fun c47 => ?_) (fun c47 => ?_)
                · skip
                  refine lv_iload_n hx hb dX5_work_60 rfl (lv_at hl 3 rfl) ?_
                  exact x_top (show u2 = mnU (mL z2 y) u2 from (if_pos c47).symm) J61
                · skip
                  refine lv_aload_n hx hb dX5_work_50 rfl (lv_at hl 4 rfl) ?_
                  refine va_get (D := xD G) (ci := 5) (v := .ref (ma 22)) (C := RX5) (T := TX5) (N := 42) hx hb hts inX5 hown hK hP 0 rfl rfl 22 (by decide) kl69 (fun _ h9 => h9) rfl dX5_work_51 ?_
                  refine lv_iload hx hb dX5_work_54 (lv_at hl 1 rfl) ?_
                  refine x_iald (i := y) hx hb hK hP 2 rfl (by first | omega | assumption) (by omega) dX5_work_56 ?_
                  refine lv_goto (tgt := 61) hx hb dX5_work_57 (by decide) ?_
                  exact x_top (show (mL z2) y = mnU (mL z2 y) u2 from (if_neg c47).symm) J61
        exact L25 17 z1 un (-1) (nwN urg n alike (mP z1) (mT z1) (mX z1) k0 (decide (j = 1)) (-1)) (rfl) (rfl) (by have := bhC_le n (mX z1) (-1); omega) H locs hP hD hS ls (lv_sub hl [0, 1, 2, 3, 4, 5] rfl)
  exact L10 2 z0 (rh k0) (by omega) (rfl) H locs hP hD hS ls (lv_sub hl [0, 1, 2, 3, 4] rfl)
