/-! constructors -/
set_option maxHeartbeats 4000000 in
set_option maxRecDepth 100000 in
theorem mX0_init (l : Launch) (G : xG) (cA : Nat) : xK l yX0_init wsX0_init ({ frames := 1, cells := 7, slots := 160, locals := 12 } : Room) [.ref cA] G [(cA, .inr (0, [.int 0, .int 0, .null, .null, .null, .null, .null, .null, .null]))] (Nat → Nat) (fun u => [oCards cA u 0 0, xI G (u 2) 16 (fun _ => 0), xZ G (u 3) 16 (fun _ => 0), xI G (u 4) 16 (fun _ => 0), xI G (u 5) 16 (fun _ => 0), xI G (u 6) 16 (fun _ => 0), xI G (u 7) 16 (fun _ => 0), xI G (u 8) 64 (fun _ => 0)]) 7 160 := by
  refine xK_of (cc := cX0_init) (maxL := 1) (by decide) rfl (Nat.le_of_ble_eq_true rfl) ?_
  intro p e s m below meth cO ls Q A hx hb hml hown hin hts hP hK hD hS hA hl hq
  have hown : s.vm.findClass RX0 = some m.cls := hown
  have hin : meth.name = "<init>" := hin
  have kl9 := (hts (.fieldLink RX0 9 "WorkBoard$Cards" "day" "[I") (List.mem_of_getElem? (i := 5) rfl))
  have kl15 := (hts (.fieldLink RX0 15 "WorkBoard$Cards" "urgent" "[Z") (List.mem_of_getElem? (i := 7) rfl))
  have kl19 := (hts (.fieldLink RX0 19 "WorkBoard$Cards" "waitsFor" "[I") (List.mem_of_getElem? (i := 8) rfl))
  have kl22 := (hts (.fieldLink RX0 22 "WorkBoard$Cards" "backFrom" "[I") (List.mem_of_getElem? (i := 9) rfl))
  have kl25 := (hts (.fieldLink RX0 25 "WorkBoard$Cards" "backTo" "[I") (List.mem_of_getElem? (i := 10) rfl))
  have kl28 := (hts (.fieldLink RX0 28 "WorkBoard$Cards" "byDay" "[I") (List.mem_of_getElem? (i := 11) rfl))
  have kl31 := (hts (.fieldLink RX0 31 "WorkBoard$Cards" "sizes" "[I") (List.mem_of_getElem? (i := 12) rfl))
  have inX0 : ∀ w ∈ u_ws RX0 TX0 9, w ∈ wsX0_init := (fun w h => List.mem_cons_of_mem _ (List.mem_append_right _ h))
  have hl : lv_has ls 1 [(0, .ref cA)] := hl
  obtain ⟨H, hH⟩ : ∃ z, z = s.heap := ⟨_, rfl⟩
  obtain ⟨locs, hlocs⟩ : ∃ z : List Loc, z = [] := ⟨_, rfl⟩
  have hS : va_S A s.heap H locs := by rw [hH, hlocs]; exact hS
  have hP : va_P (xD G) vwCl [(cA, .inr (0, [.int 0, .int 0, .null, .null, .null, .null, .null, .null, .null]))] H := by rw [hH]; exact hP
  have hD : va_D A [(cA, .inr (0, [.int 0, .int 0, .null, .null, .null, .null, .null, .null, .null]))] := hD
  rw [← hH, ← hlocs]
  clear hH hlocs
  refine lv_aload_n hx hb dX0_init_0 rfl (lv_at hl 0 rfl) ?_
  refine W.objInit hx hb hown (hts (.methodLink RX0 3 objectInit) (List.mem_of_getElem? (i := 1) rfl)) (hts (.instanceMethod objectInit) (List.mem_of_getElem? (i := 2) rfl)) (hts _ (List.mem_of_getElem? (i := 3) rfl)) rfl (by rw [hml]; exact hl.1) rfl dX0_init_1 (Nat.le_of_ble_eq_true rfl) (Nat.le_of_ble_eq_true rfl) ?_
  refine W.eq (g2 := F0 m 4 ls []) rfl ?_
  refine lv_aload_n hx hb dX0_init_4 rfl (lv_at hl 0 rfl) ?_
  refine lv_bipush (v := 16) hx hb dX0_init_5 (by decide) ?_
  refine x_newI hx hb (hts (.arrayClass .int) (List.mem_of_getElem? (i := 4) rfl)) hK hP hD hS hA 16 (by decide) (by decide) (by decide) (by decide) (by decide) dX0_init_7 (fun q7 H hP hD hS => ?_)
  have hP : va_P (xD G) vwCl [(cA, .inr (0, [.int 0, .int 0, .null, .null, .null, .null, .null, .null, .null])), xI G q7 16 (fun _ => 0)] H := hP
  have hD : va_D A [(cA, .inr (0, [.int 0, .int 0, .null, .null, .null, .null, .null, .null, .null])), xI G q7 16 (fun _ => 0)] := hD
  refine W.widen (k := 1) (n := 16) (by decide) (by decide) ?_
  refine va_putF (D := xD G) (ci := 0) (v := .ref q7) (ty := (.array .int)) (C := RX0) (T := TX0) (N := 9) hx hb hts inX0 tyX0 tyX0_ok nmX0 hown hK hP hD hS 0 rfl rfl 2 (by decide) kl9 (fun _ h9 => h9) rfl hin rfl (by decide +kernel) rfl rfl (Nat.le_of_ble_eq_true rfl) dX0_init_9 (fun H locs hP hD hS => ?_)
  have hP : va_P (xD G) vwCl [(cA, .inr (0, [.int 0, .int 0, .ref q7, .null, .null, .null, .null, .null, .null])), xI G q7 16 (fun _ => 0)] H := hP
  have hD : va_D A [(cA, .inr (0, [.int 0, .int 0, .ref q7, .null, .null, .null, .null, .null, .null])), xI G q7 16 (fun _ => 0)] := hD
  refine lv_aload_n hx hb dX0_init_12 rfl (lv_at hl 0 rfl) ?_
  refine lv_bipush (v := 16) hx hb dX0_init_13 (by decide) ?_
  refine x_newZ hx hb (hts (.arrayClass .boolean) (List.mem_of_getElem? (i := 6) rfl)) hK hP hD hS hA 16 (by decide) (by decide) (by decide) (by decide) (by decide) dX0_init_15 (fun q15 H hP hD hS => ?_)
  have hP : va_P (xD G) vwCl [(cA, .inr (0, [.int 0, .int 0, .ref q7, .null, .null, .null, .null, .null, .null])), xI G q7 16 (fun _ => 0), xZ G q15 16 (fun _ => 0)] H := hP
  have hD : va_D A [(cA, .inr (0, [.int 0, .int 0, .ref q7, .null, .null, .null, .null, .null, .null])), xI G q7 16 (fun _ => 0), xZ G q15 16 (fun _ => 0)] := hD
  refine W.widen (k := 2) (n := 32) (by decide) (by decide) ?_
  refine va_putF (D := xD G) (ci := 0) (v := .ref q15) (ty := (.array .boolean)) (C := RX0) (T := TX0) (N := 9) hx hb hts inX0 tyX0 tyX0_ok nmX0 hown hK hP hD hS 0 rfl rfl 3 (by decide) kl15 (fun _ h9 => h9) rfl hin rfl (by decide +kernel) rfl rfl (Nat.le_of_ble_eq_true rfl) dX0_init_17 (fun H locs hP hD hS => ?_)
  have hP : va_P (xD G) vwCl [(cA, .inr (0, [.int 0, .int 0, .ref q7, .ref q15, .null, .null, .null, .null, .null])), xI G q7 16 (fun _ => 0), xZ G q15 16 (fun _ => 0)] H := hP
  have hD : va_D A [(cA, .inr (0, [.int 0, .int 0, .ref q7, .ref q15, .null, .null, .null, .null, .null])), xI G q7 16 (fun _ => 0), xZ G q15 16 (fun _ => 0)] := hD
  refine lv_aload_n hx hb dX0_init_20 rfl (lv_at hl 0 rfl) ?_
  refine lv_bipush (v := 16) hx hb dX0_init_21 (by decide) ?_
  refine x_newI hx hb (hts (.arrayClass .int) (List.mem_of_getElem? (i := 4) rfl)) hK hP hD hS hA 16 (by decide) (by decide) (by decide) (by decide) (by decide) dX0_init_23 (fun q23 H hP hD hS => ?_)
  have hP : va_P (xD G) vwCl [(cA, .inr (0, [.int 0, .int 0, .ref q7, .ref q15, .null, .null, .null, .null, .null])), xI G q7 16 (fun _ => 0), xZ G q15 16 (fun _ => 0), xI G q23 16 (fun _ => 0)] H := hP
  have hD : va_D A [(cA, .inr (0, [.int 0, .int 0, .ref q7, .ref q15, .null, .null, .null, .null, .null])), xI G q7 16 (fun _ => 0), xZ G q15 16 (fun _ => 0), xI G q23 16 (fun _ => 0)] := hD
  refine W.widen (k := 3) (n := 48) (by decide) (by decide) ?_
  refine va_putF (D := xD G) (ci := 0) (v := .ref q23) (ty := (.array .int)) (C := RX0) (T := TX0) (N := 9) hx hb hts inX0 tyX0 tyX0_ok nmX0 hown hK hP hD hS 0 rfl rfl 4 (by decide) kl19 (fun _ h9 => h9) rfl hin rfl (by decide +kernel) rfl rfl (Nat.le_of_ble_eq_true rfl) dX0_init_25 (fun H locs hP hD hS => ?_)
  have hP : va_P (xD G) vwCl [(cA, .inr (0, [.int 0, .int 0, .ref q7, .ref q15, .ref q23, .null, .null, .null, .null])), xI G q7 16 (fun _ => 0), xZ G q15 16 (fun _ => 0), xI G q23 16 (fun _ => 0)] H := hP
  have hD : va_D A [(cA, .inr (0, [.int 0, .int 0, .ref q7, .ref q15, .ref q23, .null, .null, .null, .null])), xI G q7 16 (fun _ => 0), xZ G q15 16 (fun _ => 0), xI G q23 16 (fun _ => 0)] := hD
  refine lv_aload_n hx hb dX0_init_28 rfl (lv_at hl 0 rfl) ?_
  refine lv_bipush (v := 16) hx hb dX0_init_29 (by decide) ?_
  refine x_newI hx hb (hts (.arrayClass .int) (List.mem_of_getElem? (i := 4) rfl)) hK hP hD hS hA 16 (by decide) (by decide) (by decide) (by decide) (by decide) dX0_init_31 (fun q31 H hP hD hS => ?_)
  have hP : va_P (xD G) vwCl [(cA, .inr (0, [.int 0, .int 0, .ref q7, .ref q15, .ref q23, .null, .null, .null, .null])), xI G q7 16 (fun _ => 0), xZ G q15 16 (fun _ => 0), xI G q23 16 (fun _ => 0), xI G q31 16 (fun _ => 0)] H := hP
  have hD : va_D A [(cA, .inr (0, [.int 0, .int 0, .ref q7, .ref q15, .ref q23, .null, .null, .null, .null])), xI G q7 16 (fun _ => 0), xZ G q15 16 (fun _ => 0), xI G q23 16 (fun _ => 0), xI G q31 16 (fun _ => 0)] := hD
  refine W.widen (k := 4) (n := 64) (by decide) (by decide) ?_
  refine va_putF (D := xD G) (ci := 0) (v := .ref q31) (ty := (.array .int)) (C := RX0) (T := TX0) (N := 9) hx hb hts inX0 tyX0 tyX0_ok nmX0 hown hK hP hD hS 0 rfl rfl 5 (by decide) kl22 (fun _ h9 => h9) rfl hin rfl (by decide +kernel) rfl rfl (Nat.le_of_ble_eq_true rfl) dX0_init_33 (fun H locs hP hD hS => ?_)
  have hP : va_P (xD G) vwCl [(cA, .inr (0, [.int 0, .int 0, .ref q7, .ref q15, .ref q23, .ref q31, .null, .null, .null])), xI G q7 16 (fun _ => 0), xZ G q15 16 (fun _ => 0), xI G q23 16 (fun _ => 0), xI G q31 16 (fun _ => 0)] H := hP
  have hD : va_D A [(cA, .inr (0, [.int 0, .int 0, .ref q7, .ref q15, .ref q23, .ref q31, .null, .null, .null])), xI G q7 16 (fun _ => 0), xZ G q15 16 (fun _ => 0), xI G q23 16 (fun _ => 0), xI G q31 16 (fun _ => 0)] := hD
  refine lv_aload_n hx hb dX0_init_36 rfl (lv_at hl 0 rfl) ?_
  refine lv_bipush (v := 16) hx hb dX0_init_37 (by decide) ?_
  refine x_newI hx hb (hts (.arrayClass .int) (List.mem_of_getElem? (i := 4) rfl)) hK hP hD hS hA 16 (by decide) (by decide) (by decide) (by decide) (by decide) dX0_init_39 (fun q39 H hP hD hS => ?_)
  have hP : va_P (xD G) vwCl [(cA, .inr (0, [.int 0, .int 0, .ref q7, .ref q15, .ref q23, .ref q31, .null, .null, .null])), xI G q7 16 (fun _ => 0), xZ G q15 16 (fun _ => 0), xI G q23 16 (fun _ => 0), xI G q31 16 (fun _ => 0), xI G q39 16 (fun _ => 0)] H := hP
  have hD : va_D A [(cA, .inr (0, [.int 0, .int 0, .ref q7, .ref q15, .ref q23, .ref q31, .null, .null, .null])), xI G q7 16 (fun _ => 0), xZ G q15 16 (fun _ => 0), xI G q23 16 (fun _ => 0), xI G q31 16 (fun _ => 0), xI G q39 16 (fun _ => 0)] := hD
  refine W.widen (k := 5) (n := 80) (by decide) (by decide) ?_
  refine va_putF (D := xD G) (ci := 0) (v := .ref q39) (ty := (.array .int)) (C := RX0) (T := TX0) (N := 9) hx hb hts inX0 tyX0 tyX0_ok nmX0 hown hK hP hD hS 0 rfl rfl 6 (by decide) kl25 (fun _ h9 => h9) rfl hin rfl (by decide +kernel) rfl rfl (Nat.le_of_ble_eq_true rfl) dX0_init_41 (fun H locs hP hD hS => ?_)
  have hP : va_P (xD G) vwCl [(cA, .inr (0, [.int 0, .int 0, .ref q7, .ref q15, .ref q23, .ref q31, .ref q39, .null, .null])), xI G q7 16 (fun _ => 0), xZ G q15 16 (fun _ => 0), xI G q23 16 (fun _ => 0), xI G q31 16 (fun _ => 0), xI G q39 16 (fun _ => 0)] H := hP
  have hD : va_D A [(cA, .inr (0, [.int 0, .int 0, .ref q7, .ref q15, .ref q23, .ref q31, .ref q39, .null, .null])), xI G q7 16 (fun _ => 0), xZ G q15 16 (fun _ => 0), xI G q23 16 (fun _ => 0), xI G q31 16 (fun _ => 0), xI G q39 16 (fun _ => 0)] := hD
  refine lv_aload_n hx hb dX0_init_44 rfl (lv_at hl 0 rfl) ?_
  refine lv_bipush (v := 16) hx hb dX0_init_45 (by decide) ?_
  refine x_newI hx hb (hts (.arrayClass .int) (List.mem_of_getElem? (i := 4) rfl)) hK hP hD hS hA 16 (by decide) (by decide) (by decide) (by decide) (by decide) dX0_init_47 (fun q47 H hP hD hS => ?_)
  have hP : va_P (xD G) vwCl [(cA, .inr (0, [.int 0, .int 0, .ref q7, .ref q15, .ref q23, .ref q31, .ref q39, .null, .null])), xI G q7 16 (fun _ => 0), xZ G q15 16 (fun _ => 0), xI G q23 16 (fun _ => 0), xI G q31 16 (fun _ => 0), xI G q39 16 (fun _ => 0), xI G q47 16 (fun _ => 0)] H := hP
  have hD : va_D A [(cA, .inr (0, [.int 0, .int 0, .ref q7, .ref q15, .ref q23, .ref q31, .ref q39, .null, .null])), xI G q7 16 (fun _ => 0), xZ G q15 16 (fun _ => 0), xI G q23 16 (fun _ => 0), xI G q31 16 (fun _ => 0), xI G q39 16 (fun _ => 0), xI G q47 16 (fun _ => 0)] := hD
  refine W.widen (k := 6) (n := 96) (by decide) (by decide) ?_
  refine va_putF (D := xD G) (ci := 0) (v := .ref q47) (ty := (.array .int)) (C := RX0) (T := TX0) (N := 9) hx hb hts inX0 tyX0 tyX0_ok nmX0 hown hK hP hD hS 0 rfl rfl 7 (by decide) kl28 (fun _ h9 => h9) rfl hin rfl (by decide +kernel) rfl rfl (Nat.le_of_ble_eq_true rfl) dX0_init_49 (fun H locs hP hD hS => ?_)
  have hP : va_P (xD G) vwCl [(cA, .inr (0, [.int 0, .int 0, .ref q7, .ref q15, .ref q23, .ref q31, .ref q39, .ref q47, .null])), xI G q7 16 (fun _ => 0), xZ G q15 16 (fun _ => 0), xI G q23 16 (fun _ => 0), xI G q31 16 (fun _ => 0), xI G q39 16 (fun _ => 0), xI G q47 16 (fun _ => 0)] H := hP
  have hD : va_D A [(cA, .inr (0, [.int 0, .int 0, .ref q7, .ref q15, .ref q23, .ref q31, .ref q39, .ref q47, .null])), xI G q7 16 (fun _ => 0), xZ G q15 16 (fun _ => 0), xI G q23 16 (fun _ => 0), xI G q31 16 (fun _ => 0), xI G q39 16 (fun _ => 0), xI G q47 16 (fun _ => 0)] := hD
  refine lv_aload_n hx hb dX0_init_52 rfl (lv_at hl 0 rfl) ?_
  refine lv_bipush (v := 64) hx hb dX0_init_53 (by decide) ?_
  refine x_newI hx hb (hts (.arrayClass .int) (List.mem_of_getElem? (i := 4) rfl)) hK hP hD hS hA 64 (by decide) (by decide) (by decide) (by decide) (by decide) dX0_init_55 (fun q55 H hP hD hS => ?_)
  have hP : va_P (xD G) vwCl [(cA, .inr (0, [.int 0, .int 0, .ref q7, .ref q15, .ref q23, .ref q31, .ref q39, .ref q47, .null])), xI G q7 16 (fun _ => 0), xZ G q15 16 (fun _ => 0), xI G q23 16 (fun _ => 0), xI G q31 16 (fun _ => 0), xI G q39 16 (fun _ => 0), xI G q47 16 (fun _ => 0), xI G q55 64 (fun _ => 0)] H := hP
  have hD : va_D A [(cA, .inr (0, [.int 0, .int 0, .ref q7, .ref q15, .ref q23, .ref q31, .ref q39, .ref q47, .null])), xI G q7 16 (fun _ => 0), xZ G q15 16 (fun _ => 0), xI G q23 16 (fun _ => 0), xI G q31 16 (fun _ => 0), xI G q39 16 (fun _ => 0), xI G q47 16 (fun _ => 0), xI G q55 64 (fun _ => 0)] := hD
  refine W.widen (k := 7) (n := 160) (by decide) (by decide) ?_
  refine va_putF (D := xD G) (ci := 0) (v := .ref q55) (ty := (.array .int)) (C := RX0) (T := TX0) (N := 9) hx hb hts inX0 tyX0 tyX0_ok nmX0 hown hK hP hD hS 0 rfl rfl 8 (by decide) kl31 (fun _ h9 => h9) rfl hin rfl (by decide +kernel) rfl rfl (Nat.le_of_ble_eq_true rfl) dX0_init_57 (fun H locs hP hD hS => ?_)
  have hP : va_P (xD G) vwCl [(cA, .inr (0, [.int 0, .int 0, .ref q7, .ref q15, .ref q23, .ref q31, .ref q39, .ref q47, .ref q55])), xI G q7 16 (fun _ => 0), xZ G q15 16 (fun _ => 0), xI G q23 16 (fun _ => 0), xI G q31 16 (fun _ => 0), xI G q39 16 (fun _ => 0), xI G q47 16 (fun _ => 0), xI G q55 64 (fun _ => 0)] H := hP
  have hD : va_D A [(cA, .inr (0, [.int 0, .int 0, .ref q7, .ref q15, .ref q23, .ref q31, .ref q39, .ref q47, .ref q55])), xI G q7 16 (fun _ => 0), xZ G q15 16 (fun _ => 0), xI G q23 16 (fun _ => 0), xI G q31 16 (fun _ => 0), xI G q39 16 (fun _ => 0), xI G q47 16 (fun _ => 0), xI G q55 64 (fun _ => 0)] := hD
  exact hq (fun k => if k = 2 then q7 else if k = 3 then q15 else if k = 4 then q23 else if k = 5 then q31 else if k = 6 then q39 else if k = 7 then q47 else if k = 8 then q55 else 0) H locs 60 ls dX0_init_60 (hP.sub [0, 1, 2, 3, 4, 5, 6, 7] rfl) (hD.sub [0, 1, 2, 3, 4, 5, 6, 7] (by decide) rfl) hS
set_option maxHeartbeats 4000000 in
set_option maxRecDepth 100000 in
theorem mX1_init (l : Launch) (G : xG) (uA : Nat) : xK l yX1_init wsX1_init ({ frames := 1, cells := 3, slots := 12, locals := 12 } : Room) [.ref uA] G [(uA, .inr (1, [.null, .null, .null, .int 0]))] (Nat → Nat) (fun u => [oRules uA u 0, xI G (u 0) 4 (fun _ => 0), xI G (u 1) 4 (fun _ => 0), xI G (u 2) 4 (fun _ => 0)]) 3 12 := by
  refine xK_of (cc := cX1_init) (maxL := 1) (by decide) rfl (Nat.le_of_ble_eq_true rfl) ?_
  intro p e s m below meth cO ls Q A hx hb hml hown hin hts hP hK hD hS hA hl hq
  have hown : s.vm.findClass RX1 = some m.cls := hown
  have hin : meth.name = "<init>" := hin
  have kl9 := (hts (.fieldLink RX1 9 "WorkBoard$Rules" "limit" "[I") (List.mem_of_getElem? (i := 5) rfl))
  have kl15 := (hts (.fieldLink RX1 15 "WorkBoard$Rules" "lane" "[I") (List.mem_of_getElem? (i := 6) rfl))
  have kl18 := (hts (.fieldLink RX1 18 "WorkBoard$Rules" "hands" "[I") (List.mem_of_getElem? (i := 7) rfl))
  have inX1 : ∀ w ∈ u_ws RX1 TX1 4, w ∈ wsX1_init := (fun w h => List.mem_cons_of_mem _ (List.mem_append_right _ h))
  have hl : lv_has ls 1 [(0, .ref uA)] := hl
  obtain ⟨H, hH⟩ : ∃ z, z = s.heap := ⟨_, rfl⟩
  obtain ⟨locs, hlocs⟩ : ∃ z : List Loc, z = [] := ⟨_, rfl⟩
  have hS : va_S A s.heap H locs := by rw [hH, hlocs]; exact hS
  have hP : va_P (xD G) vwCl [(uA, .inr (1, [.null, .null, .null, .int 0]))] H := by rw [hH]; exact hP
  have hD : va_D A [(uA, .inr (1, [.null, .null, .null, .int 0]))] := hD
  rw [← hH, ← hlocs]
  clear hH hlocs
  refine lv_aload_n hx hb dX1_init_0 rfl (lv_at hl 0 rfl) ?_
  refine W.objInit hx hb hown (hts (.methodLink RX1 3 objectInit) (List.mem_of_getElem? (i := 1) rfl)) (hts (.instanceMethod objectInit) (List.mem_of_getElem? (i := 2) rfl)) (hts _ (List.mem_of_getElem? (i := 3) rfl)) rfl (by rw [hml]; exact hl.1) rfl dX1_init_1 (Nat.le_of_ble_eq_true rfl) (Nat.le_of_ble_eq_true rfl) ?_
  refine W.eq (g2 := F0 m 4 ls []) rfl ?_
  refine lv_aload_n hx hb dX1_init_4 rfl (lv_at hl 0 rfl) ?_
  refine lv_iconst (v := 4) hx hb dX1_init_5 (by decide) ?_
  refine x_newI hx hb (hts (.arrayClass .int) (List.mem_of_getElem? (i := 4) rfl)) hK hP hD hS hA 4 (by decide) (by decide) (by decide) (by decide) (by decide) dX1_init_6 (fun q6 H hP hD hS => ?_)
  have hP : va_P (xD G) vwCl [(uA, .inr (1, [.null, .null, .null, .int 0])), xI G q6 4 (fun _ => 0)] H := hP
  have hD : va_D A [(uA, .inr (1, [.null, .null, .null, .int 0])), xI G q6 4 (fun _ => 0)] := hD
  refine W.widen (k := 1) (n := 4) (by decide) (by decide) ?_
  refine va_putF (D := xD G) (ci := 1) (v := .ref q6) (ty := (.array .int)) (C := RX1) (T := TX1) (N := 4) hx hb hts inX1 tyX1 tyX1_ok nmX1 hown hK hP hD hS 0 rfl rfl 0 (by decide) kl9 (fun _ h9 => h9) rfl hin rfl (by decide +kernel) rfl rfl (Nat.le_of_ble_eq_true rfl) dX1_init_8 (fun H locs hP hD hS => ?_)
  have hP : va_P (xD G) vwCl [(uA, .inr (1, [.ref q6, .null, .null, .int 0])), xI G q6 4 (fun _ => 0)] H := hP
  have hD : va_D A [(uA, .inr (1, [.ref q6, .null, .null, .int 0])), xI G q6 4 (fun _ => 0)] := hD
  refine lv_aload_n hx hb dX1_init_11 rfl (lv_at hl 0 rfl) ?_
  refine lv_iconst (v := 4) hx hb dX1_init_12 (by decide) ?_
  refine x_newI hx hb (hts (.arrayClass .int) (List.mem_of_getElem? (i := 4) rfl)) hK hP hD hS hA 4 (by decide) (by decide) (by decide) (by decide) (by decide) dX1_init_13 (fun q13 H hP hD hS => ?_)
  have hP : va_P (xD G) vwCl [(uA, .inr (1, [.ref q6, .null, .null, .int 0])), xI G q6 4 (fun _ => 0), xI G q13 4 (fun _ => 0)] H := hP
  have hD : va_D A [(uA, .inr (1, [.ref q6, .null, .null, .int 0])), xI G q6 4 (fun _ => 0), xI G q13 4 (fun _ => 0)] := hD
  refine W.widen (k := 2) (n := 8) (by decide) (by decide) ?_
  refine va_putF (D := xD G) (ci := 1) (v := .ref q13) (ty := (.array .int)) (C := RX1) (T := TX1) (N := 4) hx hb hts inX1 tyX1 tyX1_ok nmX1 hown hK hP hD hS 0 rfl rfl 1 (by decide) kl15 (fun _ h9 => h9) rfl hin rfl (by decide +kernel) rfl rfl (Nat.le_of_ble_eq_true rfl) dX1_init_15 (fun H locs hP hD hS => ?_)
  have hP : va_P (xD G) vwCl [(uA, .inr (1, [.ref q6, .ref q13, .null, .int 0])), xI G q6 4 (fun _ => 0), xI G q13 4 (fun _ => 0)] H := hP
  have hD : va_D A [(uA, .inr (1, [.ref q6, .ref q13, .null, .int 0])), xI G q6 4 (fun _ => 0), xI G q13 4 (fun _ => 0)] := hD
  refine lv_aload_n hx hb dX1_init_18 rfl (lv_at hl 0 rfl) ?_
  refine lv_iconst (v := 4) hx hb dX1_init_19 (by decide) ?_
  refine x_newI hx hb (hts (.arrayClass .int) (List.mem_of_getElem? (i := 4) rfl)) hK hP hD hS hA 4 (by decide) (by decide) (by decide) (by decide) (by decide) dX1_init_20 (fun q20 H hP hD hS => ?_)
  have hP : va_P (xD G) vwCl [(uA, .inr (1, [.ref q6, .ref q13, .null, .int 0])), xI G q6 4 (fun _ => 0), xI G q13 4 (fun _ => 0), xI G q20 4 (fun _ => 0)] H := hP
  have hD : va_D A [(uA, .inr (1, [.ref q6, .ref q13, .null, .int 0])), xI G q6 4 (fun _ => 0), xI G q13 4 (fun _ => 0), xI G q20 4 (fun _ => 0)] := hD
  refine W.widen (k := 3) (n := 12) (by decide) (by decide) ?_
  refine va_putF (D := xD G) (ci := 1) (v := .ref q20) (ty := (.array .int)) (C := RX1) (T := TX1) (N := 4) hx hb hts inX1 tyX1 tyX1_ok nmX1 hown hK hP hD hS 0 rfl rfl 2 (by decide) kl18 (fun _ h9 => h9) rfl hin rfl (by decide +kernel) rfl rfl (Nat.le_of_ble_eq_true rfl) dX1_init_22 (fun H locs hP hD hS => ?_)
  have hP : va_P (xD G) vwCl [(uA, .inr (1, [.ref q6, .ref q13, .ref q20, .int 0])), xI G q6 4 (fun _ => 0), xI G q13 4 (fun _ => 0), xI G q20 4 (fun _ => 0)] H := hP
  have hD : va_D A [(uA, .inr (1, [.ref q6, .ref q13, .ref q20, .int 0])), xI G q6 4 (fun _ => 0), xI G q13 4 (fun _ => 0), xI G q20 4 (fun _ => 0)] := hD
  exact hq (fun k => if k = 0 then q6 else if k = 1 then q13 else if k = 2 then q20 else 0) H locs 25 ls dX1_init_25 (hP.sub [0, 1, 2, 3] rfl) (hD.sub [0, 1, 2, 3] (by decide) rfl) hS
set_option maxHeartbeats 4000000 in
set_option maxRecDepth 100000 in
theorem mX2_init (l : Launch) (G : xG) (rA cA uA : Nat) (u0 : Bool) : xK l yX2_init wsX2_init ({ frames := 1, cells := 9, slots := 180, locals := 12 } : Room) [.ref rA, .ref cA, .ref uA, .int (b2 (u0 = true))] G [(rA, .inr (2, [.null, .null, .int 0, .null, .null, .null, .null, .null, .null, .null, .int 0, .null, .null, .int 0, .int 0, .int 0, .int 0]))] (Nat → Nat) (fun u => [oRun rA cA uA u (b2 (u0 = true)) 0 0 0 0 0, xI G (u 3) 16 (fun _ => 0), xI G (u 4) 16 (fun _ => 0), xI G (u 5) 16 (fun _ => 0), xI G (u 6) 16 (fun _ => 0), xZ G (u 7) 16 (fun _ => 0), xZ G (u 8) 16 (fun _ => 0), xI G (u 9) 16 (fun _ => 0), xI G (u 11) 4 (fun _ => 0), xI G (u 12) 64 (fun _ => 0)]) 9 180 := by
  refine xK_of (cc := cX2_init) (maxL := 4) (by decide) rfl (Nat.le_of_ble_eq_true rfl) ?_
  intro p e s m below meth cO ls Q A hx hb hml hown hin hts hP hK hD hS hA hl hq
  have hown : s.vm.findClass RX2 = some m.cls := hown
  have hin : meth.name = "<init>" := hin
  have kl9 := (hts (.fieldLink RX2 9 "WorkBoard$Run" "place" "[I") (List.mem_of_getElem? (i := 5) rfl))
  have kl15 := (hts (.fieldLink RX2 15 "WorkBoard$Run" "next" "[I") (List.mem_of_getElem? (i := 6) rfl))
  have kl18 := (hts (.fieldLink RX2 18 "WorkBoard$Run" "left" "[I") (List.mem_of_getElem? (i := 7) rfl))
  have kl21 := (hts (.fieldLink RX2 21 "WorkBoard$Run" "doneOn" "[I") (List.mem_of_getElem? (i := 8) rfl))
  have kl24 := (hts (.fieldLink RX2 24 "WorkBoard$Run" "worked" "[Z") (List.mem_of_getElem? (i := 10) rfl))
  have kl28 := (hts (.fieldLink RX2 28 "WorkBoard$Run" "beenBack" "[Z") (List.mem_of_getElem? (i := 11) rfl))
  have kl31 := (hts (.fieldLink RX2 31 "WorkBoard$Run" "pulled" "[I") (List.mem_of_getElem? (i := 12) rfl))
  have kl34 := (hts (.fieldLink RX2 34 "WorkBoard$Run" "handsLeft" "[I") (List.mem_of_getElem? (i := 13) rfl))
  have kl37 := (hts (.fieldLink RX2 37 "WorkBoard$Run" "reasonDays" "[I") (List.mem_of_getElem? (i := 14) rfl))
  have kl40 := (hts (.fieldLink RX2 40 "WorkBoard$Run" "cards" "LWorkBoard$Cards;") (List.mem_of_getElem? (i := 15) rfl))
  have kl44 := (hts (.fieldLink RX2 44 "WorkBoard$Run" "rules" "LWorkBoard$Rules;") (List.mem_of_getElem? (i := 16) rfl))
  have kl48 := (hts (.fieldLink RX2 48 "WorkBoard$Run" "nobodyUrgent" "Z") (List.mem_of_getElem? (i := 17) rfl))
  have inX2 : ∀ w ∈ u_ws RX2 TX2 17, w ∈ wsX2_init := (fun w h => List.mem_cons_of_mem _ (List.mem_append_right _ h))
  have hl : lv_has ls 4 [(0, .ref rA), (1, .ref cA), (2, .ref uA), (3, .int (b2 (u0 = true)))] := hl
  obtain ⟨H, hH⟩ : ∃ z, z = s.heap := ⟨_, rfl⟩
  obtain ⟨locs, hlocs⟩ : ∃ z : List Loc, z = [] := ⟨_, rfl⟩
  have hS : va_S A s.heap H locs := by rw [hH, hlocs]; exact hS
  have hP : va_P (xD G) vwCl [(rA, .inr (2, [.null, .null, .int 0, .null, .null, .null, .null, .null, .null, .null, .int 0, .null, .null, .int 0, .int 0, .int 0, .int 0]))] H := by rw [hH]; exact hP
  have hD : va_D A [(rA, .inr (2, [.null, .null, .int 0, .null, .null, .null, .null, .null, .null, .null, .int 0, .null, .null, .int 0, .int 0, .int 0, .int 0]))] := hD
  rw [← hH, ← hlocs]
  clear hH hlocs
  refine lv_aload_n hx hb dX2_init_0 rfl (lv_at hl 0 rfl) ?_
  refine W.objInit hx hb hown (hts (.methodLink RX2 3 objectInit) (List.mem_of_getElem? (i := 1) rfl)) (hts (.instanceMethod objectInit) (List.mem_of_getElem? (i := 2) rfl)) (hts _ (List.mem_of_getElem? (i := 3) rfl)) rfl (by rw [hml]; exact hl.1) rfl dX2_init_1 (Nat.le_of_ble_eq_true rfl) (Nat.le_of_ble_eq_true rfl) ?_
  refine W.eq (g2 := F0 m 4 ls []) rfl ?_
  refine lv_aload_n hx hb dX2_init_4 rfl (lv_at hl 0 rfl) ?_
  refine lv_bipush (v := 16) hx hb dX2_init_5 (by decide) ?_
  refine x_newI hx hb (hts (.arrayClass .int) (List.mem_of_getElem? (i := 4) rfl)) hK hP hD hS hA 16 (by decide) (by decide) (by decide) (by decide) (by decide) dX2_init_7 (fun q7 H hP hD hS => ?_)
  have hP : va_P (xD G) vwCl [(rA, .inr (2, [.null, .null, .int 0, .null, .null, .null, .null, .null, .null, .null, .int 0, .null, .null, .int 0, .int 0, .int 0, .int 0])), xI G q7 16 (fun _ => 0)] H := hP
  have hD : va_D A [(rA, .inr (2, [.null, .null, .int 0, .null, .null, .null, .null, .null, .null, .null, .int 0, .null, .null, .int 0, .int 0, .int 0, .int 0])), xI G q7 16 (fun _ => 0)] := hD
  refine W.widen (k := 1) (n := 16) (by decide) (by decide) ?_
  refine va_putF (D := xD G) (ci := 2) (v := .ref q7) (ty := (.array .int)) (C := RX2) (T := TX2) (N := 17) hx hb hts inX2 tyX2 tyX2_ok nmX2 hown hK hP hD hS 0 rfl rfl 3 (by decide) kl9 (fun _ h9 => h9) rfl hin rfl (by decide +kernel) rfl rfl (Nat.le_of_ble_eq_true rfl) dX2_init_9 (fun H locs hP hD hS => ?_)
  have hP : va_P (xD G) vwCl [(rA, .inr (2, [.null, .null, .int 0, .ref q7, .null, .null, .null, .null, .null, .null, .int 0, .null, .null, .int 0, .int 0, .int 0, .int 0])), xI G q7 16 (fun _ => 0)] H := hP
  have hD : va_D A [(rA, .inr (2, [.null, .null, .int 0, .ref q7, .null, .null, .null, .null, .null, .null, .int 0, .null, .null, .int 0, .int 0, .int 0, .int 0])), xI G q7 16 (fun _ => 0)] := hD
  refine lv_aload_n hx hb dX2_init_12 rfl (lv_at hl 0 rfl) ?_
  refine lv_bipush (v := 16) hx hb dX2_init_13 (by decide) ?_
  refine x_newI hx hb (hts (.arrayClass .int) (List.mem_of_getElem? (i := 4) rfl)) hK hP hD hS hA 16 (by decide) (by decide) (by decide) (by decide) (by decide) dX2_init_15 (fun q15 H hP hD hS => ?_)
  have hP : va_P (xD G) vwCl [(rA, .inr (2, [.null, .null, .int 0, .ref q7, .null, .null, .null, .null, .null, .null, .int 0, .null, .null, .int 0, .int 0, .int 0, .int 0])), xI G q7 16 (fun _ => 0), xI G q15 16 (fun _ => 0)] H := hP
  have hD : va_D A [(rA, .inr (2, [.null, .null, .int 0, .ref q7, .null, .null, .null, .null, .null, .null, .int 0, .null, .null, .int 0, .int 0, .int 0, .int 0])), xI G q7 16 (fun _ => 0), xI G q15 16 (fun _ => 0)] := hD
  refine W.widen (k := 2) (n := 32) (by decide) (by decide) ?_
  refine va_putF (D := xD G) (ci := 2) (v := .ref q15) (ty := (.array .int)) (C := RX2) (T := TX2) (N := 17) hx hb hts inX2 tyX2 tyX2_ok nmX2 hown hK hP hD hS 0 rfl rfl 4 (by decide) kl15 (fun _ h9 => h9) rfl hin rfl (by decide +kernel) rfl rfl (Nat.le_of_ble_eq_true rfl) dX2_init_17 (fun H locs hP hD hS => ?_)
  have hP : va_P (xD G) vwCl [(rA, .inr (2, [.null, .null, .int 0, .ref q7, .ref q15, .null, .null, .null, .null, .null, .int 0, .null, .null, .int 0, .int 0, .int 0, .int 0])), xI G q7 16 (fun _ => 0), xI G q15 16 (fun _ => 0)] H := hP
  have hD : va_D A [(rA, .inr (2, [.null, .null, .int 0, .ref q7, .ref q15, .null, .null, .null, .null, .null, .int 0, .null, .null, .int 0, .int 0, .int 0, .int 0])), xI G q7 16 (fun _ => 0), xI G q15 16 (fun _ => 0)] := hD
  refine lv_aload_n hx hb dX2_init_20 rfl (lv_at hl 0 rfl) ?_
  refine lv_bipush (v := 16) hx hb dX2_init_21 (by decide) ?_
  refine x_newI hx hb (hts (.arrayClass .int) (List.mem_of_getElem? (i := 4) rfl)) hK hP hD hS hA 16 (by decide) (by decide) (by decide) (by decide) (by decide) dX2_init_23 (fun q23 H hP hD hS => ?_)
  have hP : va_P (xD G) vwCl [(rA, .inr (2, [.null, .null, .int 0, .ref q7, .ref q15, .null, .null, .null, .null, .null, .int 0, .null, .null, .int 0, .int 0, .int 0, .int 0])), xI G q7 16 (fun _ => 0), xI G q15 16 (fun _ => 0), xI G q23 16 (fun _ => 0)] H := hP
  have hD : va_D A [(rA, .inr (2, [.null, .null, .int 0, .ref q7, .ref q15, .null, .null, .null, .null, .null, .int 0, .null, .null, .int 0, .int 0, .int 0, .int 0])), xI G q7 16 (fun _ => 0), xI G q15 16 (fun _ => 0), xI G q23 16 (fun _ => 0)] := hD
  refine W.widen (k := 3) (n := 48) (by decide) (by decide) ?_
  refine va_putF (D := xD G) (ci := 2) (v := .ref q23) (ty := (.array .int)) (C := RX2) (T := TX2) (N := 17) hx hb hts inX2 tyX2 tyX2_ok nmX2 hown hK hP hD hS 0 rfl rfl 5 (by decide) kl18 (fun _ h9 => h9) rfl hin rfl (by decide +kernel) rfl rfl (Nat.le_of_ble_eq_true rfl) dX2_init_25 (fun H locs hP hD hS => ?_)
  have hP : va_P (xD G) vwCl [(rA, .inr (2, [.null, .null, .int 0, .ref q7, .ref q15, .ref q23, .null, .null, .null, .null, .int 0, .null, .null, .int 0, .int 0, .int 0, .int 0])), xI G q7 16 (fun _ => 0), xI G q15 16 (fun _ => 0), xI G q23 16 (fun _ => 0)] H := hP
  have hD : va_D A [(rA, .inr (2, [.null, .null, .int 0, .ref q7, .ref q15, .ref q23, .null, .null, .null, .null, .int 0, .null, .null, .int 0, .int 0, .int 0, .int 0])), xI G q7 16 (fun _ => 0), xI G q15 16 (fun _ => 0), xI G q23 16 (fun _ => 0)] := hD
  refine lv_aload_n hx hb dX2_init_28 rfl (lv_at hl 0 rfl) ?_
  refine lv_bipush (v := 16) hx hb dX2_init_29 (by decide) ?_
  refine x_newI hx hb (hts (.arrayClass .int) (List.mem_of_getElem? (i := 4) rfl)) hK hP hD hS hA 16 (by decide) (by decide) (by decide) (by decide) (by decide) dX2_init_31 (fun q31 H hP hD hS => ?_)
  have hP : va_P (xD G) vwCl [(rA, .inr (2, [.null, .null, .int 0, .ref q7, .ref q15, .ref q23, .null, .null, .null, .null, .int 0, .null, .null, .int 0, .int 0, .int 0, .int 0])), xI G q7 16 (fun _ => 0), xI G q15 16 (fun _ => 0), xI G q23 16 (fun _ => 0), xI G q31 16 (fun _ => 0)] H := hP
  have hD : va_D A [(rA, .inr (2, [.null, .null, .int 0, .ref q7, .ref q15, .ref q23, .null, .null, .null, .null, .int 0, .null, .null, .int 0, .int 0, .int 0, .int 0])), xI G q7 16 (fun _ => 0), xI G q15 16 (fun _ => 0), xI G q23 16 (fun _ => 0), xI G q31 16 (fun _ => 0)] := hD
  refine W.widen (k := 4) (n := 64) (by decide) (by decide) ?_
  refine va_putF (D := xD G) (ci := 2) (v := .ref q31) (ty := (.array .int)) (C := RX2) (T := TX2) (N := 17) hx hb hts inX2 tyX2 tyX2_ok nmX2 hown hK hP hD hS 0 rfl rfl 6 (by decide) kl21 (fun _ h9 => h9) rfl hin rfl (by decide +kernel) rfl rfl (Nat.le_of_ble_eq_true rfl) dX2_init_33 (fun H locs hP hD hS => ?_)
  have hP : va_P (xD G) vwCl [(rA, .inr (2, [.null, .null, .int 0, .ref q7, .ref q15, .ref q23, .ref q31, .null, .null, .null, .int 0, .null, .null, .int 0, .int 0, .int 0, .int 0])), xI G q7 16 (fun _ => 0), xI G q15 16 (fun _ => 0), xI G q23 16 (fun _ => 0), xI G q31 16 (fun _ => 0)] H := hP
  have hD : va_D A [(rA, .inr (2, [.null, .null, .int 0, .ref q7, .ref q15, .ref q23, .ref q31, .null, .null, .null, .int 0, .null, .null, .int 0, .int 0, .int 0, .int 0])), xI G q7 16 (fun _ => 0), xI G q15 16 (fun _ => 0), xI G q23 16 (fun _ => 0), xI G q31 16 (fun _ => 0)] := hD
  refine lv_aload_n hx hb dX2_init_36 rfl (lv_at hl 0 rfl) ?_
  refine lv_bipush (v := 16) hx hb dX2_init_37 (by decide) ?_
  refine x_newZ hx hb (hts (.arrayClass .boolean) (List.mem_of_getElem? (i := 9) rfl)) hK hP hD hS hA 16 (by decide) (by decide) (by decide) (by decide) (by decide) dX2_init_39 (fun q39 H hP hD hS => ?_)
  have hP : va_P (xD G) vwCl [(rA, .inr (2, [.null, .null, .int 0, .ref q7, .ref q15, .ref q23, .ref q31, .null, .null, .null, .int 0, .null, .null, .int 0, .int 0, .int 0, .int 0])), xI G q7 16 (fun _ => 0), xI G q15 16 (fun _ => 0), xI G q23 16 (fun _ => 0), xI G q31 16 (fun _ => 0), xZ G q39 16 (fun _ => 0)] H := hP
  have hD : va_D A [(rA, .inr (2, [.null, .null, .int 0, .ref q7, .ref q15, .ref q23, .ref q31, .null, .null, .null, .int 0, .null, .null, .int 0, .int 0, .int 0, .int 0])), xI G q7 16 (fun _ => 0), xI G q15 16 (fun _ => 0), xI G q23 16 (fun _ => 0), xI G q31 16 (fun _ => 0), xZ G q39 16 (fun _ => 0)] := hD
  refine W.widen (k := 5) (n := 80) (by decide) (by decide) ?_
  refine va_putF (D := xD G) (ci := 2) (v := .ref q39) (ty := (.array .boolean)) (C := RX2) (T := TX2) (N := 17) hx hb hts inX2 tyX2 tyX2_ok nmX2 hown hK hP hD hS 0 rfl rfl 7 (by decide) kl24 (fun _ h9 => h9) rfl hin rfl (by decide +kernel) rfl rfl (Nat.le_of_ble_eq_true rfl) dX2_init_41 (fun H locs hP hD hS => ?_)
  have hP : va_P (xD G) vwCl [(rA, .inr (2, [.null, .null, .int 0, .ref q7, .ref q15, .ref q23, .ref q31, .ref q39, .null, .null, .int 0, .null, .null, .int 0, .int 0, .int 0, .int 0])), xI G q7 16 (fun _ => 0), xI G q15 16 (fun _ => 0), xI G q23 16 (fun _ => 0), xI G q31 16 (fun _ => 0), xZ G q39 16 (fun _ => 0)] H := hP
  have hD : va_D A [(rA, .inr (2, [.null, .null, .int 0, .ref q7, .ref q15, .ref q23, .ref q31, .ref q39, .null, .null, .int 0, .null, .null, .int 0, .int 0, .int 0, .int 0])), xI G q7 16 (fun _ => 0), xI G q15 16 (fun _ => 0), xI G q23 16 (fun _ => 0), xI G q31 16 (fun _ => 0), xZ G q39 16 (fun _ => 0)] := hD
  refine lv_aload_n hx hb dX2_init_44 rfl (lv_at hl 0 rfl) ?_
  refine lv_bipush (v := 16) hx hb dX2_init_45 (by decide) ?_
  refine x_newZ hx hb (hts (.arrayClass .boolean) (List.mem_of_getElem? (i := 9) rfl)) hK hP hD hS hA 16 (by decide) (by decide) (by decide) (by decide) (by decide) dX2_init_47 (fun q47 H hP hD hS => ?_)
  have hP : va_P (xD G) vwCl [(rA, .inr (2, [.null, .null, .int 0, .ref q7, .ref q15, .ref q23, .ref q31, .ref q39, .null, .null, .int 0, .null, .null, .int 0, .int 0, .int 0, .int 0])), xI G q7 16 (fun _ => 0), xI G q15 16 (fun _ => 0), xI G q23 16 (fun _ => 0), xI G q31 16 (fun _ => 0), xZ G q39 16 (fun _ => 0), xZ G q47 16 (fun _ => 0)] H := hP
  have hD : va_D A [(rA, .inr (2, [.null, .null, .int 0, .ref q7, .ref q15, .ref q23, .ref q31, .ref q39, .null, .null, .int 0, .null, .null, .int 0, .int 0, .int 0, .int 0])), xI G q7 16 (fun _ => 0), xI G q15 16 (fun _ => 0), xI G q23 16 (fun _ => 0), xI G q31 16 (fun _ => 0), xZ G q39 16 (fun _ => 0), xZ G q47 16 (fun _ => 0)] := hD
  refine W.widen (k := 6) (n := 96) (by decide) (by decide) ?_
  refine va_putF (D := xD G) (ci := 2) (v := .ref q47) (ty := (.array .boolean)) (C := RX2) (T := TX2) (N := 17) hx hb hts inX2 tyX2 tyX2_ok nmX2 hown hK hP hD hS 0 rfl rfl 8 (by decide) kl28 (fun _ h9 => h9) rfl hin rfl (by decide +kernel) rfl rfl (Nat.le_of_ble_eq_true rfl) dX2_init_49 (fun H locs hP hD hS => ?_)
  have hP : va_P (xD G) vwCl [(rA, .inr (2, [.null, .null, .int 0, .ref q7, .ref q15, .ref q23, .ref q31, .ref q39, .ref q47, .null, .int 0, .null, .null, .int 0, .int 0, .int 0, .int 0])), xI G q7 16 (fun _ => 0), xI G q15 16 (fun _ => 0), xI G q23 16 (fun _ => 0), xI G q31 16 (fun _ => 0), xZ G q39 16 (fun _ => 0), xZ G q47 16 (fun _ => 0)] H := hP
  have hD : va_D A [(rA, .inr (2, [.null, .null, .int 0, .ref q7, .ref q15, .ref q23, .ref q31, .ref q39, .ref q47, .null, .int 0, .null, .null, .int 0, .int 0, .int 0, .int 0])), xI G q7 16 (fun _ => 0), xI G q15 16 (fun _ => 0), xI G q23 16 (fun _ => 0), xI G q31 16 (fun _ => 0), xZ G q39 16 (fun _ => 0), xZ G q47 16 (fun _ => 0)] := hD
  refine lv_aload_n hx hb dX2_init_52 rfl (lv_at hl 0 rfl) ?_
  refine lv_bipush (v := 16) hx hb dX2_init_53 (by decide) ?_
  refine x_newI hx hb (hts (.arrayClass .int) (List.mem_of_getElem? (i := 4) rfl)) hK hP hD hS hA 16 (by decide) (by decide) (by decide) (by decide) (by decide) dX2_init_55 (fun q55 H hP hD hS => ?_)
  have hP : va_P (xD G) vwCl [(rA, .inr (2, [.null, .null, .int 0, .ref q7, .ref q15, .ref q23, .ref q31, .ref q39, .ref q47, .null, .int 0, .null, .null, .int 0, .int 0, .int 0, .int 0])), xI G q7 16 (fun _ => 0), xI G q15 16 (fun _ => 0), xI G q23 16 (fun _ => 0), xI G q31 16 (fun _ => 0), xZ G q39 16 (fun _ => 0), xZ G q47 16 (fun _ => 0), xI G q55 16 (fun _ => 0)] H := hP
  have hD : va_D A [(rA, .inr (2, [.null, .null, .int 0, .ref q7, .ref q15, .ref q23, .ref q31, .ref q39, .ref q47, .null, .int 0, .null, .null, .int 0, .int 0, .int 0, .int 0])), xI G q7 16 (fun _ => 0), xI G q15 16 (fun _ => 0), xI G q23 16 (fun _ => 0), xI G q31 16 (fun _ => 0), xZ G q39 16 (fun _ => 0), xZ G q47 16 (fun _ => 0), xI G q55 16 (fun _ => 0)] := hD
  refine W.widen (k := 7) (n := 112) (by decide) (by decide) ?_
  refine va_putF (D := xD G) (ci := 2) (v := .ref q55) (ty := (.array .int)) (C := RX2) (T := TX2) (N := 17) hx hb hts inX2 tyX2 tyX2_ok nmX2 hown hK hP hD hS 0 rfl rfl 9 (by decide) kl31 (fun _ h9 => h9) rfl hin rfl (by decide +kernel) rfl rfl (Nat.le_of_ble_eq_true rfl) dX2_init_57 (fun H locs hP hD hS => ?_)
  have hP : va_P (xD G) vwCl [(rA, .inr (2, [.null, .null, .int 0, .ref q7, .ref q15, .ref q23, .ref q31, .ref q39, .ref q47, .ref q55, .int 0, .null, .null, .int 0, .int 0, .int 0, .int 0])), xI G q7 16 (fun _ => 0), xI G q15 16 (fun _ => 0), xI G q23 16 (fun _ => 0), xI G q31 16 (fun _ => 0), xZ G q39 16 (fun _ => 0), xZ G q47 16 (fun _ => 0), xI G q55 16 (fun _ => 0)] H := hP
  have hD : va_D A [(rA, .inr (2, [.null, .null, .int 0, .ref q7, .ref q15, .ref q23, .ref q31, .ref q39, .ref q47, .ref q55, .int 0, .null, .null, .int 0, .int 0, .int 0, .int 0])), xI G q7 16 (fun _ => 0), xI G q15 16 (fun _ => 0), xI G q23 16 (fun _ => 0), xI G q31 16 (fun _ => 0), xZ G q39 16 (fun _ => 0), xZ G q47 16 (fun _ => 0), xI G q55 16 (fun _ => 0)] := hD
  refine lv_aload_n hx hb dX2_init_60 rfl (lv_at hl 0 rfl) ?_
  refine lv_iconst (v := 4) hx hb dX2_init_61 (by decide) ?_
  refine x_newI hx hb (hts (.arrayClass .int) (List.mem_of_getElem? (i := 4) rfl)) hK hP hD hS hA 4 (by decide) (by decide) (by decide) (by decide) (by decide) dX2_init_62 (fun q62 H hP hD hS => ?_)
  have hP : va_P (xD G) vwCl [(rA, .inr (2, [.null, .null, .int 0, .ref q7, .ref q15, .ref q23, .ref q31, .ref q39, .ref q47, .ref q55, .int 0, .null, .null, .int 0, .int 0, .int 0, .int 0])), xI G q7 16 (fun _ => 0), xI G q15 16 (fun _ => 0), xI G q23 16 (fun _ => 0), xI G q31 16 (fun _ => 0), xZ G q39 16 (fun _ => 0), xZ G q47 16 (fun _ => 0), xI G q55 16 (fun _ => 0), xI G q62 4 (fun _ => 0)] H := hP
  have hD : va_D A [(rA, .inr (2, [.null, .null, .int 0, .ref q7, .ref q15, .ref q23, .ref q31, .ref q39, .ref q47, .ref q55, .int 0, .null, .null, .int 0, .int 0, .int 0, .int 0])), xI G q7 16 (fun _ => 0), xI G q15 16 (fun _ => 0), xI G q23 16 (fun _ => 0), xI G q31 16 (fun _ => 0), xZ G q39 16 (fun _ => 0), xZ G q47 16 (fun _ => 0), xI G q55 16 (fun _ => 0), xI G q62 4 (fun _ => 0)] := hD
  refine W.widen (k := 8) (n := 116) (by decide) (by decide) ?_
  refine va_putF (D := xD G) (ci := 2) (v := .ref q62) (ty := (.array .int)) (C := RX2) (T := TX2) (N := 17) hx hb hts inX2 tyX2 tyX2_ok nmX2 hown hK hP hD hS 0 rfl rfl 11 (by decide) kl34 (fun _ h9 => h9) rfl hin rfl (by decide +kernel) rfl rfl (Nat.le_of_ble_eq_true rfl) dX2_init_64 (fun H locs hP hD hS => ?_)
  have hP : va_P (xD G) vwCl [(rA, .inr (2, [.null, .null, .int 0, .ref q7, .ref q15, .ref q23, .ref q31, .ref q39, .ref q47, .ref q55, .int 0, .ref q62, .null, .int 0, .int 0, .int 0, .int 0])), xI G q7 16 (fun _ => 0), xI G q15 16 (fun _ => 0), xI G q23 16 (fun _ => 0), xI G q31 16 (fun _ => 0), xZ G q39 16 (fun _ => 0), xZ G q47 16 (fun _ => 0), xI G q55 16 (fun _ => 0), xI G q62 4 (fun _ => 0)] H := hP
  have hD : va_D A [(rA, .inr (2, [.null, .null, .int 0, .ref q7, .ref q15, .ref q23, .ref q31, .ref q39, .ref q47, .ref q55, .int 0, .ref q62, .null, .int 0, .int 0, .int 0, .int 0])), xI G q7 16 (fun _ => 0), xI G q15 16 (fun _ => 0), xI G q23 16 (fun _ => 0), xI G q31 16 (fun _ => 0), xZ G q39 16 (fun _ => 0), xZ G q47 16 (fun _ => 0), xI G q55 16 (fun _ => 0), xI G q62 4 (fun _ => 0)] := hD
  refine lv_aload_n hx hb dX2_init_67 rfl (lv_at hl 0 rfl) ?_
  refine lv_bipush (v := 64) hx hb dX2_init_68 (by decide) ?_
  refine x_newI hx hb (hts (.arrayClass .int) (List.mem_of_getElem? (i := 4) rfl)) hK hP hD hS hA 64 (by decide) (by decide) (by decide) (by decide) (by decide) dX2_init_70 (fun q70 H hP hD hS => ?_)
  have hP : va_P (xD G) vwCl [(rA, .inr (2, [.null, .null, .int 0, .ref q7, .ref q15, .ref q23, .ref q31, .ref q39, .ref q47, .ref q55, .int 0, .ref q62, .null, .int 0, .int 0, .int 0, .int 0])), xI G q7 16 (fun _ => 0), xI G q15 16 (fun _ => 0), xI G q23 16 (fun _ => 0), xI G q31 16 (fun _ => 0), xZ G q39 16 (fun _ => 0), xZ G q47 16 (fun _ => 0), xI G q55 16 (fun _ => 0), xI G q62 4 (fun _ => 0), xI G q70 64 (fun _ => 0)] H := hP
  have hD : va_D A [(rA, .inr (2, [.null, .null, .int 0, .ref q7, .ref q15, .ref q23, .ref q31, .ref q39, .ref q47, .ref q55, .int 0, .ref q62, .null, .int 0, .int 0, .int 0, .int 0])), xI G q7 16 (fun _ => 0), xI G q15 16 (fun _ => 0), xI G q23 16 (fun _ => 0), xI G q31 16 (fun _ => 0), xZ G q39 16 (fun _ => 0), xZ G q47 16 (fun _ => 0), xI G q55 16 (fun _ => 0), xI G q62 4 (fun _ => 0), xI G q70 64 (fun _ => 0)] := hD
  refine W.widen (k := 9) (n := 180) (by decide) (by decide) ?_
  refine va_putF (D := xD G) (ci := 2) (v := .ref q70) (ty := (.array .int)) (C := RX2) (T := TX2) (N := 17) hx hb hts inX2 tyX2 tyX2_ok nmX2 hown hK hP hD hS 0 rfl rfl 12 (by decide) kl37 (fun _ h9 => h9) rfl hin rfl (by decide +kernel) rfl rfl (Nat.le_of_ble_eq_true rfl) dX2_init_72 (fun H locs hP hD hS => ?_)
  have hP : va_P (xD G) vwCl [(rA, .inr (2, [.null, .null, .int 0, .ref q7, .ref q15, .ref q23, .ref q31, .ref q39, .ref q47, .ref q55, .int 0, .ref q62, .ref q70, .int 0, .int 0, .int 0, .int 0])), xI G q7 16 (fun _ => 0), xI G q15 16 (fun _ => 0), xI G q23 16 (fun _ => 0), xI G q31 16 (fun _ => 0), xZ G q39 16 (fun _ => 0), xZ G q47 16 (fun _ => 0), xI G q55 16 (fun _ => 0), xI G q62 4 (fun _ => 0), xI G q70 64 (fun _ => 0)] H := hP
  have hD : va_D A [(rA, .inr (2, [.null, .null, .int 0, .ref q7, .ref q15, .ref q23, .ref q31, .ref q39, .ref q47, .ref q55, .int 0, .ref q62, .ref q70, .int 0, .int 0, .int 0, .int 0])), xI G q7 16 (fun _ => 0), xI G q15 16 (fun _ => 0), xI G q23 16 (fun _ => 0), xI G q31 16 (fun _ => 0), xZ G q39 16 (fun _ => 0), xZ G q47 16 (fun _ => 0), xI G q55 16 (fun _ => 0), xI G q62 4 (fun _ => 0), xI G q70 64 (fun _ => 0)] := hD
  refine lv_aload_n hx hb dX2_init_75 rfl (lv_at hl 0 rfl) ?_
  refine lv_aload_n hx hb dX2_init_76 rfl (lv_at hl 1 rfl) ?_
  refine va_putF (D := xD G) (ci := 2) (v := .ref cA) (ty := (.object "WorkBoard$Cards")) (C := RX2) (T := TX2) (N := 17) hx hb hts inX2 tyX2 tyX2_ok nmX2 hown hK hP hD hS 0 rfl rfl 0 (by decide) kl40 (fun _ h9 => h9) rfl hin rfl (by decide +kernel) rfl rfl (Nat.le_of_ble_eq_true rfl) dX2_init_77 (fun H locs hP hD hS => ?_)
  have hP : va_P (xD G) vwCl [(rA, .inr (2, [.ref cA, .null, .int 0, .ref q7, .ref q15, .ref q23, .ref q31, .ref q39, .ref q47, .ref q55, .int 0, .ref q62, .ref q70, .int 0, .int 0, .int 0, .int 0])), xI G q7 16 (fun _ => 0), xI G q15 16 (fun _ => 0), xI G q23 16 (fun _ => 0), xI G q31 16 (fun _ => 0), xZ G q39 16 (fun _ => 0), xZ G q47 16 (fun _ => 0), xI G q55 16 (fun _ => 0), xI G q62 4 (fun _ => 0), xI G q70 64 (fun _ => 0)] H := hP
  have hD : va_D A [(rA, .inr (2, [.ref cA, .null, .int 0, .ref q7, .ref q15, .ref q23, .ref q31, .ref q39, .ref q47, .ref q55, .int 0, .ref q62, .ref q70, .int 0, .int 0, .int 0, .int 0])), xI G q7 16 (fun _ => 0), xI G q15 16 (fun _ => 0), xI G q23 16 (fun _ => 0), xI G q31 16 (fun _ => 0), xZ G q39 16 (fun _ => 0), xZ G q47 16 (fun _ => 0), xI G q55 16 (fun _ => 0), xI G q62 4 (fun _ => 0), xI G q70 64 (fun _ => 0)] := hD
  refine lv_aload_n hx hb dX2_init_80 rfl (lv_at hl 0 rfl) ?_
  refine lv_aload_n hx hb dX2_init_81 rfl (lv_at hl 2 rfl) ?_
  refine va_putF (D := xD G) (ci := 2) (v := .ref uA) (ty := (.object "WorkBoard$Rules")) (C := RX2) (T := TX2) (N := 17) hx hb hts inX2 tyX2 tyX2_ok nmX2 hown hK hP hD hS 0 rfl rfl 1 (by decide) kl44 (fun _ h9 => h9) rfl hin rfl (by decide +kernel) rfl rfl (Nat.le_of_ble_eq_true rfl) dX2_init_82 (fun H locs hP hD hS => ?_)
  have hP : va_P (xD G) vwCl [(rA, .inr (2, [.ref cA, .ref uA, .int 0, .ref q7, .ref q15, .ref q23, .ref q31, .ref q39, .ref q47, .ref q55, .int 0, .ref q62, .ref q70, .int 0, .int 0, .int 0, .int 0])), xI G q7 16 (fun _ => 0), xI G q15 16 (fun _ => 0), xI G q23 16 (fun _ => 0), xI G q31 16 (fun _ => 0), xZ G q39 16 (fun _ => 0), xZ G q47 16 (fun _ => 0), xI G q55 16 (fun _ => 0), xI G q62 4 (fun _ => 0), xI G q70 64 (fun _ => 0)] H := hP
  have hD : va_D A [(rA, .inr (2, [.ref cA, .ref uA, .int 0, .ref q7, .ref q15, .ref q23, .ref q31, .ref q39, .ref q47, .ref q55, .int 0, .ref q62, .ref q70, .int 0, .int 0, .int 0, .int 0])), xI G q7 16 (fun _ => 0), xI G q15 16 (fun _ => 0), xI G q23 16 (fun _ => 0), xI G q31 16 (fun _ => 0), xZ G q39 16 (fun _ => 0), xZ G q47 16 (fun _ => 0), xI G q55 16 (fun _ => 0), xI G q62 4 (fun _ => 0), xI G q70 64 (fun _ => 0)] := hD
  refine lv_aload_n hx hb dX2_init_85 rfl (lv_at hl 0 rfl) ?_
  refine lv_iload_n hx hb dX2_init_86 rfl (lv_at hl 3 rfl) ?_
  refine va_putF (D := xD G) (ci := 2) (v := .int (b2 (u0 = true))) (ty := .boolean) (C := RX2) (T := TX2) (N := 17) hx hb hts inX2 tyX2 tyX2_ok nmX2 hown hK hP hD hS 0 rfl rfl 2 (by decide) kl48 (fun _ h9 => h9) rfl hin rfl (by decide +kernel) (b2_nr _) (b2_fit _) (Nat.le_of_ble_eq_true rfl) dX2_init_87 (fun H locs hP hD hS => ?_)
  have hP : va_P (xD G) vwCl [(rA, .inr (2, [.ref cA, .ref uA, .int (b2 (u0 = true)), .ref q7, .ref q15, .ref q23, .ref q31, .ref q39, .ref q47, .ref q55, .int 0, .ref q62, .ref q70, .int 0, .int 0, .int 0, .int 0])), xI G q7 16 (fun _ => 0), xI G q15 16 (fun _ => 0), xI G q23 16 (fun _ => 0), xI G q31 16 (fun _ => 0), xZ G q39 16 (fun _ => 0), xZ G q47 16 (fun _ => 0), xI G q55 16 (fun _ => 0), xI G q62 4 (fun _ => 0), xI G q70 64 (fun _ => 0)] H := hP
  have hD : va_D A [(rA, .inr (2, [.ref cA, .ref uA, .int (b2 (u0 = true)), .ref q7, .ref q15, .ref q23, .ref q31, .ref q39, .ref q47, .ref q55, .int 0, .ref q62, .ref q70, .int 0, .int 0, .int 0, .int 0])), xI G q7 16 (fun _ => 0), xI G q15 16 (fun _ => 0), xI G q23 16 (fun _ => 0), xI G q31 16 (fun _ => 0), xZ G q39 16 (fun _ => 0), xZ G q47 16 (fun _ => 0), xI G q55 16 (fun _ => 0), xI G q62 4 (fun _ => 0), xI G q70 64 (fun _ => 0)] := hD
  exact hq (fun k => if k = 3 then q7 else if k = 4 then q15 else if k = 5 then q23 else if k = 6 then q31 else if k = 7 then q39 else if k = 8 then q47 else if k = 9 then q55 else if k = 11 then q62 else if k = 12 then q70 else 0) H locs 90 ls dX2_init_90 (hP.sub [0, 1, 2, 3, 4, 5, 6, 7, 8, 9] rfl) (hD.sub [0, 1, 2, 3, 4, 5, 6, 7, 8, 9] (by decide) rfl) hS
