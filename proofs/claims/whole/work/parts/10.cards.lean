/-! Arrays.fill, Cards, Rules -/
set_option maxHeartbeats 4000000 in
set_option maxRecDepth 100000 in
theorem mJ7_fill_53178 (l : Launch) (G : xG) (oA : Nat) (K : Nat) (f : Nat → Int32) (v : Int32)  (hK : K ≤ 1000) : xM l yJ7_fill_53178 wsJ7_fill_53178 ({ frames := 0, cells := 0, slots := 0, locals := 0 } : Room) [.ref oA, .int v] G [xI G oA K f] [xI G oA K (fl f v K)] := by
  refine xM_of (cc := cJ7_fill_53178) (maxL := 4) (by decide) rfl (Nat.le_of_ble_eq_true rfl) ?_
  intro p e s m below meth cO ls Q A hx hb hml hown hts hP hK hD hS hA hl hq
  have hown : s.vm.findClass RJ7 = some m.cls := hown
  have hl : lv_has ls 4 [(0, .ref oA), (1, .int v)] := hl
  have hD : va_D A [xI G oA K f] := hD
  obtain ⟨H, hH⟩ : ∃ z, z = s.heap := ⟨_, rfl⟩
  obtain ⟨locs, hlocs⟩ : ∃ z : List Loc, z = [] := ⟨_, rfl⟩
  have hS : va_S A s.heap H locs := by rw [hH, hlocs]; exact hS
  have hP : va_P (xD G) vwCl [xI G oA K f] H := by rw [hH]; exact hP
  rw [← hH, ← hlocs]
  clear hH hlocs
  refine lv_iconst (v := 0) hx hb dJ7_fill_53178_0 (by decide) ?_
  refine lv_istore_n (lv' := [(2, .int 0), (0, .ref oA), (1, .int v)]) hx hb dJ7_fill_53178_1 rfl hl (by decide) rfl (fun ls hl => ?_)
  refine lv_aload_n hx hb dJ7_fill_53178_2 rfl (lv_at hl 1 rfl) ?_
  refine va_alen hx hb hK hP 0 0 rfl rfl (v := nI K) rfl dJ7_fill_53178_3 ?_
  refine lv_istore_n (lv' := [(3, .int (nI K)), (2, .int 0), (0, .ref oA), (1, .int v)]) hx hb dJ7_fill_53178_4 rfl hl (by decide) rfl (fun ls hl => ?_)
  have L5 : ∀ (kk5 i : Nat) (g : XF), i ≤ K → K + 1 ≤ i + kk5 → (g = fl f v i) → ∀ (H : Heap) (locs : List Loc), va_P (xD G) vwCl [xI G oA K g] H → va_D A [xI G oA K g] → va_S A s.heap H locs → ∀ (ls : Array Slot), lv_has ls 4 [(3, .int (nI K)), (2, .int (nI i)), (0, .ref oA), (1, .int v)] → W p l e ({ frames := 0, cells := 0, slots := 0, locals := 0 } : Room) s m #[Value.ref oA, Value.int v] below meth cO H locs 0 0 Q (F0 m 5 ls []) := by
    intro kk5
    induction kk5 with
    | zero => intro i g h1 h2; exact absurd h2 (by omega)
    | succ kk5 ih5 =>
      intro i g hi5 hk5 eg H locs hP hD hS ls hl
      refine lv_iload_n hx hb dJ7_fill_53178_5 rfl (lv_at hl 1 rfl) ?_
      refine lv_iload_n hx hb dJ7_fill_53178_6 rfl (lv_at hl 0 rfl) ?_
      refine x_icmp_ge (x := i) (y := K) (tgt := 20) hx hb (by omega) (by omega) dJ7_fill_53178_7 (by decide) (fun c7 => ?_) (fun c7 => ?_)
      · skip
        have e_2 : i = K := by omega
        rw [e_2] at eg
        subst eg
        exact hq H locs 20 ls dJ7_fill_53178_20 (hP) (hD) hS
      · skip
        refine lv_aload_n hx hb dJ7_fill_53178_10 rfl (lv_at hl 2 rfl) ?_
        refine lv_iload_n hx hb dJ7_fill_53178_11 rfl (lv_at hl 1 rfl) ?_
        refine lv_iload_n hx hb dJ7_fill_53178_12 rfl (lv_at hl 3 rfl) ?_
        refine x_iast (i := i) hx hb hK hP hD hS 0 rfl (by first | omega | assumption) (by omega) dJ7_fill_53178_13 (fun H locs hP hD hS => ?_)
        have hP : va_P (xD G) vwCl [xI G oA K (upd g i v)] H := hP
        have hD : va_D A [xI G oA K (upd g i v)] := hD
        refine lv_iinc (v := nI (i + 1)) (lv' := [(2, .int (nI (i + 1))), (3, .int (nI K)), (0, .ref oA), (1, .int v)]) hx hb dJ7_fill_53178_14 hl (k := 1) rfl (by exact nI_add i 1) (by decide) rfl (fun ls hl => ?_)
        refine lv_goto (tgt := 5) hx hb dJ7_fill_53178_17 (by decide) ?_
        exact ih5 (i + 1) (upd g i v) (by omega) (by omega) (by rw [eg]; exact fl_s _ _ _) H locs hP hD hS ls (lv_sub hl [1, 0, 2, 3] rfl)
  exact L5 (K + 1) 0 f (by omega) (by omega) ((fl_0 _ _).symm) H locs hP hD hS ls (lv_sub hl [0, 1, 2, 3] rfl)
set_option maxHeartbeats 4000000 in
set_option maxRecDepth 100000 in
theorem mX0_hasColumn (l : Launch) (G : xG) (cA : Nat) (ca : Nat → Nat) (cols : Int32) (cn : Int32) (k : Int32)   : xR l yX0_hasColumn wsX0_hasColumn ({ frames := 0, cells := 0, slots := 0, locals := 0 } : Room) [.ref cA, .int k] G [oCards cA ca cols cn] (fun r => r = b2 (inC k cols)) := by
  refine xR_of (cc := cX0_hasColumn) (maxL := 2) (ty := .boolean) (by decide) rfl (Nat.le_of_ble_eq_true rfl) ?_
  intro p e s m below meth cO ls Q hx hb hml hown hts hP hK hD hl hq
  have hown : s.vm.findClass RX0 = some m.cls := hown
  have kl34 := hts (.fieldLink RX0 34 "WorkBoard$Cards" "columns" "I") (List.mem_of_getElem? (i := 1) rfl)
  have inX0 : ∀ w ∈ u_ws RX0 TX0 9, w ∈ wsX0_hasColumn := (fun w h => List.mem_cons_of_mem _ (List.mem_append_right _ h))
  have hl : lv_has ls 2 [(0, .ref cA), (1, .int k)] := hl
  have hP : va_P (xD G) vwCl [oCards cA ca cols cn] s.heap := hP
  refine lv_iload_n hx hb dX0_hasColumn_0 rfl (lv_at hl 1 rfl) ?_
  refine lv_if_lt (x := k) (tgt := 16) hx hb dX0_hasColumn_1 (by decide) (fun c1 => ?_) (fun c1 => ?_)
  · skip
    refine lv_iconst (v := 0) hx hb dX0_hasColumn_16 (by decide) ?_
    exact hq 0 17 ls dX0_hasColumn_17 rfl (b2_f (by simp only [inC, urgP, dAh, wtP, thP, noP, ciP, c1, not_true_eq_false, not_false_eq_true, and_self, and_true, true_and, and_false, false_and])).symm
  · skip
    refine lv_iload_n hx hb dX0_hasColumn_4 rfl (lv_at hl 1 rfl) ?_
    refine lv_aload_n hx hb dX0_hasColumn_5 rfl (lv_at hl 0 rfl) ?_
    refine va_get (D := xD G) (ci := 0) (v := .int cols) (C := RX0) (T := TX0) (N := 9) hx hb hts inX0 hown hK hP 0 rfl rfl 0 (by decide) kl34 (fun _ h9 => h9) rfl dX0_hasColumn_6 ?_
    refine lv_icmp_ge (x := k) (y := cols) (tgt := 16) hx hb dX0_hasColumn_9 (by decide) (fun c9 => ?_) (fun c9 => ?_)
    · skip
      refine lv_iconst (v := 0) hx hb dX0_hasColumn_16 (by decide) ?_
      exact hq 0 17 ls dX0_hasColumn_17 rfl (b2_f (by simp only [inC, urgP, dAh, wtP, thP, noP, ciP, c1, c9, not_true_eq_false, not_false_eq_true, and_self, and_true, true_and, and_false, false_and])).symm
    · skip
      refine lv_iconst (v := 1) hx hb dX0_hasColumn_12 (by decide) ?_
      refine lv_goto (tgt := 17) hx hb dX0_hasColumn_13 (by decide) ?_
      exact hq 1 17 ls dX0_hasColumn_17 rfl (b2_t (by simp only [inC, urgP, dAh, wtP, thP, noP, ciP, c1, c9, not_true_eq_false, not_false_eq_true, and_self, and_true, true_and, and_false, false_and])).symm
set_option maxHeartbeats 4000000 in
set_option maxRecDepth 100000 in
theorem mX0_hasCard (l : Launch) (G : xG) (cA : Nat) (ca : Nat → Nat) (cols : Int32) (cn : Int32) (k : Int32)   : xR l yX0_hasCard wsX0_hasCard ({ frames := 0, cells := 0, slots := 0, locals := 0 } : Room) [.ref cA, .int k] G [oCards cA ca cols cn] (fun r => r = b2 (inC k cn)) := by
  refine xR_of (cc := cX0_hasCard) (maxL := 2) (ty := .boolean) (by decide) rfl (Nat.le_of_ble_eq_true rfl) ?_
  intro p e s m below meth cO ls Q hx hb hml hown hts hP hK hD hl hq
  have hown : s.vm.findClass RX0 = some m.cls := hown
  have kl38 := hts (.fieldLink RX0 38 "WorkBoard$Cards" "count" "I") (List.mem_of_getElem? (i := 1) rfl)
  have inX0 : ∀ w ∈ u_ws RX0 TX0 9, w ∈ wsX0_hasCard := (fun w h => List.mem_cons_of_mem _ (List.mem_append_right _ h))
  have hl : lv_has ls 2 [(0, .ref cA), (1, .int k)] := hl
  have hP : va_P (xD G) vwCl [oCards cA ca cols cn] s.heap := hP
  refine lv_iload_n hx hb dX0_hasCard_0 rfl (lv_at hl 1 rfl) ?_
  refine lv_if_lt (x := k) (tgt := 16) hx hb dX0_hasCard_1 (by decide) (fun c1 => ?_) (fun c1 => ?_)
  · skip
    refine lv_iconst (v := 0) hx hb dX0_hasCard_16 (by decide) ?_
    exact hq 0 17 ls dX0_hasCard_17 rfl (b2_f (by simp only [inC, urgP, dAh, wtP, thP, noP, ciP, c1, not_true_eq_false, not_false_eq_true, and_self, and_true, true_and, and_false, false_and])).symm
  · skip
    refine lv_iload_n hx hb dX0_hasCard_4 rfl (lv_at hl 1 rfl) ?_
    refine lv_aload_n hx hb dX0_hasCard_5 rfl (lv_at hl 0 rfl) ?_
    refine va_get (D := xD G) (ci := 0) (v := .int cn) (C := RX0) (T := TX0) (N := 9) hx hb hts inX0 hown hK hP 0 rfl rfl 1 (by decide) kl38 (fun _ h9 => h9) rfl dX0_hasCard_6 ?_
    refine lv_icmp_ge (x := k) (y := cn) (tgt := 16) hx hb dX0_hasCard_9 (by decide) (fun c9 => ?_) (fun c9 => ?_)
    · skip
      refine lv_iconst (v := 0) hx hb dX0_hasCard_16 (by decide) ?_
      exact hq 0 17 ls dX0_hasCard_17 rfl (b2_f (by simp only [inC, urgP, dAh, wtP, thP, noP, ciP, c1, c9, not_true_eq_false, not_false_eq_true, and_self, and_true, true_and, and_false, false_and])).symm
    · skip
      refine lv_iconst (v := 1) hx hb dX0_hasCard_12 (by decide) ?_
      refine lv_goto (tgt := 17) hx hb dX0_hasCard_13 (by decide) ?_
      exact hq 1 17 ls dX0_hasCard_17 rfl (b2_t (by simp only [inC, urgP, dAh, wtP, thP, noP, ciP, c1, c9, not_true_eq_false, not_false_eq_true, and_self, and_true, true_and, and_false, false_and])).symm
set_option maxHeartbeats 4000000 in
set_option maxRecDepth 100000 in
theorem mX0_clear (l : Launch) (G : xG) (cA : Nat) (ca : Nat → Nat) (cols : Int32) (cn : Int32) (k : Int32)   : xM l yX0_clear wsX0_clear ({ frames := 0, cells := 0, slots := 0, locals := 0 } : Room) [.ref cA, .int k] G [oCards cA ca cols cn] [oCards cA ca k 0] := by
  refine xM_of (cc := cX0_clear) (maxL := 2) (by decide) rfl (Nat.le_of_ble_eq_true rfl) ?_
  intro p e s m below meth cO ls Q A hx hb hml hown hts hP hK hD hS hA hl hq
  have hown : s.vm.findClass RX0 = some m.cls := hown
  have kl34 := hts (.fieldLink RX0 34 "WorkBoard$Cards" "columns" "I") (List.mem_of_getElem? (i := 1) rfl)
  have kl38 := hts (.fieldLink RX0 38 "WorkBoard$Cards" "count" "I") (List.mem_of_getElem? (i := 2) rfl)
  have inX0 : ∀ w ∈ u_ws RX0 TX0 9, w ∈ wsX0_clear := (fun w h => List.mem_cons_of_mem _ (List.mem_append_right _ h))
  have hl : lv_has ls 2 [(0, .ref cA), (1, .int k)] := hl
  have hD : va_D A [oCards cA ca cols cn] := hD
  obtain ⟨H, hH⟩ : ∃ z, z = s.heap := ⟨_, rfl⟩
  obtain ⟨locs, hlocs⟩ : ∃ z : List Loc, z = [] := ⟨_, rfl⟩
  have hS : va_S A s.heap H locs := by rw [hH, hlocs]; exact hS
  have hP : va_P (xD G) vwCl [oCards cA ca cols cn] H := by rw [hH]; exact hP
  rw [← hH, ← hlocs]
  clear hH hlocs
  refine lv_aload_n hx hb dX0_clear_0 rfl (lv_at hl 0 rfl) ?_
  refine lv_iload_n hx hb dX0_clear_1 rfl (lv_at hl 1 rfl) ?_
  refine va_put (D := xD G) (ci := 0) (v := .int k) (ty := .int) (C := RX0) (T := TX0) (N := 9) hx hb hts inX0 tyX0 tyX0_ok nmX0 hown hK hP hD hS 0 rfl rfl 0 (by decide) kl34 (fun _ h9 => h9) rfl (by decide +kernel) rfl rfl (Nat.le_of_ble_eq_true rfl) dX0_clear_2 (fun H locs hP hD hS => ?_)
  have hP : va_P (xD G) vwCl [oCards cA ca k cn] H := hP
  have hD : va_D A [oCards cA ca k cn] := hD
  refine lv_aload_n hx hb dX0_clear_5 rfl (lv_at hl 0 rfl) ?_
  refine lv_iconst (v := 0) hx hb dX0_clear_6 (by decide) ?_
  refine va_put (D := xD G) (ci := 0) (v := .int 0) (ty := .int) (C := RX0) (T := TX0) (N := 9) hx hb hts inX0 tyX0 tyX0_ok nmX0 hown hK hP hD hS 0 rfl rfl 1 (by decide) kl38 (fun _ h9 => h9) rfl (by decide +kernel) rfl rfl (Nat.le_of_ble_eq_true rfl) dX0_clear_7 (fun H locs hP hD hS => ?_)
  have hP : va_P (xD G) vwCl [oCards cA ca k 0] H := hP
  have hD : va_D A [oCards cA ca k 0] := hD
  exact hq H locs 10 ls dX0_clear_10 (hP) (hD) hS
set_option maxHeartbeats 4000000 in
set_option maxRecDepth 100000 in
theorem mX0_setSize (l : Launch) (G : xG) (cA : Nat) (ca : Nat → Nat) (cols : Int32) (cn : Int32) (szs : Nat → Int32) (c : Nat) (k0 : Nat) (v : Int32)  (hc : c < 16) (hk : k0 < 4) : xM l yX0_setSize wsX0_setSize ({ frames := 0, cells := 0, slots := 0, locals := 0 } : Room) [.ref cA, .int (nI c), .int (nI k0), .int v] G [oCards cA ca cols cn, xI G (ca 8) 64 szs] [oCards cA ca cols cn, xI G (ca 8) 64 (upd szs (c * 4 + k0) v)] := by
  refine xM_of (cc := cX0_setSize) (maxL := 4) (by decide) rfl (Nat.le_of_ble_eq_true rfl) ?_
  intro p e s m below meth cO ls Q A hx hb hml hown hts hP hK hD hS hA hl hq
  have hown : s.vm.findClass RX0 = some m.cls := hown
  have kl31 := hts (.fieldLink RX0 31 "WorkBoard$Cards" "sizes" "[I") (List.mem_of_getElem? (i := 1) rfl)
  have inX0 : ∀ w ∈ u_ws RX0 TX0 9, w ∈ wsX0_setSize := (fun w h => List.mem_cons_of_mem _ (List.mem_append_right _ h))
  have hl : lv_has ls 4 [(0, .ref cA), (1, .int (nI c)), (2, .int (nI k0)), (3, .int v)] := hl
  have hD : va_D A [oCards cA ca cols cn, xI G (ca 8) 64 szs] := hD
  obtain ⟨H, hH⟩ : ∃ z, z = s.heap := ⟨_, rfl⟩
  obtain ⟨locs, hlocs⟩ : ∃ z : List Loc, z = [] := ⟨_, rfl⟩
  have hS : va_S A s.heap H locs := by rw [hH, hlocs]; exact hS
  have hP : va_P (xD G) vwCl [oCards cA ca cols cn, xI G (ca 8) 64 szs] H := by rw [hH]; exact hP
  rw [← hH, ← hlocs]
  clear hH hlocs
  refine lv_aload_n hx hb dX0_setSize_0 rfl (lv_at hl 0 rfl) ?_
  refine va_get (D := xD G) (ci := 0) (v := .ref (ca 8)) (C := RX0) (T := TX0) (N := 9) hx hb hts inX0 hown hK hP 0 rfl rfl 8 (by decide) kl31 (fun _ h9 => h9) rfl dX0_setSize_1 ?_
  refine lv_iload_n hx hb dX0_setSize_4 rfl (lv_at hl 1 rfl) ?_
  refine lv_iconst (v := 4) hx hb dX0_setSize_5 (by decide) ?_
  refine lv_imul hx hb dX0_setSize_6 ?_
  refine x_top (y := nI (c * 4)) (pk_mul c 4) ?_
  refine lv_iload_n hx hb dX0_setSize_7 rfl (lv_at hl 2 rfl) ?_
  refine lv_iadd hx hb dX0_setSize_8 ?_
  refine x_top (y := nI ((c * 4) + k0)) (nI_add (c * 4) k0) ?_
  refine lv_iload_n hx hb dX0_setSize_9 rfl (lv_at hl 3 rfl) ?_
  refine x_iast (i := (c * 4) + k0) hx hb hK hP hD hS 1 rfl (by first | omega | assumption) (by omega) dX0_setSize_10 (fun H locs hP hD hS => ?_)
  have hP : va_P (xD G) vwCl [oCards cA ca cols cn, xI G (ca 8) 64 (upd szs ((c * 4) + k0) v)] H := hP
  have hD : va_D A [oCards cA ca cols cn, xI G (ca 8) 64 (upd szs ((c * 4) + k0) v)] := hD
  exact hq H locs 11 ls dX0_setSize_11 (by skip; exact hP) (by skip; exact hD) hS
set_option maxHeartbeats 4000000 in
set_option maxRecDepth 100000 in
theorem mX0_sizeIn (l : Launch) (G : xG) (cA : Nat) (ca : Nat → Nat) (cols : Int32) (cn : Int32) (szs : Nat → Int32) (c : Nat) (k0 : Nat)  (hc : c < 16) (hk : k0 < 4) : xR l yX0_sizeIn wsX0_sizeIn ({ frames := 0, cells := 0, slots := 0, locals := 0 } : Room) [.ref cA, .int (nI c), .int (nI k0)] G [oCards cA ca cols cn, xI G (ca 8) 64 szs] (fun r => r = szs (c * 4 + k0)) := by
  refine xR_of (cc := cX0_sizeIn) (maxL := 3) (ty := .int) (by decide) rfl (Nat.le_of_ble_eq_true rfl) ?_
  intro p e s m below meth cO ls Q hx hb hml hown hts hP hK hD hl hq
  have hown : s.vm.findClass RX0 = some m.cls := hown
  have kl31 := hts (.fieldLink RX0 31 "WorkBoard$Cards" "sizes" "[I") (List.mem_of_getElem? (i := 1) rfl)
  have inX0 : ∀ w ∈ u_ws RX0 TX0 9, w ∈ wsX0_sizeIn := (fun w h => List.mem_cons_of_mem _ (List.mem_append_right _ h))
  have hl : lv_has ls 3 [(0, .ref cA), (1, .int (nI c)), (2, .int (nI k0))] := hl
  have hP : va_P (xD G) vwCl [oCards cA ca cols cn, xI G (ca 8) 64 szs] s.heap := hP
  refine lv_aload_n hx hb dX0_sizeIn_0 rfl (lv_at hl 0 rfl) ?_
  refine va_get (D := xD G) (ci := 0) (v := .ref (ca 8)) (C := RX0) (T := TX0) (N := 9) hx hb hts inX0 hown hK hP 0 rfl rfl 8 (by decide) kl31 (fun _ h9 => h9) rfl dX0_sizeIn_1 ?_
  refine lv_iload_n hx hb dX0_sizeIn_4 rfl (lv_at hl 1 rfl) ?_
  refine lv_iconst (v := 4) hx hb dX0_sizeIn_5 (by decide) ?_
  refine lv_imul hx hb dX0_sizeIn_6 ?_
  refine x_top (y := nI (c * 4)) (pk_mul c 4) ?_
  refine lv_iload_n hx hb dX0_sizeIn_7 rfl (lv_at hl 2 rfl) ?_
  refine lv_iadd hx hb dX0_sizeIn_8 ?_
  refine x_top (y := nI ((c * 4) + k0)) (nI_add (c * 4) k0) ?_
  refine x_iald (i := (c * 4) + k0) hx hb hK hP 1 rfl (by first | omega | assumption) (by omega) dX0_sizeIn_9 ?_
  exact hq (szs ((c * 4) + k0)) 10 ls dX0_sizeIn_10 rfl rfl
set_option maxHeartbeats 4000000 in
set_option maxRecDepth 100000 in
theorem mX0_insertByDay (l : Launch) (G : xG) (cA : Nat) (ca : Nat → Nat) (cols : Int32) (n : Nat) (cday : Nat → Int32) (byd : Nat → Int32) (c : Nat)  (hn : n < 16) (hc : c < 16) (hv : ∀ j, j < n → vp_in (byd j) 16) : xM l yX0_insertByDay wsX0_insertByDay ({ frames := 0, cells := 0, slots := 0, locals := 0 } : Room) [.ref cA, .int (nI c)] G [oCards cA ca cols (nI n), xI G (ca 2) 16 cday, xI G (ca 7) 16 byd] [oCards cA ca cols (nI n), xI G (ca 2) 16 cday, xI G (ca 7) 16 (insF cday c byd n)] := by
  refine xM_of (cc := cX0_insertByDay) (maxL := 3) (by decide) rfl (Nat.le_of_ble_eq_true rfl) ?_
  intro p e s m below meth cO ls Q A hx hb hml hown hts hP hK hD hS hA hl hq
  have hown : s.vm.findClass RX0 = some m.cls := hown
  have kl38 := hts (.fieldLink RX0 38 "WorkBoard$Cards" "count" "I") (List.mem_of_getElem? (i := 1) rfl)
  have kl9 := hts (.fieldLink RX0 9 "WorkBoard$Cards" "day" "[I") (List.mem_of_getElem? (i := 2) rfl)
  have kl28 := hts (.fieldLink RX0 28 "WorkBoard$Cards" "byDay" "[I") (List.mem_of_getElem? (i := 3) rfl)
  have inX0 : ∀ w ∈ u_ws RX0 TX0 9, w ∈ wsX0_insertByDay := (fun w h => List.mem_cons_of_mem _ (List.mem_append_right _ h))
  have hl : lv_has ls 3 [(0, .ref cA), (1, .int (nI c))] := hl
  have hD : va_D A [oCards cA ca cols (nI n), xI G (ca 2) 16 cday, xI G (ca 7) 16 byd] := hD
  obtain ⟨H, hH⟩ : ∃ z, z = s.heap := ⟨_, rfl⟩
  obtain ⟨locs, hlocs⟩ : ∃ z : List Loc, z = [] := ⟨_, rfl⟩
  have hS : va_S A s.heap H locs := by rw [hH, hlocs]; exact hS
  have hP : va_P (xD G) vwCl [oCards cA ca cols (nI n), xI G (ca 2) 16 cday, xI G (ca 7) 16 byd] H := by rw [hH]; exact hP
  rw [← hH, ← hlocs]
  clear hH hlocs
  refine lv_aload_n hx hb dX0_insertByDay_0 rfl (lv_at hl 0 rfl) ?_
  refine va_get (D := xD G) (ci := 0) (v := .int (nI n)) (C := RX0) (T := TX0) (N := 9) hx hb hts inX0 hown hK hP 0 rfl rfl 1 (by decide) kl38 (fun _ h9 => h9) rfl dX0_insertByDay_1 ?_
  refine lv_istore_n (lv' := [(2, .int (nI n)), (0, .ref cA), (1, .int (nI c))]) hx hb dX0_insertByDay_4 rfl hl (by decide) rfl (fun ls hl => ?_)
  have L5 : ∀ (i : Nat) (b : XF), i ≤ n → (insF cday c b i = insF cday c byd n) → (∀ j, j < i → vp_in (b j) 16) → ∀ (H : Heap) (locs : List Loc), va_P (xD G) vwCl [oCards cA ca cols (nI n), xI G (ca 2) 16 cday, xI G (ca 7) 16 b] H → va_D A [oCards cA ca cols (nI n), xI G (ca 2) 16 cday, xI G (ca 7) 16 b] → va_S A s.heap H locs → ∀ (ls : Array Slot), lv_has ls 3 [(2, .int (nI i)), (0, .ref cA), (1, .int (nI c))] → W p l e ({ frames := 0, cells := 0, slots := 0, locals := 0 } : Room) s m #[Value.ref cA, Value.int (nI c)] below meth cO H locs 0 0 Q (F0 m 5 ls []) := by
    intro i
    induction i with
    | zero =>
      intro b hi5 eb hv2 H locs hP hD hS ls hl
      have hl : lv_has ls 3 [(2, .int 0), (0, .ref cA), (1, .int (nI c))] := hl
      refine lv_iload_n hx hb dX0_insertByDay_5 rfl (lv_at hl 0 rfl) ?_
      refine lv_if_le (x := 0) (tgt := 51) hx hb dX0_insertByDay_6 (by decide) (fun c6 => ?_) (fun c6 => ?_)
      · skip
        refine lv_aload_n hx hb dX0_insertByDay_51 rfl (lv_at hl 1 rfl) ?_
        refine va_get (D := xD G) (ci := 0) (v := .ref (ca 7)) (C := RX0) (T := TX0) (N := 9) hx hb hts inX0 hown hK hP 0 rfl rfl 7 (by decide) kl28 (fun _ h9 => h9) rfl dX0_insertByDay_52 ?_
        refine lv_iload_n hx hb dX0_insertByDay_55 rfl (lv_at hl 0 rfl) ?_
        refine lv_iload_n hx hb dX0_insertByDay_56 rfl (lv_at hl 2 rfl) ?_
        refine x_iast (i := 0) hx hb hK hP hD hS 2 rfl (by first | omega | assumption) (by omega) dX0_insertByDay_57 (fun H locs hP hD hS => ?_)
        have hP : va_P (xD G) vwCl [oCards cA ca cols (nI n), xI G (ca 2) 16 cday, xI G (ca 7) 16 (upd b 0 (nI c))] H := hP
        have hD : va_D A [oCards cA ca cols (nI n), xI G (ca 2) 16 cday, xI G (ca 7) 16 (upd b 0 (nI c))] := hD
        have eF : insF cday c byd n = upd b 0 (nI c) := by rw [← eb]; rfl
        rw [eF] at hq
        exact hq H locs 58 ls dX0_insertByDay_58 (by skip; exact hP) (by skip; exact hD) hS
      · skip
        exact absurd (by decide) c6
    | succ i ih5 =>
      intro b hi5 eb hv2 H locs hP hD hS ls hl
      have hl : lv_has ls 3 [(2, .int (nI (i + 1))), (0, .ref cA), (1, .int (nI c))] := hl
      refine lv_iload_n hx hb dX0_insertByDay_5 rfl (lv_at hl 0 rfl) ?_
      refine lv_if_le (x := nI (i + 1)) (tgt := 51) hx hb dX0_insertByDay_6 (by decide) (fun c6 => ?_) (fun c6 => ?_)
      · skip
        exact absurd c6 (nI_nle (by omega) (by omega))
      · skip
        have hb9 := hv2 i (by omega)
        have hb8 : ix b i < 16 := vp_lt hb9
        refine lv_aload_n hx hb dX0_insertByDay_9 rfl (lv_at hl 1 rfl) ?_
        refine va_get (D := xD G) (ci := 0) (v := .ref (ca 2)) (C := RX0) (T := TX0) (N := 9) hx hb hts inX0 hown hK hP 0 rfl rfl 2 (by decide) kl9 (fun _ h9 => h9) rfl dX0_insertByDay_10 ?_
        refine lv_aload_n hx hb dX0_insertByDay_13 rfl (lv_at hl 1 rfl) ?_
        refine va_get (D := xD G) (ci := 0) (v := .ref (ca 7)) (C := RX0) (T := TX0) (N := 9) hx hb hts inX0 hown hK hP 0 rfl rfl 7 (by decide) kl28 (fun _ h9 => h9) rfl dX0_insertByDay_14 ?_
        refine lv_iload_n hx hb dX0_insertByDay_17 rfl (lv_at hl 0 rfl) ?_
        refine lv_iconst (v := 1) hx hb dX0_insertByDay_18 (by decide) ?_
        refine lv_isub hx hb dX0_insertByDay_19 ?_
        refine x_top (y := nI i) (nI_pred i) ?_
        refine x_iald (i := i) hx hb hK hP 2 rfl (by first | omega | assumption) (by omega) dX0_insertByDay_20 ?_
        refine x_top (y := nI (ix b i)) (nI_self hb9) ?_
        refine x_iald (i := ix b i) hx hb hK hP 1 rfl (by first | omega | assumption) (by omega) dX0_insertByDay_21 ?_
        refine lv_aload_n hx hb dX0_insertByDay_22 rfl (lv_at hl 1 rfl) ?_
        refine va_get (D := xD G) (ci := 0) (v := .ref (ca 2)) (C := RX0) (T := TX0) (N := 9) hx hb hts inX0 hown hK hP 0 rfl rfl 2 (by decide) kl9 (fun _ h9 => h9) rfl dX0_insertByDay_23 ?_
        refine lv_iload_n hx hb dX0_insertByDay_26 rfl (lv_at hl 2 rfl) ?_
        refine x_iald (i := c) hx hb hK hP 1 rfl (by first | omega | assumption) (by omega) dX0_insertByDay_27 ?_
        refine lv_icmp_le (x := cday (ix b i)) (y := cday c) (tgt := 51) hx hb dX0_insertByDay_28 (by decide) (fun c28 => ?_) (fun c28 => ?_)
        · skip
          refine lv_aload_n hx hb dX0_insertByDay_51 rfl (lv_at hl 1 rfl) ?_
          refine va_get (D := xD G) (ci := 0) (v := .ref (ca 7)) (C := RX0) (T := TX0) (N := 9) hx hb hts inX0 hown hK hP 0 rfl rfl 7 (by decide) kl28 (fun _ h9 => h9) rfl dX0_insertByDay_52 ?_
          refine lv_iload_n hx hb dX0_insertByDay_55 rfl (lv_at hl 0 rfl) ?_
          refine lv_iload_n hx hb dX0_insertByDay_56 rfl (lv_at hl 2 rfl) ?_
          refine x_iast (i := i + 1) hx hb hK hP hD hS 2 rfl (by first | omega | assumption) (by omega) dX0_insertByDay_57 (fun H locs hP hD hS => ?_)
          have hP : va_P (xD G) vwCl [oCards cA ca cols (nI n), xI G (ca 2) 16 cday, xI G (ca 7) 16 (upd b (i + 1) (nI c))] H := hP
          have hD : va_D A [oCards cA ca cols (nI n), xI G (ca 2) 16 cday, xI G (ca 7) 16 (upd b (i + 1) (nI c))] := hD
          have eF : insF cday c byd n = upd b (i + 1) (nI c) := by rw [← eb]; simp only [insF]; rw [if_pos c28]
          rw [eF] at hq
          exact hq H locs 58 ls dX0_insertByDay_58 (by skip; exact hP) (by skip; exact hD) hS
        · skip
          refine lv_aload_n hx hb dX0_insertByDay_31 rfl (lv_at hl 1 rfl) ?_
          refine va_get (D := xD G) (ci := 0) (v := .ref (ca 7)) (C := RX0) (T := TX0) (N := 9) hx hb hts inX0 hown hK hP 0 rfl rfl 7 (by decide) kl28 (fun _ h9 => h9) rfl dX0_insertByDay_32 ?_
          refine lv_iload_n hx hb dX0_insertByDay_35 rfl (lv_at hl 0 rfl) ?_
          refine lv_aload_n hx hb dX0_insertByDay_36 rfl (lv_at hl 1 rfl) ?_
          refine va_get (D := xD G) (ci := 0) (v := .ref (ca 7)) (C := RX0) (T := TX0) (N := 9) hx hb hts inX0 hown hK hP 0 rfl rfl 7 (by decide) kl28 (fun _ h9 => h9) rfl dX0_insertByDay_37 ?_
          refine lv_iload_n hx hb dX0_insertByDay_40 rfl (lv_at hl 0 rfl) ?_
          refine lv_iconst (v := 1) hx hb dX0_insertByDay_41 (by decide) ?_
          refine lv_isub hx hb dX0_insertByDay_42 ?_
          refine x_top (y := nI i) (nI_pred i) ?_
          refine x_iald (i := i) hx hb hK hP 2 rfl (by first | omega | assumption) (by omega) dX0_insertByDay_43 ?_
          refine x_iast (i := i + 1) hx hb hK hP hD hS 2 rfl (by first | omega | assumption) (by omega) dX0_insertByDay_44 (fun H locs hP hD hS => ?_)
          have hP : va_P (xD G) vwCl [oCards cA ca cols (nI n), xI G (ca 2) 16 cday, xI G (ca 7) 16 (upd b (i + 1) (b i))] H := hP
          have hD : va_D A [oCards cA ca cols (nI n), xI G (ca 2) 16 cday, xI G (ca 7) 16 (upd b (i + 1) (b i))] := hD
          refine lv_iinc (v := nI i) (lv' := [(2, .int (nI i)), (0, .ref cA), (1, .int (nI c))]) hx hb dX0_insertByDay_45 hl (k := 0) rfl (show nI (i + 1) + Int32.ofInt (-1) = nI i from pk_m1 i) (by decide) rfl (fun ls hl => ?_)
          refine lv_goto (tgt := 5) hx hb dX0_insertByDay_48 (by decide) ?_
          exact ih5 (upd b (i + 1) (b i)) (by omega) (by rw [← eb]; simp only [insF]; rw [if_neg c28]) (fun j hj => by rw [show upd b (i + 1) (b i) j = b j from if_neg (by omega)]; exact hv2 j (by omega)) H locs hP hD hS ls (lv_sub hl [0, 1, 2] rfl)
  exact L5 n byd (by omega) (rfl) (hv) H locs hP hD hS ls (lv_sub hl [0, 1, 2] rfl)
set_option maxHeartbeats 4000000 in
set_option maxRecDepth 100000 in
theorem mX0_addCard (l : Launch) (G : xG) (cA : Nat) (ca : Nat → Nat) (cols : Int32) (n : Nat) (cday : Nat → Int32) (urg : Nat → Int32) (waits : Nat → Int32) (bfrom : Nat → Int32) (bto : Nat → Int32) (byd : Nat → Int32) (szs : Nat → Int32) (v : Int32) (w : Int32)  (hn : n < 16) (hv : ∀ j, j < n → vp_in (byd j) 16) (hw : vp_nar .boolean w = w) : xN l yX0_addCard wsX0_addCard ({ frames := 1, cells := 0, slots := 0, locals := 23 } : Room) [.ref cA, .int v, .int w] G [oCards cA ca cols (nI n), xI G (ca 2) 16 cday, xZ G (ca 3) 16 urg, xI G (ca 4) 16 waits, xI G (ca 5) 16 bfrom, xI G (ca 6) 16 bto, xI G (ca 7) 16 byd, xI G (ca 8) 64 szs] [oCards cA ca cols (nI (n + 1)), xI G (ca 2) 16 (upd cday n v), xZ G (ca 3) 16 (upd urg n w), xI G (ca 4) 16 (upd waits n (-1)), xI G (ca 5) 16 (upd bfrom n (-1)), xI G (ca 6) 16 (upd bto n (-1)), xI G (ca 7) 16 (insF (upd cday n v) n byd n), xI G (ca 8) 64 (sz4 szs n 4)] (nI n) := by
  refine xN_of (cc := cX0_addCard) (maxL := 5) (ty := .int) (by decide) rfl (Nat.le_of_ble_eq_true rfl) ?_
  intro p e s m below meth cO ls Q A hx hb hml hown hts hP hK hD hS hA hl hq
  have hown : s.vm.findClass RX0 = some m.cls := hown
  have kl38 := hts (.fieldLink RX0 38 "WorkBoard$Cards" "count" "I") (List.mem_of_getElem? (i := 1) rfl)
  have kl9 := hts (.fieldLink RX0 9 "WorkBoard$Cards" "day" "[I") (List.mem_of_getElem? (i := 2) rfl)
  have kl15 := hts (.fieldLink RX0 15 "WorkBoard$Cards" "urgent" "[Z") (List.mem_of_getElem? (i := 3) rfl)
  have kl19 := hts (.fieldLink RX0 19 "WorkBoard$Cards" "waitsFor" "[I") (List.mem_of_getElem? (i := 4) rfl)
  have kl22 := hts (.fieldLink RX0 22 "WorkBoard$Cards" "backFrom" "[I") (List.mem_of_getElem? (i := 5) rfl)
  have kl25 := hts (.fieldLink RX0 25 "WorkBoard$Cards" "backTo" "[I") (List.mem_of_getElem? (i := 6) rfl)
  have inX0 : ∀ w ∈ u_ws RX0 TX0 9, w ∈ wsX0_addCard := (fun w h => List.mem_cons_of_mem _ (List.mem_append_right _ h))
  have hl : lv_has ls 5 [(0, .ref cA), (1, .int v), (2, .int w)] := hl
  have hD : va_D A [oCards cA ca cols (nI n), xI G (ca 2) 16 cday, xZ G (ca 3) 16 urg, xI G (ca 4) 16 waits, xI G (ca 5) 16 bfrom, xI G (ca 6) 16 bto, xI G (ca 7) 16 byd, xI G (ca 8) 64 szs] := hD
  obtain ⟨H, hH⟩ : ∃ z, z = s.heap := ⟨_, rfl⟩
  obtain ⟨locs, hlocs⟩ : ∃ z : List Loc, z = [] := ⟨_, rfl⟩
  have hS : va_S A s.heap H locs := by rw [hH, hlocs]; exact hS
  have hP : va_P (xD G) vwCl [oCards cA ca cols (nI n), xI G (ca 2) 16 cday, xZ G (ca 3) 16 urg, xI G (ca 4) 16 waits, xI G (ca 5) 16 bfrom, xI G (ca 6) 16 bto, xI G (ca 7) 16 byd, xI G (ca 8) 64 szs] H := by rw [hH]; exact hP
  rw [← hH, ← hlocs]
  clear hH hlocs
  refine lv_aload_n hx hb dX0_addCard_0 rfl (lv_at hl 0 rfl) ?_
  refine va_get (D := xD G) (ci := 0) (v := .int (nI n)) (C := RX0) (T := TX0) (N := 9) hx hb hts inX0 hown hK hP 0 rfl rfl 1 (by decide) kl38 (fun _ h9 => h9) rfl dX0_addCard_1 ?_
  refine lv_istore_n (lv' := [(3, .int (nI n)), (0, .ref cA), (1, .int v), (2, .int w)]) hx hb dX0_addCard_4 rfl hl (by decide) rfl (fun ls hl => ?_)
  refine lv_aload_n hx hb dX0_addCard_5 rfl (lv_at hl 1 rfl) ?_
  refine va_get (D := xD G) (ci := 0) (v := .ref (ca 2)) (C := RX0) (T := TX0) (N := 9) hx hb hts inX0 hown hK hP 0 rfl rfl 2 (by decide) kl9 (fun _ h9 => h9) rfl dX0_addCard_6 ?_
  refine lv_iload_n hx hb dX0_addCard_9 rfl (lv_at hl 0 rfl) ?_
  refine lv_iload_n hx hb dX0_addCard_10 rfl (lv_at hl 2 rfl) ?_
  refine x_iast (i := n) hx hb hK hP hD hS 1 rfl (by first | omega | assumption) (by omega) dX0_addCard_11 (fun H locs hP hD hS => ?_)
  have hP : va_P (xD G) vwCl [oCards cA ca cols (nI n), xI G (ca 2) 16 (upd cday n v), xZ G (ca 3) 16 urg, xI G (ca 4) 16 waits, xI G (ca 5) 16 bfrom, xI G (ca 6) 16 bto, xI G (ca 7) 16 byd, xI G (ca 8) 64 szs] H := hP
  have hD : va_D A [oCards cA ca cols (nI n), xI G (ca 2) 16 (upd cday n v), xZ G (ca 3) 16 urg, xI G (ca 4) 16 waits, xI G (ca 5) 16 bfrom, xI G (ca 6) 16 bto, xI G (ca 7) 16 byd, xI G (ca 8) 64 szs] := hD
  refine lv_aload_n hx hb dX0_addCard_12 rfl (lv_at hl 1 rfl) ?_
  refine va_get (D := xD G) (ci := 0) (v := .ref (ca 3)) (C := RX0) (T := TX0) (N := 9) hx hb hts inX0 hown hK hP 0 rfl rfl 3 (by decide) kl15 (fun _ h9 => h9) rfl dX0_addCard_13 ?_
  refine lv_iload_n hx hb dX0_addCard_16 rfl (lv_at hl 0 rfl) ?_
  refine lv_iload_n hx hb dX0_addCard_17 rfl (lv_at hl 3 rfl) ?_
  refine x_zast (i := n) hx hb hK hP hD hS 2 rfl (by first | omega | assumption) (by omega) (hw) dX0_addCard_18 (fun H locs hP hD hS => ?_)
  have hP : va_P (xD G) vwCl [oCards cA ca cols (nI n), xI G (ca 2) 16 (upd cday n v), xZ G (ca 3) 16 (upd urg n w), xI G (ca 4) 16 waits, xI G (ca 5) 16 bfrom, xI G (ca 6) 16 bto, xI G (ca 7) 16 byd, xI G (ca 8) 64 szs] H := hP
  have hD : va_D A [oCards cA ca cols (nI n), xI G (ca 2) 16 (upd cday n v), xZ G (ca 3) 16 (upd urg n w), xI G (ca 4) 16 waits, xI G (ca 5) 16 bfrom, xI G (ca 6) 16 bto, xI G (ca 7) 16 byd, xI G (ca 8) 64 szs] := hD
  refine lv_aload_n hx hb dX0_addCard_19 rfl (lv_at hl 1 rfl) ?_
  refine va_get (D := xD G) (ci := 0) (v := .ref (ca 4)) (C := RX0) (T := TX0) (N := 9) hx hb hts inX0 hown hK hP 0 rfl rfl 4 (by decide) kl19 (fun _ h9 => h9) rfl dX0_addCard_20 ?_
  refine lv_iload_n hx hb dX0_addCard_23 rfl (lv_at hl 0 rfl) ?_
  refine lv_iconst (v := (-1)) hx hb dX0_addCard_24 (by decide) ?_
  refine x_iast (i := n) hx hb hK hP hD hS 3 rfl (by first | omega | assumption) (by omega) dX0_addCard_25 (fun H locs hP hD hS => ?_)
  have hP : va_P (xD G) vwCl [oCards cA ca cols (nI n), xI G (ca 2) 16 (upd cday n v), xZ G (ca 3) 16 (upd urg n w), xI G (ca 4) 16 (upd waits n (-1)), xI G (ca 5) 16 bfrom, xI G (ca 6) 16 bto, xI G (ca 7) 16 byd, xI G (ca 8) 64 szs] H := hP
  have hD : va_D A [oCards cA ca cols (nI n), xI G (ca 2) 16 (upd cday n v), xZ G (ca 3) 16 (upd urg n w), xI G (ca 4) 16 (upd waits n (-1)), xI G (ca 5) 16 bfrom, xI G (ca 6) 16 bto, xI G (ca 7) 16 byd, xI G (ca 8) 64 szs] := hD
  refine lv_aload_n hx hb dX0_addCard_26 rfl (lv_at hl 1 rfl) ?_
  refine va_get (D := xD G) (ci := 0) (v := .ref (ca 5)) (C := RX0) (T := TX0) (N := 9) hx hb hts inX0 hown hK hP 0 rfl rfl 5 (by decide) kl22 (fun _ h9 => h9) rfl dX0_addCard_27 ?_
  refine lv_iload_n hx hb dX0_addCard_30 rfl (lv_at hl 0 rfl) ?_
  refine lv_iconst (v := (-1)) hx hb dX0_addCard_31 (by decide) ?_
  refine x_iast (i := n) hx hb hK hP hD hS 4 rfl (by first | omega | assumption) (by omega) dX0_addCard_32 (fun H locs hP hD hS => ?_)
  have hP : va_P (xD G) vwCl [oCards cA ca cols (nI n), xI G (ca 2) 16 (upd cday n v), xZ G (ca 3) 16 (upd urg n w), xI G (ca 4) 16 (upd waits n (-1)), xI G (ca 5) 16 (upd bfrom n (-1)), xI G (ca 6) 16 bto, xI G (ca 7) 16 byd, xI G (ca 8) 64 szs] H := hP
  have hD : va_D A [oCards cA ca cols (nI n), xI G (ca 2) 16 (upd cday n v), xZ G (ca 3) 16 (upd urg n w), xI G (ca 4) 16 (upd waits n (-1)), xI G (ca 5) 16 (upd bfrom n (-1)), xI G (ca 6) 16 bto, xI G (ca 7) 16 byd, xI G (ca 8) 64 szs] := hD
  refine lv_aload_n hx hb dX0_addCard_33 rfl (lv_at hl 1 rfl) ?_
  refine va_get (D := xD G) (ci := 0) (v := .ref (ca 6)) (C := RX0) (T := TX0) (N := 9) hx hb hts inX0 hown hK hP 0 rfl rfl 6 (by decide) kl25 (fun _ h9 => h9) rfl dX0_addCard_34 ?_
  refine lv_iload_n hx hb dX0_addCard_37 rfl (lv_at hl 0 rfl) ?_
  refine lv_iconst (v := (-1)) hx hb dX0_addCard_38 (by decide) ?_
  refine x_iast (i := n) hx hb hK hP hD hS 5 rfl (by first | omega | assumption) (by omega) dX0_addCard_39 (fun H locs hP hD hS => ?_)
  have hP : va_P (xD G) vwCl [oCards cA ca cols (nI n), xI G (ca 2) 16 (upd cday n v), xZ G (ca 3) 16 (upd urg n w), xI G (ca 4) 16 (upd waits n (-1)), xI G (ca 5) 16 (upd bfrom n (-1)), xI G (ca 6) 16 (upd bto n (-1)), xI G (ca 7) 16 byd, xI G (ca 8) 64 szs] H := hP
  have hD : va_D A [oCards cA ca cols (nI n), xI G (ca 2) 16 (upd cday n v), xZ G (ca 3) 16 (upd urg n w), xI G (ca 4) 16 (upd waits n (-1)), xI G (ca 5) 16 (upd bfrom n (-1)), xI G (ca 6) 16 (upd bto n (-1)), xI G (ca 7) 16 byd, xI G (ca 8) 64 szs] := hD
  refine lv_iconst (v := 0) hx hb dX0_addCard_40 (by decide) ?_
  refine lv_istore (lv' := [(4, .int 0), (3, .int (nI n)), (0, .ref cA), (1, .int v), (2, .int w)]) hx hb dX0_addCard_41 hl (by decide) rfl (fun ls hl => ?_)
  have L43 : ∀ (kk43 i : Nat) (z1 : XF), i ≤ 4 → 4 + 1 ≤ i + kk43 → (z1 = sz4 szs n i) → ∀ (H : Heap) (locs : List Loc), va_P (xD G) vwCl [oCards cA ca cols (nI n), xI G (ca 2) 16 (upd cday n v), xZ G (ca 3) 16 (upd urg n w), xI G (ca 4) 16 (upd waits n (-1)), xI G (ca 5) 16 (upd bfrom n (-1)), xI G (ca 6) 16 (upd bto n (-1)), xI G (ca 7) 16 byd, xI G (ca 8) 64 z1] H → va_D A [oCards cA ca cols (nI n), xI G (ca 2) 16 (upd cday n v), xZ G (ca 3) 16 (upd urg n w), xI G (ca 4) 16 (upd waits n (-1)), xI G (ca 5) 16 (upd bfrom n (-1)), xI G (ca 6) 16 (upd bto n (-1)), xI G (ca 7) 16 byd, xI G (ca 8) 64 z1] → va_S A s.heap H locs → ∀ (ls : Array Slot), lv_has ls 5 [(4, .int (nI i)), (3, .int (nI n)), (0, .ref cA), (1, .int v), (2, .int w)] → W p l e ({ frames := 1, cells := 0, slots := 0, locals := 23 } : Room) s m #[Value.ref cA, Value.int v, Value.int w] below meth cO H locs 0 0 Q (F0 m 43 ls []) := by
    intro kk43
    induction kk43 with
    | zero => intro i z1 h1 h2; exact absurd h2 (by omega)
    | succ kk43 ih43 =>
      intro i z1 hi43 hk43 ez H locs hP hD hS ls hl
      refine lv_iload hx hb dX0_addCard_43 (lv_at hl 0 rfl) ?_
      refine lv_iconst (v := 4) hx hb dX0_addCard_45 (by decide) ?_
      refine x_icmp_ge (x := i) (y := 4) (tgt := 63) hx hb (by omega) (by omega) dX0_addCard_46 (by decide) (fun c46 => ?_) (fun c46 => ?_)
      · skip
        have e_2 : i = 4 := by omega
        rw [e_2] at ez
        subst ez
        refine lv_aload_n hx hb dX0_addCard_63 rfl (lv_at hl 2 rfl) ?_
        refine lv_iload_n hx hb dX0_addCard_64 rfl (lv_at hl 1 rfl) ?_
        refine x_callM (As := [.int (nI n)]) (rest := []) (w2 := [oCards cA ca cols (nI n), xI G (ca 2) 16 (upd cday n v), xZ G (ca 3) 16 (upd urg n w), xI G (ca 4) 16 (upd waits n (-1)), xI G (ca 5) 16 (upd bfrom n (-1)), xI G (ca 6) 16 (upd bto n (-1)), xI G (ca 7) 16 (insF (upd cday n v) n byd n), xI G (ca 8) 64 (sz4 szs n 4)]) (wr := [xZ G (ca 3) 16 (upd urg n w), xI G (ca 4) 16 (upd waits n (-1)), xI G (ca 5) 16 (upd bfrom n (-1)), xI G (ca 6) 16 (upd bto n (-1)), xI G (ca 8) 64 (sz4 szs n 4)]) (ci := 0) (q0 := 0) ⟨hx, hb, hml, hown, hts⟩ (mX0_insertByDay l G cA ca cols n (upd cday n v) byd n (by first | assumption | omega) (by first | assumption | omega) (by first | assumption | omega)) (cwV 1 hts gX0_addCard_X0_insertByDay rfl rfl rfl (by decide +kernel) ⟨Nat.le_of_ble_eq_true rfl, Nat.le_of_ble_eq_true rfl⟩) hK hP hD hS hA [0, 1, 6] [2, 3, 4, 5, 7] [5, 6, 0, 1, 2, 3, 7, 4] rfl rfl rfl rfl rfl (by decide) rfl rfl rfl rfl rfl rfl rfl hl.1 rfl (Nat.le_of_ble_eq_true rfl) dX0_addCard_65 ⟨Nat.zero_le _, Nat.zero_le _⟩ (fun H locs hP hD hS => ?_)
        refine lv_aload_n hx hb dX0_addCard_68 rfl (lv_at hl 2 rfl) ?_
        refine lv_dup hx hb dX0_addCard_69 rfl ?_
        refine va_get (D := xD G) (ci := 0) (v := .int (nI n)) (C := RX0) (T := TX0) (N := 9) hx hb hts inX0 hown hK hP 0 rfl rfl 1 (by decide) kl38 (fun _ h9 => h9) rfl dX0_addCard_70 ?_
        refine lv_iconst (v := 1) hx hb dX0_addCard_73 (by decide) ?_
        refine lv_iadd hx hb dX0_addCard_74 ?_
        refine x_top (y := nI (n + 1)) (nI_add n 1) ?_
        refine va_put (D := xD G) (ci := 0) (v := .int (nI (n + 1))) (ty := .int) (C := RX0) (T := TX0) (N := 9) hx hb hts inX0 tyX0 tyX0_ok nmX0 hown hK hP hD hS 0 rfl rfl 1 (by decide) kl38 (fun _ h9 => h9) rfl (by decide +kernel) rfl rfl (Nat.le_of_ble_eq_true rfl) dX0_addCard_75 (fun H locs hP hD hS => ?_)
        have hP : va_P (xD G) vwCl [oCards cA ca cols (nI (n + 1)), xI G (ca 2) 16 (upd cday n v), xZ G (ca 3) 16 (upd urg n w), xI G (ca 4) 16 (upd waits n (-1)), xI G (ca 5) 16 (upd bfrom n (-1)), xI G (ca 6) 16 (upd bto n (-1)), xI G (ca 7) 16 (insF (upd cday n v) n byd n), xI G (ca 8) 64 (sz4 szs n 4)] H := hP
        have hD : va_D A [oCards cA ca cols (nI (n + 1)), xI G (ca 2) 16 (upd cday n v), xZ G (ca 3) 16 (upd urg n w), xI G (ca 4) 16 (upd waits n (-1)), xI G (ca 5) 16 (upd bfrom n (-1)), xI G (ca 6) 16 (upd bto n (-1)), xI G (ca 7) 16 (insF (upd cday n v) n byd n), xI G (ca 8) 64 (sz4 szs n 4)] := hD
        refine lv_iload_n hx hb dX0_addCard_78 rfl (lv_at hl 1 rfl) ?_
        exact hq (nI n) H locs 79 ls dX0_addCard_79 rfl (rfl) (hP) (hD) hS
      · skip
        refine lv_aload_n hx hb dX0_addCard_49 rfl (lv_at hl 2 rfl) ?_
        refine lv_iload_n hx hb dX0_addCard_50 rfl (lv_at hl 1 rfl) ?_
        refine lv_iload hx hb dX0_addCard_51 (lv_at hl 0 rfl) ?_
        refine lv_iconst (v := 1) hx hb dX0_addCard_53 (by decide) ?_
        refine x_callM (As := [.int (nI n), .int (nI i), .int 1]) (rest := []) (w2 := [oCards cA ca cols (nI n), xI G (ca 2) 16 (upd cday n v), xZ G (ca 3) 16 (upd urg n w), xI G (ca 4) 16 (upd waits n (-1)), xI G (ca 5) 16 (upd bfrom n (-1)), xI G (ca 6) 16 (upd bto n (-1)), xI G (ca 7) 16 byd, xI G (ca 8) 64 (upd z1 (n * 4 + i) 1)]) (wr := [xI G (ca 2) 16 (upd cday n v), xZ G (ca 3) 16 (upd urg n w), xI G (ca 4) 16 (upd waits n (-1)), xI G (ca 5) 16 (upd bfrom n (-1)), xI G (ca 6) 16 (upd bto n (-1)), xI G (ca 7) 16 byd]) (ci := 0) (q0 := 0) ⟨hx, hb, hml, hown, hts⟩ (mX0_setSize l G cA ca cols (nI n) z1 n i 1 (by first | assumption | omega) (by first | assumption | omega)) (cwV 3 hts gX0_addCard_X0_setSize rfl rfl rfl (by decide +kernel) ⟨Nat.le_of_ble_eq_true rfl, Nat.le_of_ble_eq_true rfl⟩) hK hP hD hS hA [0, 7] [1, 2, 3, 4, 5, 6] [6, 0, 1, 2, 3, 4, 5, 7] rfl rfl rfl rfl rfl (by decide) rfl rfl rfl rfl rfl rfl rfl hl.1 rfl (Nat.le_of_ble_eq_true rfl) dX0_addCard_54 ⟨Nat.zero_le _, Nat.zero_le _⟩ (fun H locs hP hD hS => ?_)
        refine lv_iinc (v := nI (i + 1)) (lv' := [(4, .int (nI (i + 1))), (3, .int (nI n)), (0, .ref cA), (1, .int v), (2, .int w)]) hx hb dX0_addCard_57 hl (k := 0) rfl (by exact nI_add i 1) (by decide) rfl (fun ls hl => ?_)
        refine lv_goto (tgt := 43) hx hb dX0_addCard_60 (by decide) ?_
        exact ih43 (i + 1) (upd z1 (n * 4 + i) 1) (by omega) (by omega) (by rw [ez]; rfl) H locs hP hD hS ls (lv_sub hl [0, 1, 2, 3, 4] rfl)
  exact L43 (4 + 1) 0 szs (by omega) (by omega) (rfl) H locs hP hD hS ls (lv_sub hl [0, 1, 2, 3, 4] rfl)
set_option maxHeartbeats 4000000 in
set_option maxRecDepth 100000 in
theorem mX0_lastComing (l : Launch) (G : xG) (cA : Nat) (ca : Nat → Nat) (cols : Int32) (n : Nat) (cday : Nat → Int32) (byd : Nat → Int32)  (hn : n ≤ 16) (hv : ∀ j, j < n → vp_in (byd j) 16) : xR l yX0_lastComing wsX0_lastComing ({ frames := 0, cells := 0, slots := 0, locals := 0 } : Room) [.ref cA] G [oCards cA ca cols (nI n), xI G (ca 2) 16 cday, xI G (ca 7) 16 byd] (fun r => r = lcF cday byd n) := by
  refine xR_of (cc := cX0_lastComing) (maxL := 1) (ty := .int) (by decide) rfl (Nat.le_of_ble_eq_true rfl) ?_
  intro p e s m below meth cO ls Q hx hb hml hown hts hP hK hD hl hq
  have hown : s.vm.findClass RX0 = some m.cls := hown
  have kl38 := hts (.fieldLink RX0 38 "WorkBoard$Cards" "count" "I") (List.mem_of_getElem? (i := 1) rfl)
  have kl9 := hts (.fieldLink RX0 9 "WorkBoard$Cards" "day" "[I") (List.mem_of_getElem? (i := 2) rfl)
  have kl28 := hts (.fieldLink RX0 28 "WorkBoard$Cards" "byDay" "[I") (List.mem_of_getElem? (i := 3) rfl)
  have inX0 : ∀ w ∈ u_ws RX0 TX0 9, w ∈ wsX0_lastComing := (fun w h => List.mem_cons_of_mem _ (List.mem_append_right _ h))
  have hl : lv_has ls 1 [(0, .ref cA)] := hl
  have hP : va_P (xD G) vwCl [oCards cA ca cols (nI n), xI G (ca 2) 16 cday, xI G (ca 7) 16 byd] s.heap := hP
  refine lv_aload_n hx hb dX0_lastComing_0 rfl (lv_at hl 0 rfl) ?_
  refine va_get (D := xD G) (ci := 0) (v := .int (nI n)) (C := RX0) (T := TX0) (N := 9) hx hb hts inX0 hown hK hP 0 rfl rfl 1 (by decide) kl38 (fun _ h9 => h9) rfl dX0_lastComing_1 ?_
  refine lv_if_ne (x := nI n) (tgt := 11) hx hb dX0_lastComing_4 (by decide) (fun c4 => ?_) (fun c4 => ?_)
  · skip
    obtain ⟨n, rfl⟩ : ∃ q, n = q + 1 := ⟨n - 1, by have : n ≠ 0 := (by intro h; subst h; exact c4 rfl); omega⟩
    have hb9 := hv n (by omega)
    have hb8 : ix byd n < 16 := vp_lt hb9
    refine lv_aload_n hx hb dX0_lastComing_11 rfl (lv_at hl 0 rfl) ?_
    refine va_get (D := xD G) (ci := 0) (v := .ref (ca 2)) (C := RX0) (T := TX0) (N := 9) hx hb hts inX0 hown hK hP 0 rfl rfl 2 (by decide) kl9 (fun _ h9 => h9) rfl dX0_lastComing_12 ?_
    refine lv_aload_n hx hb dX0_lastComing_15 rfl (lv_at hl 0 rfl) ?_
    refine va_get (D := xD G) (ci := 0) (v := .ref (ca 7)) (C := RX0) (T := TX0) (N := 9) hx hb hts inX0 hown hK hP 0 rfl rfl 7 (by decide) kl28 (fun _ h9 => h9) rfl dX0_lastComing_16 ?_
    refine lv_aload_n hx hb dX0_lastComing_19 rfl (lv_at hl 0 rfl) ?_
    refine va_get (D := xD G) (ci := 0) (v := .int (nI (n + 1))) (C := RX0) (T := TX0) (N := 9) hx hb hts inX0 hown hK hP 0 rfl rfl 1 (by decide) kl38 (fun _ h9 => h9) rfl dX0_lastComing_20 ?_
    refine lv_iconst (v := 1) hx hb dX0_lastComing_23 (by decide) ?_
    refine lv_isub hx hb dX0_lastComing_24 ?_
    refine x_top (y := nI n) (nI_pred n) ?_
    refine x_iald (i := n) hx hb hK hP 2 rfl (by first | omega | assumption) (by omega) dX0_lastComing_25 ?_
    refine x_top (y := nI (ix byd n)) (nI_self hb9) ?_
    refine x_iald (i := ix byd n) hx hb hK hP 1 rfl (by first | omega | assumption) (by omega) dX0_lastComing_26 ?_
    exact hq (cday (ix byd n)) 27 ls dX0_lastComing_27 rfl (by first | (rw [lcF, if_pos hz]) | (rw [lcF, if_neg (by omega)]; rfl))
  · skip
    have hz : n = 0 := by rcases Nat.eq_zero_or_pos n with h | h; exact h; exact absurd c4 (nI_ne0 h (by omega))
    refine lv_iconst (v := 0) hx hb dX0_lastComing_7 (by decide) ?_
    refine lv_goto (tgt := 27) hx hb dX0_lastComing_8 (by decide) ?_
    exact hq 0 27 ls dX0_lastComing_27 rfl (by first | (rw [lcF, if_pos hz]) | (rw [lcF, if_neg (by omega)]; rfl))
set_option maxHeartbeats 4000000 in
set_option maxRecDepth 100000 in
theorem mX1_tellColumn (l : Launch) (G : xG) (uA : Nat) (ua : Nat → Nat) (pac : Int32) (lim : Nat → Int32) (lan : Nat → Int32) (han : Nat → Int32) (k0 : Nat) (x : Int32) (y : Int32) (z : Int32)  (hk : k0 < 4) : xM l yX1_tellColumn wsX1_tellColumn ({ frames := 0, cells := 0, slots := 0, locals := 0 } : Room) [.ref uA, .int (nI k0), .int x, .int y, .int z] G [oRules uA ua pac, xI G (ua 0) 4 lim, xI G (ua 1) 4 lan, xI G (ua 2) 4 han] [oRules uA ua pac, xI G (ua 0) 4 (upd lim k0 x), xI G (ua 1) 4 (upd lan k0 y), xI G (ua 2) 4 (upd han k0 z)] := by
  refine xM_of (cc := cX1_tellColumn) (maxL := 5) (by decide) rfl (Nat.le_of_ble_eq_true rfl) ?_
  intro p e s m below meth cO ls Q A hx hb hml hown hts hP hK hD hS hA hl hq
  have hown : s.vm.findClass RX1 = some m.cls := hown
  have kl9 := hts (.fieldLink RX1 9 "WorkBoard$Rules" "limit" "[I") (List.mem_of_getElem? (i := 1) rfl)
  have kl15 := hts (.fieldLink RX1 15 "WorkBoard$Rules" "lane" "[I") (List.mem_of_getElem? (i := 2) rfl)
  have kl18 := hts (.fieldLink RX1 18 "WorkBoard$Rules" "hands" "[I") (List.mem_of_getElem? (i := 3) rfl)
  have inX1 : ∀ w ∈ u_ws RX1 TX1 4, w ∈ wsX1_tellColumn := (fun w h => List.mem_cons_of_mem _ (List.mem_append_right _ h))
  have hl : lv_has ls 5 [(0, .ref uA), (1, .int (nI k0)), (2, .int x), (3, .int y), (4, .int z)] := hl
  have hD : va_D A [oRules uA ua pac, xI G (ua 0) 4 lim, xI G (ua 1) 4 lan, xI G (ua 2) 4 han] := hD
  obtain ⟨H, hH⟩ : ∃ z, z = s.heap := ⟨_, rfl⟩
  obtain ⟨locs, hlocs⟩ : ∃ z : List Loc, z = [] := ⟨_, rfl⟩
  have hS : va_S A s.heap H locs := by rw [hH, hlocs]; exact hS
  have hP : va_P (xD G) vwCl [oRules uA ua pac, xI G (ua 0) 4 lim, xI G (ua 1) 4 lan, xI G (ua 2) 4 han] H := by rw [hH]; exact hP
  rw [← hH, ← hlocs]
  clear hH hlocs
  refine lv_aload_n hx hb dX1_tellColumn_0 rfl (lv_at hl 0 rfl) ?_
  refine va_get (D := xD G) (ci := 1) (v := .ref (ua 0)) (C := RX1) (T := TX1) (N := 4) hx hb hts inX1 hown hK hP 0 rfl rfl 0 (by decide) kl9 (fun _ h9 => h9) rfl dX1_tellColumn_1 ?_
  refine lv_iload_n hx hb dX1_tellColumn_4 rfl (lv_at hl 1 rfl) ?_
  refine lv_iload_n hx hb dX1_tellColumn_5 rfl (lv_at hl 2 rfl) ?_
  refine x_iast (i := k0) hx hb hK hP hD hS 1 rfl (by first | omega | assumption) (by omega) dX1_tellColumn_6 (fun H locs hP hD hS => ?_)
  have hP : va_P (xD G) vwCl [oRules uA ua pac, xI G (ua 0) 4 (upd lim k0 x), xI G (ua 1) 4 lan, xI G (ua 2) 4 han] H := hP
  have hD : va_D A [oRules uA ua pac, xI G (ua 0) 4 (upd lim k0 x), xI G (ua 1) 4 lan, xI G (ua 2) 4 han] := hD
  refine lv_aload_n hx hb dX1_tellColumn_7 rfl (lv_at hl 0 rfl) ?_
  refine va_get (D := xD G) (ci := 1) (v := .ref (ua 1)) (C := RX1) (T := TX1) (N := 4) hx hb hts inX1 hown hK hP 0 rfl rfl 1 (by decide) kl15 (fun _ h9 => h9) rfl dX1_tellColumn_8 ?_
  refine lv_iload_n hx hb dX1_tellColumn_11 rfl (lv_at hl 1 rfl) ?_
  refine lv_iload_n hx hb dX1_tellColumn_12 rfl (lv_at hl 3 rfl) ?_
  refine x_iast (i := k0) hx hb hK hP hD hS 2 rfl (by first | omega | assumption) (by omega) dX1_tellColumn_13 (fun H locs hP hD hS => ?_)
  have hP : va_P (xD G) vwCl [oRules uA ua pac, xI G (ua 0) 4 (upd lim k0 x), xI G (ua 1) 4 (upd lan k0 y), xI G (ua 2) 4 han] H := hP
  have hD : va_D A [oRules uA ua pac, xI G (ua 0) 4 (upd lim k0 x), xI G (ua 1) 4 (upd lan k0 y), xI G (ua 2) 4 han] := hD
  refine lv_aload_n hx hb dX1_tellColumn_14 rfl (lv_at hl 0 rfl) ?_
  refine va_get (D := xD G) (ci := 1) (v := .ref (ua 2)) (C := RX1) (T := TX1) (N := 4) hx hb hts inX1 hown hK hP 0 rfl rfl 2 (by decide) kl18 (fun _ h9 => h9) rfl dX1_tellColumn_15 ?_
  refine lv_iload_n hx hb dX1_tellColumn_18 rfl (lv_at hl 1 rfl) ?_
  refine lv_iload hx hb dX1_tellColumn_19 (lv_at hl 4 rfl) ?_
  refine x_iast (i := k0) hx hb hK hP hD hS 3 rfl (by first | omega | assumption) (by omega) dX1_tellColumn_21 (fun H locs hP hD hS => ?_)
  have hP : va_P (xD G) vwCl [oRules uA ua pac, xI G (ua 0) 4 (upd lim k0 x), xI G (ua 1) 4 (upd lan k0 y), xI G (ua 2) 4 (upd han k0 z)] H := hP
  have hD : va_D A [oRules uA ua pac, xI G (ua 0) 4 (upd lim k0 x), xI G (ua 1) 4 (upd lan k0 y), xI G (ua 2) 4 (upd han k0 z)] := hD
  exact hq H locs 22 ls dX1_tellColumn_22 (hP) (hD) hS
set_option maxHeartbeats 4000000 in
set_option maxRecDepth 100000 in
theorem mX1_setAll (l : Launch) (G : xG) (uA : Nat) (ua : Nat → Nat) (pac : Int32) (lim : Nat → Int32) (lan : Nat → Int32) (han : Nat → Int32) (x : Int32) (y : Int32) (z : Int32) (v : Int32)   : xM l yX1_setAll wsX1_setAll ({ frames := 1, cells := 0, slots := 0, locals := 24 } : Room) [.ref uA, .int x, .int y, .int z, .int v] G [oRules uA ua pac, xI G (ua 0) 4 lim, xI G (ua 1) 4 lan, xI G (ua 2) 4 han] [oRules uA ua v, xI G (ua 0) 4 (fl lim x 4), xI G (ua 1) 4 (fl lan y 4), xI G (ua 2) 4 (fl han z 4)] := by
  refine xM_of (cc := cX1_setAll) (maxL := 6) (by decide) rfl (Nat.le_of_ble_eq_true rfl) ?_
  intro p e s m below meth cO ls Q A hx hb hml hown hts hP hK hD hS hA hl hq
  have hown : s.vm.findClass RX1 = some m.cls := hown
  have kl25 := hts (.fieldLink RX1 25 "WorkBoard$Rules" "pace" "I") (List.mem_of_getElem? (i := 1) rfl)
  have inX1 : ∀ w ∈ u_ws RX1 TX1 4, w ∈ wsX1_setAll := (fun w h => List.mem_cons_of_mem _ (List.mem_append_right _ h))
  have hl : lv_has ls 6 [(0, .ref uA), (1, .int x), (2, .int y), (3, .int z), (4, .int v)] := hl
  have hD : va_D A [oRules uA ua pac, xI G (ua 0) 4 lim, xI G (ua 1) 4 lan, xI G (ua 2) 4 han] := hD
  obtain ⟨H, hH⟩ : ∃ z, z = s.heap := ⟨_, rfl⟩
  obtain ⟨locs, hlocs⟩ : ∃ z : List Loc, z = [] := ⟨_, rfl⟩
  have hS : va_S A s.heap H locs := by rw [hH, hlocs]; exact hS
  have hP : va_P (xD G) vwCl [oRules uA ua pac, xI G (ua 0) 4 lim, xI G (ua 1) 4 lan, xI G (ua 2) 4 han] H := by rw [hH]; exact hP
  rw [← hH, ← hlocs]
  clear hH hlocs
  refine lv_iconst (v := 0) hx hb dX1_setAll_0 (by decide) ?_
  refine lv_istore (lv' := [(5, .int 0), (0, .ref uA), (1, .int x), (2, .int y), (3, .int z), (4, .int v)]) hx hb dX1_setAll_1 hl (by decide) rfl (fun ls hl => ?_)
  have L3 : ∀ (kk3 i : Nat) (a0 : XF) (a1 : XF) (a2 : XF), i ≤ 4 → 4 + 1 ≤ i + kk3 → (a0 = fl lim x i) → (a1 = fl lan y i) → (a2 = fl han z i) → ∀ (H : Heap) (locs : List Loc), va_P (xD G) vwCl [oRules uA ua pac, xI G (ua 0) 4 a0, xI G (ua 1) 4 a1, xI G (ua 2) 4 a2] H → va_D A [oRules uA ua pac, xI G (ua 0) 4 a0, xI G (ua 1) 4 a1, xI G (ua 2) 4 a2] → va_S A s.heap H locs → ∀ (ls : Array Slot), lv_has ls 6 [(5, .int (nI i)), (0, .ref uA), (1, .int x), (2, .int y), (3, .int z), (4, .int v)] → W p l e ({ frames := 1, cells := 0, slots := 0, locals := 24 } : Room) s m #[Value.ref uA, Value.int x, Value.int y, Value.int z, Value.int v] below meth cO H locs 0 0 Q (F0 m 3 ls []) := by
    intro kk3
    induction kk3 with
    | zero => intro i a0 a1 a2 h1 h2; exact absurd h2 (by omega)
    | succ kk3 ih3 =>
      intro i a0 a1 a2 hi3 hk3 e0 e1 e2 H locs hP hD hS ls hl
      refine lv_iload hx hb dX1_setAll_3 (lv_at hl 0 rfl) ?_
      refine lv_iconst (v := 4) hx hb dX1_setAll_5 (by decide) ?_
      refine x_icmp_ge (x := i) (y := 4) (tgt := 24) hx hb (by omega) (by omega) dX1_setAll_6 (by decide) (fun c6 => ?_) (fun c6 => ?_)
      · skip
        have e_2 : i = 4 := by omega
        rw [e_2] at e0
        subst e0
        rw [e_2] at e1
        subst e1
        rw [e_2] at e2
        subst e2
        refine lv_aload_n hx hb dX1_setAll_24 rfl (lv_at hl 1 rfl) ?_
        refine lv_iload hx hb dX1_setAll_25 (lv_at hl 5 rfl) ?_
        refine va_put (D := xD G) (ci := 1) (v := .int v) (ty := .int) (C := RX1) (T := TX1) (N := 4) hx hb hts inX1 tyX1 tyX1_ok nmX1 hown hK hP hD hS 0 rfl rfl 3 (by decide) kl25 (fun _ h9 => h9) rfl (by decide +kernel) rfl rfl (Nat.le_of_ble_eq_true rfl) dX1_setAll_27 (fun H locs hP hD hS => ?_)
        have hP : va_P (xD G) vwCl [oRules uA ua v, xI G (ua 0) 4 (fl lim x 4), xI G (ua 1) 4 (fl lan y 4), xI G (ua 2) 4 (fl han z 4)] H := hP
        have hD : va_D A [oRules uA ua v, xI G (ua 0) 4 (fl lim x 4), xI G (ua 1) 4 (fl lan y 4), xI G (ua 2) 4 (fl han z 4)] := hD
        exact hq H locs 30 ls dX1_setAll_30 (hP) (hD) hS
      · skip
        refine lv_aload_n hx hb dX1_setAll_9 rfl (lv_at hl 1 rfl) ?_
        refine lv_iload hx hb dX1_setAll_10 (lv_at hl 0 rfl) ?_
        refine lv_iload_n hx hb dX1_setAll_12 rfl (lv_at hl 2 rfl) ?_
        refine lv_iload_n hx hb dX1_setAll_13 rfl (lv_at hl 3 rfl) ?_
        refine lv_iload_n hx hb dX1_setAll_14 rfl (lv_at hl 4 rfl) ?_
        refine x_callM (As := [.int (nI i), .int x, .int y, .int z]) (rest := []) (w2 := [oRules uA ua pac, xI G (ua 0) 4 (upd a0 i x), xI G (ua 1) 4 (upd a1 i y), xI G (ua 2) 4 (upd a2 i z)]) (wr := []) (ci := 1) (q0 := 0) ⟨hx, hb, hml, hown, hts⟩ (mX1_tellColumn l G uA ua pac a0 a1 a2 i x y z (by first | assumption | omega)) (cwV 4 hts gX1_setAll_X1_tellColumn rfl rfl rfl (by decide +kernel) ⟨Nat.le_of_ble_eq_true rfl, Nat.le_of_ble_eq_true rfl⟩) hK hP hD hS hA [0, 1, 2, 3] [] [0, 1, 2, 3] rfl rfl rfl rfl rfl (by decide) rfl rfl rfl rfl rfl rfl rfl hl.1 rfl (Nat.le_of_ble_eq_true rfl) dX1_setAll_15 ⟨Nat.zero_le _, Nat.zero_le _⟩ (fun H locs hP hD hS => ?_)
        refine lv_iinc (v := nI (i + 1)) (lv' := [(5, .int (nI (i + 1))), (0, .ref uA), (1, .int x), (2, .int y), (3, .int z), (4, .int v)]) hx hb dX1_setAll_18 hl (k := 0) rfl (by exact nI_add i 1) (by decide) rfl (fun ls hl => ?_)
        refine lv_goto (tgt := 3) hx hb dX1_setAll_21 (by decide) ?_
        exact ih3 (i + 1) (upd a0 i x) (upd a1 i y) (upd a2 i z) (by omega) (by omega) (by rw [e0]; exact fl_s _ _ _) (by rw [e1]; exact fl_s _ _ _) (by rw [e2]; exact fl_s _ _ _) H locs hP hD hS ls (lv_sub hl [0, 1, 2, 3, 4, 5] rfl)
  exact L3 (4 + 1) 0 lim lan han (by omega) (by omega) ((fl_0 _ _).symm) ((fl_0 _ _).symm) ((fl_0 _ _).symm) H locs hP hD hS ls (lv_sub hl [0, 1, 2, 3, 4, 5] rfl)
set_option maxHeartbeats 4000000 in
set_option maxRecDepth 100000 in
theorem mX1_toldOr (l : Launch) (G : xG) (x : Int32) (y : Int32)   : xR l yX1_toldOr wsX1_toldOr ({ frames := 0, cells := 0, slots := 0, locals := 0 } : Room) [.int x, .int y] G [] (fun r => r = toR x y) := by
  refine xR_of (cc := cX1_toldOr) (maxL := 2) (ty := .int) (by decide) rfl (Nat.le_of_ble_eq_true rfl) ?_
  intro p e s m below meth cO ls Q hx hb hml hown hts hP hK hD hl hq
  have hown : s.vm.findClass RX1 = some m.cls := hown
  have hl : lv_has ls 2 [(0, .int x), (1, .int y)] := hl
  have hP : va_P (xD G) vwCl [] s.heap := hP
  refine lv_iload_n hx hb dX1_toldOr_0 rfl (lv_at hl 0 rfl) ?_
  refine lv_iconst (v := (-1)) hx hb dX1_toldOr_1 (by decide) ?_
  refine lv_icmp_ne (x := x) (y := (-1)) (tgt := 9) hx hb dX1_toldOr_2 (by decide) (fun c2 => ?_) (fun c2 => ?_)
  · skip
    refine lv_iload_n hx hb dX1_toldOr_9 rfl (lv_at hl 0 rfl) ?_
    exact hq x 10 ls dX1_toldOr_10 rfl (by simp [toR, c2])
  · skip
    refine lv_iload_n hx hb dX1_toldOr_5 rfl (lv_at hl 1 rfl) ?_
    refine lv_goto (tgt := 10) hx hb dX1_toldOr_6 (by decide) ?_
    exact hq y 10 ls dX1_toldOr_10 rfl (by simp [toR, c2])
set_option maxHeartbeats 4000000 in
set_option maxRecDepth 100000 in
theorem mX1_setTo (l : Launch) (G : xG) (uA : Nat) (ua : Nat → Nat) (pac : Int32) (lim : Nat → Int32) (lan : Nat → Int32) (han : Nat → Int32) (bA : Nat) (ba : Nat → Nat) (bpac : Int32) (bl : Nat → Int32) (bn : Nat → Int32) (bh : Nat → Int32) (tA : Nat) (ta : Nat → Nat) (tpac : Int32) (tl : Nat → Int32) (tn : Nat → Int32) (th : Nat → Int32)   : xM l yX1_setTo wsX1_setTo ({ frames := 1, cells := 0, slots := 0, locals := 21 } : Room) [.ref uA, .ref bA, .ref tA] G [oRules uA ua pac, xI G (ua 0) 4 lim, xI G (ua 1) 4 lan, xI G (ua 2) 4 han, oRules bA ba bpac, xI G (ba 0) 4 bl, xI G (ba 1) 4 bn, xI G (ba 2) 4 bh, oRules tA ta tpac, xI G (ta 0) 4 tl, xI G (ta 1) 4 tn, xI G (ta 2) 4 th] [oRules uA ua (toR tpac bpac), xI G (ua 0) 4 (tf (toF tl bl) lim 4), xI G (ua 1) 4 (tf (toF tn bn) lan 4), xI G (ua 2) 4 (tf (toF th bh) han 4), oRules bA ba bpac, xI G (ba 0) 4 bl, xI G (ba 1) 4 bn, xI G (ba 2) 4 bh, oRules tA ta tpac, xI G (ta 0) 4 tl, xI G (ta 1) 4 tn, xI G (ta 2) 4 th] := by
  refine xM_of (cc := cX1_setTo) (maxL := 4) (by decide) rfl (Nat.le_of_ble_eq_true rfl) ?_
  intro p e s m below meth cO ls Q A hx hb hml hown hts hP hK hD hS hA hl hq
  have hown : s.vm.findClass RX1 = some m.cls := hown
  have kl9 := hts (.fieldLink RX1 9 "WorkBoard$Rules" "limit" "[I") (List.mem_of_getElem? (i := 1) rfl)
  have kl15 := hts (.fieldLink RX1 15 "WorkBoard$Rules" "lane" "[I") (List.mem_of_getElem? (i := 2) rfl)
  have kl18 := hts (.fieldLink RX1 18 "WorkBoard$Rules" "hands" "[I") (List.mem_of_getElem? (i := 3) rfl)
  have kl25 := hts (.fieldLink RX1 25 "WorkBoard$Rules" "pace" "I") (List.mem_of_getElem? (i := 4) rfl)
  have inX1 : ∀ w ∈ u_ws RX1 TX1 4, w ∈ wsX1_setTo := (fun w h => List.mem_cons_of_mem _ (List.mem_append_right _ h))
  have hl : lv_has ls 4 [(0, .ref uA), (1, .ref bA), (2, .ref tA)] := hl
  have hD : va_D A [oRules uA ua pac, xI G (ua 0) 4 lim, xI G (ua 1) 4 lan, xI G (ua 2) 4 han, oRules bA ba bpac, xI G (ba 0) 4 bl, xI G (ba 1) 4 bn, xI G (ba 2) 4 bh, oRules tA ta tpac, xI G (ta 0) 4 tl, xI G (ta 1) 4 tn, xI G (ta 2) 4 th] := hD
  obtain ⟨H, hH⟩ : ∃ z, z = s.heap := ⟨_, rfl⟩
  obtain ⟨locs, hlocs⟩ : ∃ z : List Loc, z = [] := ⟨_, rfl⟩
  have hS : va_S A s.heap H locs := by rw [hH, hlocs]; exact hS
  have hP : va_P (xD G) vwCl [oRules uA ua pac, xI G (ua 0) 4 lim, xI G (ua 1) 4 lan, xI G (ua 2) 4 han, oRules bA ba bpac, xI G (ba 0) 4 bl, xI G (ba 1) 4 bn, xI G (ba 2) 4 bh, oRules tA ta tpac, xI G (ta 0) 4 tl, xI G (ta 1) 4 tn, xI G (ta 2) 4 th] H := by rw [hH]; exact hP
  rw [← hH, ← hlocs]
  clear hH hlocs
  refine lv_iconst (v := 0) hx hb dX1_setTo_0 (by decide) ?_
  refine lv_istore_n (lv' := [(3, .int 0), (0, .ref uA), (1, .ref bA), (2, .ref tA)]) hx hb dX1_setTo_1 rfl hl (by decide) rfl (fun ls hl => ?_)
  have L2 : ∀ (kk2 i : Nat) (a0 : XF) (a1 : XF) (a2 : XF), i ≤ 4 → 4 + 1 ≤ i + kk2 → (a0 = tf (toF tl bl) lim i) → (a1 = tf (toF tn bn) lan i) → (a2 = tf (toF th bh) han i) → ∀ (H : Heap) (locs : List Loc), va_P (xD G) vwCl [oRules uA ua pac, xI G (ua 0) 4 a0, xI G (ua 1) 4 a1, xI G (ua 2) 4 a2, oRules bA ba bpac, xI G (ba 0) 4 bl, xI G (ba 1) 4 bn, xI G (ba 2) 4 bh, oRules tA ta tpac, xI G (ta 0) 4 tl, xI G (ta 1) 4 tn, xI G (ta 2) 4 th] H → va_D A [oRules uA ua pac, xI G (ua 0) 4 a0, xI G (ua 1) 4 a1, xI G (ua 2) 4 a2, oRules bA ba bpac, xI G (ba 0) 4 bl, xI G (ba 1) 4 bn, xI G (ba 2) 4 bh, oRules tA ta tpac, xI G (ta 0) 4 tl, xI G (ta 1) 4 tn, xI G (ta 2) 4 th] → va_S A s.heap H locs → ∀ (ls : Array Slot), lv_has ls 4 [(3, .int (nI i)), (0, .ref uA), (1, .ref bA), (2, .ref tA)] → W p l e ({ frames := 1, cells := 0, slots := 0, locals := 21 } : Room) s m #[Value.ref uA, Value.ref bA, Value.ref tA] below meth cO H locs 0 0 Q (F0 m 2 ls []) := by
    intro kk2
    induction kk2 with
    | zero => intro i a0 a1 a2 h1 h2; exact absurd h2 (by omega)
    | succ kk2 ih2 =>
      intro i a0 a1 a2 hi2 hk2 e0 e1 e2 H locs hP hD hS ls hl
      refine lv_iload_n hx hb dX1_setTo_2 rfl (lv_at hl 0 rfl) ?_
      refine lv_iconst (v := 4) hx hb dX1_setTo_3 (by decide) ?_
      refine x_icmp_ge (x := i) (y := 4) (tgt := 76) hx hb (by omega) (by omega) dX1_setTo_4 (by decide) (fun c4 => ?_) (fun c4 => ?_)
      · skip
        have e_2 : i = 4 := by omega
        rw [e_2] at e0
        subst e0
        rw [e_2] at e1
        subst e1
        rw [e_2] at e2
        subst e2
        refine lv_aload_n hx hb dX1_setTo_76 rfl (lv_at hl 1 rfl) ?_
        refine lv_aload_n hx hb dX1_setTo_77 rfl (lv_at hl 3 rfl) ?_
        refine va_get (D := xD G) (ci := 1) (v := .int tpac) (C := RX1) (T := TX1) (N := 4) hx hb hts inX1 hown hK hP 8 rfl rfl 3 (by decide) kl25 (fun _ h9 => h9) rfl dX1_setTo_78 ?_
        refine lv_aload_n hx hb dX1_setTo_81 rfl (lv_at hl 2 rfl) ?_
        refine va_get (D := xD G) (ci := 1) (v := .int bpac) (C := RX1) (T := TX1) (N := 4) hx hb hts inX1 hown hK hP 4 rfl rfl 3 (by decide) kl25 (fun _ h9 => h9) rfl dX1_setTo_82 ?_
        refine x_callS (As := [.int tpac, .int bpac]) (rest := [.ref uA]) ⟨hx, hb, hml, hown, hts⟩ (mX1_toldOr l G tpac bpac ) (va_cwS 2 hts gX1_setTo_X1_toldOr rfl rfl rfl (by decide +kernel) ⟨Nat.le_of_ble_eq_true rfl, Nat.le_of_ble_eq_true rfl⟩) hK rfl hl.1 rfl (Nat.le_of_ble_eq_true rfl) dX1_setTo_85 ⟨Nat.zero_le _, Nat.zero_le _⟩ (fun r hr => ?_)
        subst hr
        refine va_put (D := xD G) (ci := 1) (v := .int (toR tpac bpac)) (ty := .int) (C := RX1) (T := TX1) (N := 4) hx hb hts inX1 tyX1 tyX1_ok nmX1 hown hK hP hD hS 0 rfl rfl 3 (by decide) kl25 (fun _ h9 => h9) rfl (by decide +kernel) rfl rfl (Nat.le_of_ble_eq_true rfl) dX1_setTo_88 (fun H locs hP hD hS => ?_)
        have hP : va_P (xD G) vwCl [oRules uA ua (toR tpac bpac), xI G (ua 0) 4 (tf (toF tl bl) lim 4), xI G (ua 1) 4 (tf (toF tn bn) lan 4), xI G (ua 2) 4 (tf (toF th bh) han 4), oRules bA ba bpac, xI G (ba 0) 4 bl, xI G (ba 1) 4 bn, xI G (ba 2) 4 bh, oRules tA ta tpac, xI G (ta 0) 4 tl, xI G (ta 1) 4 tn, xI G (ta 2) 4 th] H := hP
        have hD : va_D A [oRules uA ua (toR tpac bpac), xI G (ua 0) 4 (tf (toF tl bl) lim 4), xI G (ua 1) 4 (tf (toF tn bn) lan 4), xI G (ua 2) 4 (tf (toF th bh) han 4), oRules bA ba bpac, xI G (ba 0) 4 bl, xI G (ba 1) 4 bn, xI G (ba 2) 4 bh, oRules tA ta tpac, xI G (ta 0) 4 tl, xI G (ta 1) 4 tn, xI G (ta 2) 4 th] := hD
        exact hq H locs 91 ls dX1_setTo_91 (hP) (hD) hS
      · skip
        refine lv_aload_n hx hb dX1_setTo_7 rfl (lv_at hl 1 rfl) ?_
        refine va_get (D := xD G) (ci := 1) (v := .ref (ua 0)) (C := RX1) (T := TX1) (N := 4) hx hb hts inX1 hown hK hP 0 rfl rfl 0 (by decide) kl9 (fun _ h9 => h9) rfl dX1_setTo_8 ?_
        refine lv_iload_n hx hb dX1_setTo_11 rfl (lv_at hl 0 rfl) ?_
        refine lv_aload_n hx hb dX1_setTo_12 rfl (lv_at hl 3 rfl) ?_
        refine va_get (D := xD G) (ci := 1) (v := .ref (ta 0)) (C := RX1) (T := TX1) (N := 4) hx hb hts inX1 hown hK hP 8 rfl rfl 0 (by decide) kl9 (fun _ h9 => h9) rfl dX1_setTo_13 ?_
        refine lv_iload_n hx hb dX1_setTo_16 rfl (lv_at hl 0 rfl) ?_
        refine x_iald (i := i) hx hb hK hP 9 rfl (by first | omega | assumption) (by omega) dX1_setTo_17 ?_
        refine lv_aload_n hx hb dX1_setTo_18 rfl (lv_at hl 2 rfl) ?_
        refine va_get (D := xD G) (ci := 1) (v := .ref (ba 0)) (C := RX1) (T := TX1) (N := 4) hx hb hts inX1 hown hK hP 4 rfl rfl 0 (by decide) kl9 (fun _ h9 => h9) rfl dX1_setTo_19 ?_
        refine lv_iload_n hx hb dX1_setTo_22 rfl (lv_at hl 0 rfl) ?_
        refine x_iald (i := i) hx hb hK hP 5 rfl (by first | omega | assumption) (by omega) dX1_setTo_23 ?_
        refine x_callS (As := [.int (tl i), .int (bl i)]) (rest := [.int (nI i), .ref (ua 0)]) ⟨hx, hb, hml, hown, hts⟩ (mX1_toldOr l G (tl i) (bl i) ) (va_cwS 2 hts gX1_setTo_X1_toldOr rfl rfl rfl (by decide +kernel) ⟨Nat.le_of_ble_eq_true rfl, Nat.le_of_ble_eq_true rfl⟩) hK rfl hl.1 rfl (Nat.le_of_ble_eq_true rfl) dX1_setTo_24 ⟨Nat.zero_le _, Nat.zero_le _⟩ (fun r hr => ?_)
        subst hr
        refine x_iast (i := i) hx hb hK hP hD hS 1 rfl (by first | omega | assumption) (by omega) dX1_setTo_27 (fun H locs hP hD hS => ?_)
        have hP : va_P (xD G) vwCl [oRules uA ua pac, xI G (ua 0) 4 (upd a0 i (toR (tl i) (bl i))), xI G (ua 1) 4 a1, xI G (ua 2) 4 a2, oRules bA ba bpac, xI G (ba 0) 4 bl, xI G (ba 1) 4 bn, xI G (ba 2) 4 bh, oRules tA ta tpac, xI G (ta 0) 4 tl, xI G (ta 1) 4 tn, xI G (ta 2) 4 th] H := hP
        have hD : va_D A [oRules uA ua pac, xI G (ua 0) 4 (upd a0 i (toR (tl i) (bl i))), xI G (ua 1) 4 a1, xI G (ua 2) 4 a2, oRules bA ba bpac, xI G (ba 0) 4 bl, xI G (ba 1) 4 bn, xI G (ba 2) 4 bh, oRules tA ta tpac, xI G (ta 0) 4 tl, xI G (ta 1) 4 tn, xI G (ta 2) 4 th] := hD
        refine lv_aload_n hx hb dX1_setTo_28 rfl (lv_at hl 1 rfl) ?_
        refine va_get (D := xD G) (ci := 1) (v := .ref (ua 1)) (C := RX1) (T := TX1) (N := 4) hx hb hts inX1 hown hK hP 0 rfl rfl 1 (by decide) kl15 (fun _ h9 => h9) rfl dX1_setTo_29 ?_
        refine lv_iload_n hx hb dX1_setTo_32 rfl (lv_at hl 0 rfl) ?_
        refine lv_aload_n hx hb dX1_setTo_33 rfl (lv_at hl 3 rfl) ?_
        refine va_get (D := xD G) (ci := 1) (v := .ref (ta 1)) (C := RX1) (T := TX1) (N := 4) hx hb hts inX1 hown hK hP 8 rfl rfl 1 (by decide) kl15 (fun _ h9 => h9) rfl dX1_setTo_34 ?_
        refine lv_iload_n hx hb dX1_setTo_37 rfl (lv_at hl 0 rfl) ?_
        refine x_iald (i := i) hx hb hK hP 10 rfl (by first | omega | assumption) (by omega) dX1_setTo_38 ?_
        refine lv_aload_n hx hb dX1_setTo_39 rfl (lv_at hl 2 rfl) ?_
        refine va_get (D := xD G) (ci := 1) (v := .ref (ba 1)) (C := RX1) (T := TX1) (N := 4) hx hb hts inX1 hown hK hP 4 rfl rfl 1 (by decide) kl15 (fun _ h9 => h9) rfl dX1_setTo_40 ?_
        refine lv_iload_n hx hb dX1_setTo_43 rfl (lv_at hl 0 rfl) ?_
        refine x_iald (i := i) hx hb hK hP 6 rfl (by first | omega | assumption) (by omega) dX1_setTo_44 ?_
        refine x_callS (As := [.int (tn i), .int (bn i)]) (rest := [.int (nI i), .ref (ua 1)]) ⟨hx, hb, hml, hown, hts⟩ (mX1_toldOr l G (tn i) (bn i) ) (va_cwS 2 hts gX1_setTo_X1_toldOr rfl rfl rfl (by decide +kernel) ⟨Nat.le_of_ble_eq_true rfl, Nat.le_of_ble_eq_true rfl⟩) hK rfl hl.1 rfl (Nat.le_of_ble_eq_true rfl) dX1_setTo_45 ⟨Nat.zero_le _, Nat.zero_le _⟩ (fun r hr => ?_)
        subst hr
        refine x_iast (i := i) hx hb hK hP hD hS 2 rfl (by first | omega | assumption) (by omega) dX1_setTo_48 (fun H locs hP hD hS => ?_)
        have hP : va_P (xD G) vwCl [oRules uA ua pac, xI G (ua 0) 4 (upd a0 i (toR (tl i) (bl i))), xI G (ua 1) 4 (upd a1 i (toR (tn i) (bn i))), xI G (ua 2) 4 a2, oRules bA ba bpac, xI G (ba 0) 4 bl, xI G (ba 1) 4 bn, xI G (ba 2) 4 bh, oRules tA ta tpac, xI G (ta 0) 4 tl, xI G (ta 1) 4 tn, xI G (ta 2) 4 th] H := hP
        have hD : va_D A [oRules uA ua pac, xI G (ua 0) 4 (upd a0 i (toR (tl i) (bl i))), xI G (ua 1) 4 (upd a1 i (toR (tn i) (bn i))), xI G (ua 2) 4 a2, oRules bA ba bpac, xI G (ba 0) 4 bl, xI G (ba 1) 4 bn, xI G (ba 2) 4 bh, oRules tA ta tpac, xI G (ta 0) 4 tl, xI G (ta 1) 4 tn, xI G (ta 2) 4 th] := hD
        refine lv_aload_n hx hb dX1_setTo_49 rfl (lv_at hl 1 rfl) ?_
        refine va_get (D := xD G) (ci := 1) (v := .ref (ua 2)) (C := RX1) (T := TX1) (N := 4) hx hb hts inX1 hown hK hP 0 rfl rfl 2 (by decide) kl18 (fun _ h9 => h9) rfl dX1_setTo_50 ?_
        refine lv_iload_n hx hb dX1_setTo_53 rfl (lv_at hl 0 rfl) ?_
        refine lv_aload_n hx hb dX1_setTo_54 rfl (lv_at hl 3 rfl) ?_
        refine va_get (D := xD G) (ci := 1) (v := .ref (ta 2)) (C := RX1) (T := TX1) (N := 4) hx hb hts inX1 hown hK hP 8 rfl rfl 2 (by decide) kl18 (fun _ h9 => h9) rfl dX1_setTo_55 ?_
        refine lv_iload_n hx hb dX1_setTo_58 rfl (lv_at hl 0 rfl) ?_
        refine x_iald (i := i) hx hb hK hP 11 rfl (by first | omega | assumption) (by omega) dX1_setTo_59 ?_
        refine lv_aload_n hx hb dX1_setTo_60 rfl (lv_at hl 2 rfl) ?_
        refine va_get (D := xD G) (ci := 1) (v := .ref (ba 2)) (C := RX1) (T := TX1) (N := 4) hx hb hts inX1 hown hK hP 4 rfl rfl 2 (by decide) kl18 (fun _ h9 => h9) rfl dX1_setTo_61 ?_
        refine lv_iload_n hx hb dX1_setTo_64 rfl (lv_at hl 0 rfl) ?_
        refine x_iald (i := i) hx hb hK hP 7 rfl (by first | omega | assumption) (by omega) dX1_setTo_65 ?_
        refine x_callS (As := [.int (th i), .int (bh i)]) (rest := [.int (nI i), .ref (ua 2)]) ⟨hx, hb, hml, hown, hts⟩ (mX1_toldOr l G (th i) (bh i) ) (va_cwS 2 hts gX1_setTo_X1_toldOr rfl rfl rfl (by decide +kernel) ⟨Nat.le_of_ble_eq_true rfl, Nat.le_of_ble_eq_true rfl⟩) hK rfl hl.1 rfl (Nat.le_of_ble_eq_true rfl) dX1_setTo_66 ⟨Nat.zero_le _, Nat.zero_le _⟩ (fun r hr => ?_)
        subst hr
        refine x_iast (i := i) hx hb hK hP hD hS 3 rfl (by first | omega | assumption) (by omega) dX1_setTo_69 (fun H locs hP hD hS => ?_)
        have hP : va_P (xD G) vwCl [oRules uA ua pac, xI G (ua 0) 4 (upd a0 i (toR (tl i) (bl i))), xI G (ua 1) 4 (upd a1 i (toR (tn i) (bn i))), xI G (ua 2) 4 (upd a2 i (toR (th i) (bh i))), oRules bA ba bpac, xI G (ba 0) 4 bl, xI G (ba 1) 4 bn, xI G (ba 2) 4 bh, oRules tA ta tpac, xI G (ta 0) 4 tl, xI G (ta 1) 4 tn, xI G (ta 2) 4 th] H := hP
        have hD : va_D A [oRules uA ua pac, xI G (ua 0) 4 (upd a0 i (toR (tl i) (bl i))), xI G (ua 1) 4 (upd a1 i (toR (tn i) (bn i))), xI G (ua 2) 4 (upd a2 i (toR (th i) (bh i))), oRules bA ba bpac, xI G (ba 0) 4 bl, xI G (ba 1) 4 bn, xI G (ba 2) 4 bh, oRules tA ta tpac, xI G (ta 0) 4 tl, xI G (ta 1) 4 tn, xI G (ta 2) 4 th] := hD
        refine lv_iinc (v := nI (i + 1)) (lv' := [(3, .int (nI (i + 1))), (0, .ref uA), (1, .ref bA), (2, .ref tA)]) hx hb dX1_setTo_70 hl (k := 0) rfl (by exact nI_add i 1) (by decide) rfl (fun ls hl => ?_)
        refine lv_goto (tgt := 2) hx hb dX1_setTo_73 (by decide) ?_
        exact ih2 (i + 1) (upd a0 i (toR (tl i) (bl i))) (upd a1 i (toR (tn i) (bn i))) (upd a2 i (toR (th i) (bh i))) (by omega) (by omega) (by rw [e0]; exact tf_s _ _ _ rfl) (by rw [e1]; exact tf_s _ _ _ rfl) (by rw [e2]; exact tf_s _ _ _ rfl) H locs hP hD hS ls (lv_sub hl [0, 1, 2, 3] rfl)
  exact L2 (4 + 1) 0 lim lan han (by omega) (by omega) ((tf_0 _ _).symm) ((tf_0 _ _).symm) ((tf_0 _ _).symm) H locs hP hD hS ls (lv_sub hl [0, 1, 2, 3] rfl)
set_option maxHeartbeats 4000000 in
set_option maxRecDepth 100000 in
theorem mX1_setTo2 (l : Launch) (G : xG) (uA : Nat) (ua : Nat → Nat) (pac : Int32) (lim : Nat → Int32) (lan : Nat → Int32) (han : Nat → Int32) (bA : Nat) (ba : Nat → Nat) (bpac : Int32) (bl : Nat → Int32) (bn : Nat → Int32) (bh : Nat → Int32)   : xM l yX1_setTo wsX1_setTo ({ frames := 1, cells := 0, slots := 0, locals := 21 } : Room) [.ref uA, .ref bA, .ref bA] G [oRules uA ua pac, xI G (ua 0) 4 lim, xI G (ua 1) 4 lan, xI G (ua 2) 4 han, oRules bA ba bpac, xI G (ba 0) 4 bl, xI G (ba 1) 4 bn, xI G (ba 2) 4 bh] [oRules uA ua (toR bpac bpac), xI G (ua 0) 4 (tf (toF bl bl) lim 4), xI G (ua 1) 4 (tf (toF bn bn) lan 4), xI G (ua 2) 4 (tf (toF bh bh) han 4), oRules bA ba bpac, xI G (ba 0) 4 bl, xI G (ba 1) 4 bn, xI G (ba 2) 4 bh] := by
  refine xM_of (cc := cX1_setTo) (maxL := 4) (by decide) rfl (Nat.le_of_ble_eq_true rfl) ?_
  intro p e s m below meth cO ls Q A hx hb hml hown hts hP hK hD hS hA hl hq
  have hown : s.vm.findClass RX1 = some m.cls := hown
  have kl9 := hts (.fieldLink RX1 9 "WorkBoard$Rules" "limit" "[I") (List.mem_of_getElem? (i := 1) rfl)
  have kl15 := hts (.fieldLink RX1 15 "WorkBoard$Rules" "lane" "[I") (List.mem_of_getElem? (i := 2) rfl)
  have kl18 := hts (.fieldLink RX1 18 "WorkBoard$Rules" "hands" "[I") (List.mem_of_getElem? (i := 3) rfl)
  have kl25 := hts (.fieldLink RX1 25 "WorkBoard$Rules" "pace" "I") (List.mem_of_getElem? (i := 4) rfl)
  have inX1 : ∀ w ∈ u_ws RX1 TX1 4, w ∈ wsX1_setTo := (fun w h => List.mem_cons_of_mem _ (List.mem_append_right _ h))
  have hl : lv_has ls 4 [(0, .ref uA), (1, .ref bA), (2, .ref bA)] := hl
  have hD : va_D A [oRules uA ua pac, xI G (ua 0) 4 lim, xI G (ua 1) 4 lan, xI G (ua 2) 4 han, oRules bA ba bpac, xI G (ba 0) 4 bl, xI G (ba 1) 4 bn, xI G (ba 2) 4 bh] := hD
  obtain ⟨H, hH⟩ : ∃ z, z = s.heap := ⟨_, rfl⟩
  obtain ⟨locs, hlocs⟩ : ∃ z : List Loc, z = [] := ⟨_, rfl⟩
  have hS : va_S A s.heap H locs := by rw [hH, hlocs]; exact hS
  have hP : va_P (xD G) vwCl [oRules uA ua pac, xI G (ua 0) 4 lim, xI G (ua 1) 4 lan, xI G (ua 2) 4 han, oRules bA ba bpac, xI G (ba 0) 4 bl, xI G (ba 1) 4 bn, xI G (ba 2) 4 bh] H := by rw [hH]; exact hP
  rw [← hH, ← hlocs]
  clear hH hlocs
  refine lv_iconst (v := 0) hx hb dX1_setTo_0 (by decide) ?_
  refine lv_istore_n (lv' := [(3, .int 0), (0, .ref uA), (1, .ref bA), (2, .ref bA)]) hx hb dX1_setTo_1 rfl hl (by decide) rfl (fun ls hl => ?_)
  have L2 : ∀ (kk2 i : Nat) (a0 : XF) (a1 : XF) (a2 : XF), i ≤ 4 → 4 + 1 ≤ i + kk2 → (a0 = tf (toF bl bl) lim i) → (a1 = tf (toF bn bn) lan i) → (a2 = tf (toF bh bh) han i) → ∀ (H : Heap) (locs : List Loc), va_P (xD G) vwCl [oRules uA ua pac, xI G (ua 0) 4 a0, xI G (ua 1) 4 a1, xI G (ua 2) 4 a2, oRules bA ba bpac, xI G (ba 0) 4 bl, xI G (ba 1) 4 bn, xI G (ba 2) 4 bh] H → va_D A [oRules uA ua pac, xI G (ua 0) 4 a0, xI G (ua 1) 4 a1, xI G (ua 2) 4 a2, oRules bA ba bpac, xI G (ba 0) 4 bl, xI G (ba 1) 4 bn, xI G (ba 2) 4 bh] → va_S A s.heap H locs → ∀ (ls : Array Slot), lv_has ls 4 [(3, .int (nI i)), (0, .ref uA), (1, .ref bA), (2, .ref bA)] → W p l e ({ frames := 1, cells := 0, slots := 0, locals := 21 } : Room) s m #[Value.ref uA, Value.ref bA, Value.ref bA] below meth cO H locs 0 0 Q (F0 m 2 ls []) := by
    intro kk2
    induction kk2 with
    | zero => intro i a0 a1 a2 h1 h2; exact absurd h2 (by omega)
    | succ kk2 ih2 =>
      intro i a0 a1 a2 hi2 hk2 e0 e1 e2 H locs hP hD hS ls hl
      refine lv_iload_n hx hb dX1_setTo_2 rfl (lv_at hl 0 rfl) ?_
      refine lv_iconst (v := 4) hx hb dX1_setTo_3 (by decide) ?_
      refine x_icmp_ge (x := i) (y := 4) (tgt := 76) hx hb (by omega) (by omega) dX1_setTo_4 (by decide) (fun c4 => ?_) (fun c4 => ?_)
      · skip
        have e_2 : i = 4 := by omega
        rw [e_2] at e0
        subst e0
        rw [e_2] at e1
        subst e1
        rw [e_2] at e2
        subst e2
        refine lv_aload_n hx hb dX1_setTo_76 rfl (lv_at hl 1 rfl) ?_
        refine lv_aload_n hx hb dX1_setTo_77 rfl (lv_at hl 3 rfl) ?_
        refine va_get (D := xD G) (ci := 1) (v := .int bpac) (C := RX1) (T := TX1) (N := 4) hx hb hts inX1 hown hK hP 4 rfl rfl 3 (by decide) kl25 (fun _ h9 => h9) rfl dX1_setTo_78 ?_
        refine lv_aload_n hx hb dX1_setTo_81 rfl (lv_at hl 2 rfl) ?_
        refine va_get (D := xD G) (ci := 1) (v := .int bpac) (C := RX1) (T := TX1) (N := 4) hx hb hts inX1 hown hK hP 4 rfl rfl 3 (by decide) kl25 (fun _ h9 => h9) rfl dX1_setTo_82 ?_
        refine x_callS (As := [.int bpac, .int bpac]) (rest := [.ref uA]) ⟨hx, hb, hml, hown, hts⟩ (mX1_toldOr l G bpac bpac ) (va_cwS 2 hts gX1_setTo_X1_toldOr rfl rfl rfl (by decide +kernel) ⟨Nat.le_of_ble_eq_true rfl, Nat.le_of_ble_eq_true rfl⟩) hK rfl hl.1 rfl (Nat.le_of_ble_eq_true rfl) dX1_setTo_85 ⟨Nat.zero_le _, Nat.zero_le _⟩ (fun r hr => ?_)
        subst hr
        refine va_put (D := xD G) (ci := 1) (v := .int (toR bpac bpac)) (ty := .int) (C := RX1) (T := TX1) (N := 4) hx hb hts inX1 tyX1 tyX1_ok nmX1 hown hK hP hD hS 0 rfl rfl 3 (by decide) kl25 (fun _ h9 => h9) rfl (by decide +kernel) rfl rfl (Nat.le_of_ble_eq_true rfl) dX1_setTo_88 (fun H locs hP hD hS => ?_)
        have hP : va_P (xD G) vwCl [oRules uA ua (toR bpac bpac), xI G (ua 0) 4 (tf (toF bl bl) lim 4), xI G (ua 1) 4 (tf (toF bn bn) lan 4), xI G (ua 2) 4 (tf (toF bh bh) han 4), oRules bA ba bpac, xI G (ba 0) 4 bl, xI G (ba 1) 4 bn, xI G (ba 2) 4 bh] H := hP
        have hD : va_D A [oRules uA ua (toR bpac bpac), xI G (ua 0) 4 (tf (toF bl bl) lim 4), xI G (ua 1) 4 (tf (toF bn bn) lan 4), xI G (ua 2) 4 (tf (toF bh bh) han 4), oRules bA ba bpac, xI G (ba 0) 4 bl, xI G (ba 1) 4 bn, xI G (ba 2) 4 bh] := hD
        exact hq H locs 91 ls dX1_setTo_91 (hP) (hD) hS
      · skip
        refine lv_aload_n hx hb dX1_setTo_7 rfl (lv_at hl 1 rfl) ?_
        refine va_get (D := xD G) (ci := 1) (v := .ref (ua 0)) (C := RX1) (T := TX1) (N := 4) hx hb hts inX1 hown hK hP 0 rfl rfl 0 (by decide) kl9 (fun _ h9 => h9) rfl dX1_setTo_8 ?_
        refine lv_iload_n hx hb dX1_setTo_11 rfl (lv_at hl 0 rfl) ?_
        refine lv_aload_n hx hb dX1_setTo_12 rfl (lv_at hl 3 rfl) ?_
        refine va_get (D := xD G) (ci := 1) (v := .ref (ba 0)) (C := RX1) (T := TX1) (N := 4) hx hb hts inX1 hown hK hP 4 rfl rfl 0 (by decide) kl9 (fun _ h9 => h9) rfl dX1_setTo_13 ?_
        refine lv_iload_n hx hb dX1_setTo_16 rfl (lv_at hl 0 rfl) ?_
        refine x_iald (i := i) hx hb hK hP 5 rfl (by first | omega | assumption) (by omega) dX1_setTo_17 ?_
        refine lv_aload_n hx hb dX1_setTo_18 rfl (lv_at hl 2 rfl) ?_
        refine va_get (D := xD G) (ci := 1) (v := .ref (ba 0)) (C := RX1) (T := TX1) (N := 4) hx hb hts inX1 hown hK hP 4 rfl rfl 0 (by decide) kl9 (fun _ h9 => h9) rfl dX1_setTo_19 ?_
        refine lv_iload_n hx hb dX1_setTo_22 rfl (lv_at hl 0 rfl) ?_
        refine x_iald (i := i) hx hb hK hP 5 rfl (by first | omega | assumption) (by omega) dX1_setTo_23 ?_
        refine x_callS (As := [.int (bl i), .int (bl i)]) (rest := [.int (nI i), .ref (ua 0)]) ⟨hx, hb, hml, hown, hts⟩ (mX1_toldOr l G (bl i) (bl i) ) (va_cwS 2 hts gX1_setTo_X1_toldOr rfl rfl rfl (by decide +kernel) ⟨Nat.le_of_ble_eq_true rfl, Nat.le_of_ble_eq_true rfl⟩) hK rfl hl.1 rfl (Nat.le_of_ble_eq_true rfl) dX1_setTo_24 ⟨Nat.zero_le _, Nat.zero_le _⟩ (fun r hr => ?_)
        subst hr
        refine x_iast (i := i) hx hb hK hP hD hS 1 rfl (by first | omega | assumption) (by omega) dX1_setTo_27 (fun H locs hP hD hS => ?_)
        have hP : va_P (xD G) vwCl [oRules uA ua pac, xI G (ua 0) 4 (upd a0 i (toR (bl i) (bl i))), xI G (ua 1) 4 a1, xI G (ua 2) 4 a2, oRules bA ba bpac, xI G (ba 0) 4 bl, xI G (ba 1) 4 bn, xI G (ba 2) 4 bh] H := hP
        have hD : va_D A [oRules uA ua pac, xI G (ua 0) 4 (upd a0 i (toR (bl i) (bl i))), xI G (ua 1) 4 a1, xI G (ua 2) 4 a2, oRules bA ba bpac, xI G (ba 0) 4 bl, xI G (ba 1) 4 bn, xI G (ba 2) 4 bh] := hD
        refine lv_aload_n hx hb dX1_setTo_28 rfl (lv_at hl 1 rfl) ?_
        refine va_get (D := xD G) (ci := 1) (v := .ref (ua 1)) (C := RX1) (T := TX1) (N := 4) hx hb hts inX1 hown hK hP 0 rfl rfl 1 (by decide) kl15 (fun _ h9 => h9) rfl dX1_setTo_29 ?_
        refine lv_iload_n hx hb dX1_setTo_32 rfl (lv_at hl 0 rfl) ?_
        refine lv_aload_n hx hb dX1_setTo_33 rfl (lv_at hl 3 rfl) ?_
        refine va_get (D := xD G) (ci := 1) (v := .ref (ba 1)) (C := RX1) (T := TX1) (N := 4) hx hb hts inX1 hown hK hP 4 rfl rfl 1 (by decide) kl15 (fun _ h9 => h9) rfl dX1_setTo_34 ?_
        refine lv_iload_n hx hb dX1_setTo_37 rfl (lv_at hl 0 rfl) ?_
        refine x_iald (i := i) hx hb hK hP 6 rfl (by first | omega | assumption) (by omega) dX1_setTo_38 ?_
        refine lv_aload_n hx hb dX1_setTo_39 rfl (lv_at hl 2 rfl) ?_
        refine va_get (D := xD G) (ci := 1) (v := .ref (ba 1)) (C := RX1) (T := TX1) (N := 4) hx hb hts inX1 hown hK hP 4 rfl rfl 1 (by decide) kl15 (fun _ h9 => h9) rfl dX1_setTo_40 ?_
        refine lv_iload_n hx hb dX1_setTo_43 rfl (lv_at hl 0 rfl) ?_
        refine x_iald (i := i) hx hb hK hP 6 rfl (by first | omega | assumption) (by omega) dX1_setTo_44 ?_
        refine x_callS (As := [.int (bn i), .int (bn i)]) (rest := [.int (nI i), .ref (ua 1)]) ⟨hx, hb, hml, hown, hts⟩ (mX1_toldOr l G (bn i) (bn i) ) (va_cwS 2 hts gX1_setTo_X1_toldOr rfl rfl rfl (by decide +kernel) ⟨Nat.le_of_ble_eq_true rfl, Nat.le_of_ble_eq_true rfl⟩) hK rfl hl.1 rfl (Nat.le_of_ble_eq_true rfl) dX1_setTo_45 ⟨Nat.zero_le _, Nat.zero_le _⟩ (fun r hr => ?_)
        subst hr
        refine x_iast (i := i) hx hb hK hP hD hS 2 rfl (by first | omega | assumption) (by omega) dX1_setTo_48 (fun H locs hP hD hS => ?_)
        have hP : va_P (xD G) vwCl [oRules uA ua pac, xI G (ua 0) 4 (upd a0 i (toR (bl i) (bl i))), xI G (ua 1) 4 (upd a1 i (toR (bn i) (bn i))), xI G (ua 2) 4 a2, oRules bA ba bpac, xI G (ba 0) 4 bl, xI G (ba 1) 4 bn, xI G (ba 2) 4 bh] H := hP
        have hD : va_D A [oRules uA ua pac, xI G (ua 0) 4 (upd a0 i (toR (bl i) (bl i))), xI G (ua 1) 4 (upd a1 i (toR (bn i) (bn i))), xI G (ua 2) 4 a2, oRules bA ba bpac, xI G (ba 0) 4 bl, xI G (ba 1) 4 bn, xI G (ba 2) 4 bh] := hD
        refine lv_aload_n hx hb dX1_setTo_49 rfl (lv_at hl 1 rfl) ?_
        refine va_get (D := xD G) (ci := 1) (v := .ref (ua 2)) (C := RX1) (T := TX1) (N := 4) hx hb hts inX1 hown hK hP 0 rfl rfl 2 (by decide) kl18 (fun _ h9 => h9) rfl dX1_setTo_50 ?_
        refine lv_iload_n hx hb dX1_setTo_53 rfl (lv_at hl 0 rfl) ?_
        refine lv_aload_n hx hb dX1_setTo_54 rfl (lv_at hl 3 rfl) ?_
        refine va_get (D := xD G) (ci := 1) (v := .ref (ba 2)) (C := RX1) (T := TX1) (N := 4) hx hb hts inX1 hown hK hP 4 rfl rfl 2 (by decide) kl18 (fun _ h9 => h9) rfl dX1_setTo_55 ?_
        refine lv_iload_n hx hb dX1_setTo_58 rfl (lv_at hl 0 rfl) ?_
        refine x_iald (i := i) hx hb hK hP 7 rfl (by first | omega | assumption) (by omega) dX1_setTo_59 ?_
        refine lv_aload_n hx hb dX1_setTo_60 rfl (lv_at hl 2 rfl) ?_
        refine va_get (D := xD G) (ci := 1) (v := .ref (ba 2)) (C := RX1) (T := TX1) (N := 4) hx hb hts inX1 hown hK hP 4 rfl rfl 2 (by decide) kl18 (fun _ h9 => h9) rfl dX1_setTo_61 ?_
        refine lv_iload_n hx hb dX1_setTo_64 rfl (lv_at hl 0 rfl) ?_
        refine x_iald (i := i) hx hb hK hP 7 rfl (by first | omega | assumption) (by omega) dX1_setTo_65 ?_
        refine x_callS (As := [.int (bh i), .int (bh i)]) (rest := [.int (nI i), .ref (ua 2)]) ⟨hx, hb, hml, hown, hts⟩ (mX1_toldOr l G (bh i) (bh i) ) (va_cwS 2 hts gX1_setTo_X1_toldOr rfl rfl rfl (by decide +kernel) ⟨Nat.le_of_ble_eq_true rfl, Nat.le_of_ble_eq_true rfl⟩) hK rfl hl.1 rfl (Nat.le_of_ble_eq_true rfl) dX1_setTo_66 ⟨Nat.zero_le _, Nat.zero_le _⟩ (fun r hr => ?_)
        subst hr
        refine x_iast (i := i) hx hb hK hP hD hS 3 rfl (by first | omega | assumption) (by omega) dX1_setTo_69 (fun H locs hP hD hS => ?_)
        have hP : va_P (xD G) vwCl [oRules uA ua pac, xI G (ua 0) 4 (upd a0 i (toR (bl i) (bl i))), xI G (ua 1) 4 (upd a1 i (toR (bn i) (bn i))), xI G (ua 2) 4 (upd a2 i (toR (bh i) (bh i))), oRules bA ba bpac, xI G (ba 0) 4 bl, xI G (ba 1) 4 bn, xI G (ba 2) 4 bh] H := hP
        have hD : va_D A [oRules uA ua pac, xI G (ua 0) 4 (upd a0 i (toR (bl i) (bl i))), xI G (ua 1) 4 (upd a1 i (toR (bn i) (bn i))), xI G (ua 2) 4 (upd a2 i (toR (bh i) (bh i))), oRules bA ba bpac, xI G (ba 0) 4 bl, xI G (ba 1) 4 bn, xI G (ba 2) 4 bh] := hD
        refine lv_iinc (v := nI (i + 1)) (lv' := [(3, .int (nI (i + 1))), (0, .ref uA), (1, .ref bA), (2, .ref bA)]) hx hb dX1_setTo_70 hl (k := 0) rfl (by exact nI_add i 1) (by decide) rfl (fun ls hl => ?_)
        refine lv_goto (tgt := 2) hx hb dX1_setTo_73 (by decide) ?_
        exact ih2 (i + 1) (upd a0 i (toR (bl i) (bl i))) (upd a1 i (toR (bn i) (bn i))) (upd a2 i (toR (bh i) (bh i))) (by omega) (by omega) (by rw [e0]; exact tf_s _ _ _ rfl) (by rw [e1]; exact tf_s _ _ _ rfl) (by rw [e2]; exact tf_s _ _ _ rfl) H locs hP hD hS ls (lv_sub hl [0, 1, 2, 3] rfl)
  exact L2 (4 + 1) 0 lim lan han (by omega) (by omega) ((tf_0 _ _).symm) ((tf_0 _ _).symm) ((tf_0 _ _).symm) H locs hP hD hS ls (lv_sub hl [0, 1, 2, 3] rfl)
