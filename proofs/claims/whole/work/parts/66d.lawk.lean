/-! the law: its cases -/
set_option maxHeartbeats 4000000 in
set_option maxRecDepth 100000 in
/-- best -/
theorem law_k15 {p : Program} {l : Launch} {e : Env} {s : State} {m : MethodId} {below : List Frame} {meth : Method} {c : Code} {b L : Nat} {xs : Nat → Int32} (C0 : lw_At p s m meth c b L xs) (hL : L ≤ 2560) {WH : Nat} (hWH : WH = 100000) {G : xG} {bA mA : Nat} {u : Nat → Nat → Nat} {ma : Nat → Nat} (hK : va_K (xD G) vwCl (x_tys G) s) {i : Nat} (hi : i + 5 ≤ L) {bs : BS} {g : MM} (hI : IV WH bs g) {H : Heap} {locs : List Loc} (hP : va_P (xD G) vwCl (bW G bA u bs ++ gW G mA ma g) H) (hD : va_D (fun q : Nat => s.heap.size ≤ q) (bW G bA u bs ++ gW G mA ma g)) (hS : va_S (fun q : Nat => s.heap.size ≤ q) s.heap H locs) {ls : Array Slot} (hl : lv_has ls 4 [(0, .ref b), (1, .ref bA), (2, .ref mA), (3, .int (nI i))]) (kk : LK p l e s m b below meth c G bA u mA ma WH ls) : W p l e room_1 s m #[Value.ref b] below meth c H locs 96 1522 (lw_Z below #[Value.ref b] s) (F0 m 781 ls []) := by
  obtain ⟨hx, hb, hr, hml, hown, hts, hX, hbl, hlocks, hgv⟩ := C0
  have hA : ∀ q : Nat, s.heap.size ≤ q → (fun q : Nat => s.heap.size ≤ q) q := fun _ h => h
  have hbA : ¬ (fun q : Nat => s.heap.size ≤ q) b := Nat.not_le.mpr hbl
  have htl : ∀ w ∈ wsL_law, w.before #[Value.ref b] s = true := fun w h => hts w (wsL_law_in w h)
  have hL2 : L < 2 ^ 31 := by omega
  refine lv_aload_n hx hb dL_law_781 rfl (lv_at hl 1 rfl) ?_
  refine law_arg (i := i) (j := 1) hx hb hX hbl hbA hS (by omega) hL2 hl (by decide) dL_law_782 dL_law_783 dL_law_784 dL_law_785 dL_law_786 ?_
  refine law_cX (As := [.int (xs (i + 1))]) (rest := []) ⟨hx, hb, hml, hown, htl⟩ (kX4_best l G bA u bs (xs (i + 1)) (IV_BI hI)) (cwV 1 htl gL_law_X4_best rfl rfl rfl (by decide +kernel) ⟨Nat.le_of_ble_eq_true rfl, Nat.le_of_ble_eq_true rfl⟩) hK hP hD hS hA (bW_len _ _ _ _) (bW_len _ _ _ _) (gW_len _ _ _ _) rfl rfl hl.1 rfl (Nat.le_of_ble_eq_true rfl) dL_law_787 ⟨Nat.le_refl _, Nat.le_refl _⟩ (fun H locs hP hD hS => ?_)
  refine lv_aload_n hx hb dL_law_790 rfl (lv_at hl 2 rfl) ?_
  refine law_arg (i := i) (j := 1) hx hb hX hbl hbA hS (by omega) hL2 hl (by decide) dL_law_791 dL_law_792 dL_law_793 dL_law_794 dL_law_795 ?_
  refine law_cM (As := [.int (xs (i + 1))]) ⟨hx, hb, hml, hown, htl⟩ (kX5_best l G mA ma g (xs (i + 1)) WH (IV_GI hI) hWH) (cwV 1 htl gL_law_X5_best rfl rfl rfl (by decide +kernel) ⟨Nat.le_of_ble_eq_true rfl, Nat.le_of_ble_eq_true rfl⟩) hK hP hD hS hA (bW_len _ _ _ _) (gW_len _ _ _ _) (gW_len _ _ _ _) rfl rfl hl.1 rfl (Nat.le_of_ble_eq_true rfl) dL_law_796 ⟨Nat.le_refl _, Nat.le_refl _⟩ (fun H locs hP hD hS => ?_)
  refine lv_icmp_eq (tgt := 873) hx hb dL_law_799 (by decide) (fun _ => ?_) (fun q => ?_)
  · exact kk _ _ H locs ((st_best hWH hI (xs (i + 1))).2.1) hP hD hS
  · exact absurd ((st_best hWH hI (xs (i + 1))).1) q
set_option maxHeartbeats 4000000 in
set_option maxRecDepth 100000 in
/-- bestLimit -/
theorem law_k16 {p : Program} {l : Launch} {e : Env} {s : State} {m : MethodId} {below : List Frame} {meth : Method} {c : Code} {b L : Nat} {xs : Nat → Int32} (C0 : lw_At p s m meth c b L xs) (hL : L ≤ 2560) {WH : Nat} (hWH : WH = 100000) {G : xG} {bA mA : Nat} {u : Nat → Nat → Nat} {ma : Nat → Nat} (hK : va_K (xD G) vwCl (x_tys G) s) {i : Nat} (hi : i + 5 ≤ L) {bs : BS} {g : MM} (hI : IV WH bs g) {H : Heap} {locs : List Loc} (hP : va_P (xD G) vwCl (bW G bA u bs ++ gW G mA ma g) H) (hD : va_D (fun q : Nat => s.heap.size ≤ q) (bW G bA u bs ++ gW G mA ma g)) (hS : va_S (fun q : Nat => s.heap.size ≤ q) s.heap H locs) {ls : Array Slot} (hl : lv_has ls 4 [(0, .ref b), (1, .ref bA), (2, .ref mA), (3, .int (nI i))]) (kk : LK p l e s m b below meth c G bA u mA ma WH ls) : W p l e room_1 s m #[Value.ref b] below meth c H locs 96 1522 (lw_Z below #[Value.ref b] s) (F0 m 804 ls []) := by
  obtain ⟨hx, hb, hr, hml, hown, hts, hX, hbl, hlocks, hgv⟩ := C0
  have hA : ∀ q : Nat, s.heap.size ≤ q → (fun q : Nat => s.heap.size ≤ q) q := fun _ h => h
  have hbA : ¬ (fun q : Nat => s.heap.size ≤ q) b := Nat.not_le.mpr hbl
  have htl : ∀ w ∈ wsL_law, w.before #[Value.ref b] s = true := fun w h => hts w (wsL_law_in w h)
  have hL2 : L < 2 ^ 31 := by omega
  refine lv_aload_n hx hb dL_law_804 rfl (lv_at hl 1 rfl) ?_
  refine law_arg (i := i) (j := 1) hx hb hX hbl hbA hS (by omega) hL2 hl (by decide) dL_law_805 dL_law_806 dL_law_807 dL_law_808 dL_law_809 ?_
  refine law_arg (i := i) (j := 2) hx hb hX hbl hbA hS (by omega) hL2 hl (by decide) dL_law_810 dL_law_811 dL_law_812 dL_law_813 dL_law_814 ?_
  refine law_cX (As := [.int (xs (i + 1)), .int (xs (i + 2))]) (rest := []) ⟨hx, hb, hml, hown, htl⟩ (kX4_bestLimit l G bA u bs (xs (i + 1)) (xs (i + 2)) (IV_BI hI)) (cwV 2 htl gL_law_X4_bestLimit rfl rfl rfl (by decide +kernel) ⟨Nat.le_of_ble_eq_true rfl, Nat.le_of_ble_eq_true rfl⟩) hK hP hD hS hA (bW_len _ _ _ _) (bW_len _ _ _ _) (gW_len _ _ _ _) rfl rfl hl.1 rfl (Nat.le_of_ble_eq_true rfl) dL_law_815 ⟨Nat.le_refl _, Nat.le_refl _⟩ (fun H locs hP hD hS => ?_)
  refine lv_aload_n hx hb dL_law_818 rfl (lv_at hl 2 rfl) ?_
  refine law_arg (i := i) (j := 1) hx hb hX hbl hbA hS (by omega) hL2 hl (by decide) dL_law_819 dL_law_820 dL_law_821 dL_law_822 dL_law_823 ?_
  refine law_arg (i := i) (j := 2) hx hb hX hbl hbA hS (by omega) hL2 hl (by decide) dL_law_824 dL_law_825 dL_law_826 dL_law_827 dL_law_828 ?_
  refine law_cM (As := [.int (xs (i + 1)), .int (xs (i + 2))]) ⟨hx, hb, hml, hown, htl⟩ (kX5_bestLimit l G mA ma g (xs (i + 1)) (xs (i + 2)) WH (IV_GI hI) hWH) (cwV 2 htl gL_law_X5_bestLimit rfl rfl rfl (by decide +kernel) ⟨Nat.le_of_ble_eq_true rfl, Nat.le_of_ble_eq_true rfl⟩) hK hP hD hS hA (bW_len _ _ _ _) (gW_len _ _ _ _) (gW_len _ _ _ _) rfl rfl hl.1 rfl (Nat.le_of_ble_eq_true rfl) dL_law_829 ⟨Nat.le_refl _, Nat.le_refl _⟩ (fun H locs hP hD hS => ?_)
  refine lv_icmp_eq (tgt := 873) hx hb dL_law_832 (by decide) (fun _ => ?_) (fun q => ?_)
  · exact kk _ _ H locs ((st_bestLimit hWH hI (xs (i + 1)) (xs (i + 2))).2) hP hD hS
  · exact absurd ((st_bestLimit hWH hI (xs (i + 1)) (xs (i + 2))).1) q
set_option maxHeartbeats 4000000 in
set_option maxRecDepth 100000 in
/-- cost -/
theorem law_k17 {p : Program} {l : Launch} {e : Env} {s : State} {m : MethodId} {below : List Frame} {meth : Method} {c : Code} {b L : Nat} {xs : Nat → Int32} (C0 : lw_At p s m meth c b L xs) (hL : L ≤ 2560) {WH : Nat} (hWH : WH = 100000) {G : xG} {bA mA : Nat} {u : Nat → Nat → Nat} {ma : Nat → Nat} (hK : va_K (xD G) vwCl (x_tys G) s) {i : Nat} (hi : i + 5 ≤ L) {bs : BS} {g : MM} (hI : IV WH bs g) {H : Heap} {locs : List Loc} (hP : va_P (xD G) vwCl (bW G bA u bs ++ gW G mA ma g) H) (hD : va_D (fun q : Nat => s.heap.size ≤ q) (bW G bA u bs ++ gW G mA ma g)) (hS : va_S (fun q : Nat => s.heap.size ≤ q) s.heap H locs) {ls : Array Slot} (hl : lv_has ls 4 [(0, .ref b), (1, .ref bA), (2, .ref mA), (3, .int (nI i))]) (kk : LK p l e s m b below meth c G bA u mA ma WH ls) : W p l e room_1 s m #[Value.ref b] below meth c H locs 96 1522 (lw_Z below #[Value.ref b] s) (F0 m 837 ls []) := by
  obtain ⟨hx, hb, hr, hml, hown, hts, hX, hbl, hlocks, hgv⟩ := C0
  have hA : ∀ q : Nat, s.heap.size ≤ q → (fun q : Nat => s.heap.size ≤ q) q := fun _ h => h
  have hbA : ¬ (fun q : Nat => s.heap.size ≤ q) b := Nat.not_le.mpr hbl
  have htl : ∀ w ∈ wsL_law, w.before #[Value.ref b] s = true := fun w h => hts w (wsL_law_in w h)
  have hL2 : L < 2 ^ 31 := by omega
  refine lv_aload_n hx hb dL_law_837 rfl (lv_at hl 1 rfl) ?_
  refine law_cX (As := []) (rest := []) ⟨hx, hb, hml, hown, htl⟩ (kX4_cost l G bA u bs  (IV_BI hI)) (cwV 0 htl gL_law_X4_cost rfl rfl rfl (by decide +kernel) ⟨Nat.le_of_ble_eq_true rfl, Nat.le_of_ble_eq_true rfl⟩) hK hP hD hS hA (bW_len _ _ _ _) (bW_len _ _ _ _) (gW_len _ _ _ _) rfl rfl hl.1 rfl (Nat.le_of_ble_eq_true rfl) dL_law_838 ⟨Nat.le_refl _, Nat.le_refl _⟩ (fun H locs hP hD hS => ?_)
  refine lv_aload_n hx hb dL_law_841 rfl (lv_at hl 2 rfl) ?_
  refine law_cM (As := []) ⟨hx, hb, hml, hown, htl⟩ (kX5_cost l G mA ma g  WH (IV_GI hI) hWH) (cwV 0 htl gL_law_X5_cost rfl rfl rfl (by decide +kernel) ⟨Nat.le_of_ble_eq_true rfl, Nat.le_of_ble_eq_true rfl⟩) hK hP hD hS hA (bW_len _ _ _ _) (gW_len _ _ _ _) (gW_len _ _ _ _) rfl rfl hl.1 rfl (Nat.le_of_ble_eq_true rfl) dL_law_842 ⟨Nat.le_refl _, Nat.le_refl _⟩ (fun H locs hP hD hS => ?_)
  refine lv_icmp_eq (tgt := 873) hx hb dL_law_845 (by decide) (fun _ => ?_) (fun q => ?_)
  · exact kk _ _ H locs ((st_cost hWH hI).2) hP hD hS
  · exact absurd ((st_cost hWH hI).1) q
set_option maxHeartbeats 4000000 in
set_option maxRecDepth 100000 in
/-- about -/
theorem law_k18 {p : Program} {l : Launch} {e : Env} {s : State} {m : MethodId} {below : List Frame} {meth : Method} {c : Code} {b L : Nat} {xs : Nat → Int32} (C0 : lw_At p s m meth c b L xs) (hL : L ≤ 2560) {WH : Nat} (hWH : WH = 100000) {G : xG} {bA mA : Nat} {u : Nat → Nat → Nat} {ma : Nat → Nat} (hK : va_K (xD G) vwCl (x_tys G) s) {i : Nat} (hi : i + 5 ≤ L) {bs : BS} {g : MM} (hI : IV WH bs g) {H : Heap} {locs : List Loc} (hP : va_P (xD G) vwCl (bW G bA u bs ++ gW G mA ma g) H) (hD : va_D (fun q : Nat => s.heap.size ≤ q) (bW G bA u bs ++ gW G mA ma g)) (hS : va_S (fun q : Nat => s.heap.size ≤ q) s.heap H locs) {ls : Array Slot} (hl : lv_has ls 4 [(0, .ref b), (1, .ref bA), (2, .ref mA), (3, .int (nI i))]) (kk : LK p l e s m b below meth c G bA u mA ma WH ls) : W p l e room_1 s m #[Value.ref b] below meth c H locs 96 1522 (lw_Z below #[Value.ref b] s) (F0 m 850 ls []) := by
  obtain ⟨hx, hb, hr, hml, hown, hts, hX, hbl, hlocks, hgv⟩ := C0
  have hA : ∀ q : Nat, s.heap.size ≤ q → (fun q : Nat => s.heap.size ≤ q) q := fun _ h => h
  have hbA : ¬ (fun q : Nat => s.heap.size ≤ q) b := Nat.not_le.mpr hbl
  have htl : ∀ w ∈ wsL_law, w.before #[Value.ref b] s = true := fun w h => hts w (wsL_law_in w h)
  have hL2 : L < 2 ^ 31 := by omega
  refine lv_aload_n hx hb dL_law_850 rfl (lv_at hl 1 rfl) ?_
  refine law_arg (i := i) (j := 1) hx hb hX hbl hbA hS (by omega) hL2 hl (by decide) dL_law_851 dL_law_852 dL_law_853 dL_law_854 dL_law_855 ?_
  refine x_callR (As := [.int (xs (i + 1))]) (rest := []) (ci := 4) (q0 := 0) ⟨hx, hb, hml, hown, htl⟩ (mX4_about l G bA (u 0 0) (u 0 1) (u 0 2) (u 0 3) (u 0 4) (u 0 5) (u 0 6) (u 0 7) (u 1) bs (u 2) (u 4) (xs (i + 1))) (cwV 1 htl gL_law_X4_about rfl rfl rfl (by decide +kernel) ⟨Nat.le_of_ble_eq_true rfl, Nat.le_of_ble_eq_true rfl⟩) hK hP hD [0, 1, 9, 17] rfl rfl rfl rfl rfl rfl rfl hl.1 rfl (Nat.le_of_ble_eq_true rfl) dL_law_856 ⟨Nat.le_refl _, Nat.le_refl _⟩ (fun r1 hr1 => ?_)
  refine lv_aload_n hx hb dL_law_859 rfl (lv_at hl 2 rfl) ?_
  refine law_arg (i := i) (j := 1) hx hb hX hbl hbA hS (by omega) hL2 hl (by decide) dL_law_860 dL_law_861 dL_law_862 dL_law_863 dL_law_864 ?_
  refine x_callR (As := [.int (xs (i + 1))]) (ci := 5) (q0 := 67) ⟨hx, hb, hml, hown, htl⟩ (mX5_about l G mA ma (nI (gK g)) (nI (gN g)) (gLp g) (gOp g) (gRp g) (gRa g) (nI (mK (gZ g))) (mE (gZ g)) (mM (gZ g)) (mV (gZ g)) (nI (mH (gZ g))) (gFr g) (gBu g) (gBs g) (xs (i + 1))) (cwV 1 htl gL_law_X5_about rfl rfl rfl (by decide +kernel) ⟨Nat.le_of_ble_eq_true rfl, Nat.le_of_ble_eq_true rfl⟩) hK hP hD [67] rfl rfl rfl rfl rfl rfl rfl hl.1 rfl (Nat.le_of_ble_eq_true rfl) dL_law_865 ⟨Nat.le_refl _, Nat.le_refl _⟩ (fun r2 hr2 => ?_)
  refine lv_icmp_eq (tgt := 873) hx hb dL_law_868 (by decide) (fun _ => ?_) (fun q => ?_)
  · exact kk bs g H locs hI hP hD hS
  · exact absurd (hr1.trans ((st_about hI (xs (i + 1))).trans hr2.symm)) q
