/-! the law: its cases -/
set_option maxHeartbeats 4000000 in
set_option maxRecDepth 100000 in
/-- reason -/
theorem law_k10 {p : Program} {l : Launch} {e : Env} {s : State} {m : MethodId} {below : List Frame} {meth : Method} {c : Code} {b L : Nat} {xs : Nat → Int32} (C0 : lw_At p s m meth c b L xs) (hL : L ≤ 2560) {WH : Nat} (hWH : WH = 100000) {G : xG} {bA mA : Nat} {u : Nat → Nat → Nat} {ma : Nat → Nat} (hK : va_K (xD G) vwCl (x_tys G) s) {i : Nat} (hi : i + 5 ≤ L) {bs : BS} {g : MM} (hI : IV WH bs g) {H : Heap} {locs : List Loc} (hP : va_P (xD G) vwCl (bW G bA u bs ++ gW G mA ma g) H) (hD : va_D (fun q : Nat => s.heap.size ≤ q) (bW G bA u bs ++ gW G mA ma g)) (hS : va_S (fun q : Nat => s.heap.size ≤ q) s.heap H locs) {ls : Array Slot} (hl : lv_has ls 4 [(0, .ref b), (1, .ref bA), (2, .ref mA), (3, .int (nI i))]) (kk : LK p l e s m b below meth c G bA u mA ma WH ls) : W p l e room_1 s m #[Value.ref b] below meth c H locs 96 1522 (lw_Z below #[Value.ref b] s) (F0 m 552 ls []) := by
  obtain ⟨hx, hb, hr, hml, hown, hts, hX, hbl, hlocks, hgv⟩ := C0
  have hA : ∀ q : Nat, s.heap.size ≤ q → (fun q : Nat => s.heap.size ≤ q) q := fun _ h => h
  have hbA : ¬ (fun q : Nat => s.heap.size ≤ q) b := Nat.not_le.mpr hbl
  have htl : ∀ w ∈ wsL_law, w.before #[Value.ref b] s = true := fun w h => hts w (wsL_law_in w h)
  have hL2 : L < 2 ^ 31 := by omega
  refine lv_aload_n hx hb dL_law_552 rfl (lv_at hl 1 rfl) ?_
  refine law_arg (i := i) (j := 1) hx hb hX hbl hbA hS (by omega) hL2 hl (by decide) dL_law_553 dL_law_554 dL_law_555 dL_law_556 dL_law_557 ?_
  refine law_arg (i := i) (j := 2) hx hb hX hbl hbA hS (by omega) hL2 hl (by decide) dL_law_558 dL_law_559 dL_law_560 dL_law_561 dL_law_562 ?_
  refine law_argb (i := i) (j := 3) hx hb hX hbl hbA hS (by omega) hL2 hl (by decide) dL_law_563 dL_law_564 dL_law_565 dL_law_566 dL_law_567 dL_law_568 dL_law_571 dL_law_572 dL_law_575 ?_
  refine law_cX (As := [.int (xs (i + 1)), .int (xs (i + 2)), .int (b2 (decide (¬ xs (i + 3) = 0) = true))]) (rest := []) ⟨hx, hb, hml, hown, htl⟩ (kX4_reason l G bA u bs (xs (i + 1)) (xs (i + 2)) (decide (¬ xs (i + 3) = 0)) (IV_BI hI)) (cwV 3 htl gL_law_X4_reason rfl rfl rfl (by decide +kernel) ⟨Nat.le_of_ble_eq_true rfl, Nat.le_of_ble_eq_true rfl⟩) hK hP hD hS hA (bW_len _ _ _ _) (bW_len _ _ _ _) (gW_len _ _ _ _) rfl rfl hl.1 rfl (Nat.le_of_ble_eq_true rfl) dL_law_576 ⟨Nat.le_refl _, Nat.le_refl _⟩ (fun H locs hP hD hS => ?_)
  refine lv_aload_n hx hb dL_law_579 rfl (lv_at hl 2 rfl) ?_
  refine law_arg (i := i) (j := 1) hx hb hX hbl hbA hS (by omega) hL2 hl (by decide) dL_law_580 dL_law_581 dL_law_582 dL_law_583 dL_law_584 ?_
  refine law_arg (i := i) (j := 2) hx hb hX hbl hbA hS (by omega) hL2 hl (by decide) dL_law_585 dL_law_586 dL_law_587 dL_law_588 dL_law_589 ?_
  refine law_argb (i := i) (j := 3) hx hb hX hbl hbA hS (by omega) hL2 hl (by decide) dL_law_590 dL_law_591 dL_law_592 dL_law_593 dL_law_594 dL_law_595 dL_law_598 dL_law_599 dL_law_602 ?_
  refine law_cM (As := [.int (xs (i + 1)), .int (xs (i + 2)), .int (b2 (decide (¬ xs (i + 3) = 0) = true))]) ⟨hx, hb, hml, hown, htl⟩ (kX5_reason l G mA ma g (xs (i + 1)) (xs (i + 2)) (decide (¬ xs (i + 3) = 0)) (IV_GI hI)) (cwV 3 htl gL_law_X5_reason rfl rfl rfl (by decide +kernel) ⟨Nat.le_of_ble_eq_true rfl, Nat.le_of_ble_eq_true rfl⟩) hK hP hD hS hA (bW_len _ _ _ _) (gW_len _ _ _ _) (gW_len _ _ _ _) rfl rfl hl.1 rfl (Nat.le_of_ble_eq_true rfl) dL_law_603 ⟨Nat.le_refl _, Nat.le_refl _⟩ (fun H locs hP hD hS => ?_)
  refine lv_icmp_eq (tgt := 873) hx hb dL_law_606 (by decide) (fun _ => ?_) (fun q => ?_)
  · exact kk _ _ H locs ((st_at hI (xs (i + 1)) (xs (i + 2)) (decide (¬ xs (i + 3) = 0))).2.2) hP hD hS
  · exact absurd ((st_at hI (xs (i + 1)) (xs (i + 2)) (decide (¬ xs (i + 3) = 0))).2.1) q
set_option maxHeartbeats 4000000 in
set_option maxRecDepth 100000 in
/-- counts -/
theorem law_k11 {p : Program} {l : Launch} {e : Env} {s : State} {m : MethodId} {below : List Frame} {meth : Method} {c : Code} {b L : Nat} {xs : Nat → Int32} (C0 : lw_At p s m meth c b L xs) (hL : L ≤ 2560) {WH : Nat} (hWH : WH = 100000) {G : xG} {bA mA : Nat} {u : Nat → Nat → Nat} {ma : Nat → Nat} (hK : va_K (xD G) vwCl (x_tys G) s) {i : Nat} (hi : i + 5 ≤ L) {bs : BS} {g : MM} (hI : IV WH bs g) {H : Heap} {locs : List Loc} (hP : va_P (xD G) vwCl (bW G bA u bs ++ gW G mA ma g) H) (hD : va_D (fun q : Nat => s.heap.size ≤ q) (bW G bA u bs ++ gW G mA ma g)) (hS : va_S (fun q : Nat => s.heap.size ≤ q) s.heap H locs) {ls : Array Slot} (hl : lv_has ls 4 [(0, .ref b), (1, .ref bA), (2, .ref mA), (3, .int (nI i))]) (kk : LK p l e s m b below meth c G bA u mA ma WH ls) : W p l e room_1 s m #[Value.ref b] below meth c H locs 96 1522 (lw_Z below #[Value.ref b] s) (F0 m 611 ls []) := by
  obtain ⟨hx, hb, hr, hml, hown, hts, hX, hbl, hlocks, hgv⟩ := C0
  have hA : ∀ q : Nat, s.heap.size ≤ q → (fun q : Nat => s.heap.size ≤ q) q := fun _ h => h
  have hbA : ¬ (fun q : Nat => s.heap.size ≤ q) b := Nat.not_le.mpr hbl
  have htl : ∀ w ∈ wsL_law, w.before #[Value.ref b] s = true := fun w h => hts w (wsL_law_in w h)
  have hL2 : L < 2 ^ 31 := by omega
  refine lv_aload_n hx hb dL_law_611 rfl (lv_at hl 1 rfl) ?_
  refine law_arg (i := i) (j := 1) hx hb hX hbl hbA hS (by omega) hL2 hl (by decide) dL_law_612 dL_law_613 dL_law_614 dL_law_615 dL_law_616 ?_
  refine law_arg (i := i) (j := 2) hx hb hX hbl hbA hS (by omega) hL2 hl (by decide) dL_law_617 dL_law_618 dL_law_619 dL_law_620 dL_law_621 ?_
  refine law_argb (i := i) (j := 3) hx hb hX hbl hbA hS (by omega) hL2 hl (by decide) dL_law_622 dL_law_623 dL_law_624 dL_law_625 dL_law_626 dL_law_627 dL_law_630 dL_law_631 dL_law_634 ?_
  refine law_cX (As := [.int (xs (i + 1)), .int (xs (i + 2)), .int (b2 (decide (¬ xs (i + 3) = 0) = true))]) (rest := []) ⟨hx, hb, hml, hown, htl⟩ (kX4_counts l G bA u bs (xs (i + 1)) (xs (i + 2)) (decide (¬ xs (i + 3) = 0)) (IV_BI hI)) (cwV 3 htl gL_law_X4_counts rfl rfl rfl (by decide +kernel) ⟨Nat.le_of_ble_eq_true rfl, Nat.le_of_ble_eq_true rfl⟩) hK hP hD hS hA (bW_len _ _ _ _) (bW_len _ _ _ _) (gW_len _ _ _ _) rfl rfl hl.1 rfl (Nat.le_of_ble_eq_true rfl) dL_law_635 ⟨Nat.le_refl _, Nat.le_refl _⟩ (fun H locs hP hD hS => ?_)
  refine lv_aload_n hx hb dL_law_638 rfl (lv_at hl 2 rfl) ?_
  refine law_arg (i := i) (j := 1) hx hb hX hbl hbA hS (by omega) hL2 hl (by decide) dL_law_639 dL_law_640 dL_law_641 dL_law_642 dL_law_643 ?_
  refine law_arg (i := i) (j := 2) hx hb hX hbl hbA hS (by omega) hL2 hl (by decide) dL_law_644 dL_law_645 dL_law_646 dL_law_647 dL_law_648 ?_
  refine law_argb (i := i) (j := 3) hx hb hX hbl hbA hS (by omega) hL2 hl (by decide) dL_law_649 dL_law_650 dL_law_651 dL_law_652 dL_law_653 dL_law_654 dL_law_657 dL_law_658 dL_law_661 ?_
  refine law_cM (As := [.int (xs (i + 1)), .int (xs (i + 2)), .int (b2 (decide (¬ xs (i + 3) = 0) = true))]) ⟨hx, hb, hml, hown, htl⟩ (kX5_counts l G mA ma g (xs (i + 1)) (xs (i + 2)) (decide (¬ xs (i + 3) = 0)) (IV_GI hI)) (cwV 3 htl gL_law_X5_counts rfl rfl rfl (by decide +kernel) ⟨Nat.le_of_ble_eq_true rfl, Nat.le_of_ble_eq_true rfl⟩) hK hP hD hS hA (bW_len _ _ _ _) (gW_len _ _ _ _) (gW_len _ _ _ _) rfl rfl hl.1 rfl (Nat.le_of_ble_eq_true rfl) dL_law_662 ⟨Nat.le_refl _, Nat.le_refl _⟩ (fun H locs hP hD hS => ?_)
  refine lv_icmp_eq (tgt := 873) hx hb dL_law_665 (by decide) (fun _ => ?_) (fun q => ?_)
  · exact kk _ _ H locs ((st_counts hI (xs (i + 1)) (xs (i + 2)) (decide (¬ xs (i + 3) = 0))).2) hP hD hS
  · exact absurd ((st_counts hI (xs (i + 1)) (xs (i + 2)) (decide (¬ xs (i + 3) = 0))).1) q
set_option maxHeartbeats 4000000 in
set_option maxRecDepth 100000 in
/-- length -/
theorem law_k12 {p : Program} {l : Launch} {e : Env} {s : State} {m : MethodId} {below : List Frame} {meth : Method} {c : Code} {b L : Nat} {xs : Nat → Int32} (C0 : lw_At p s m meth c b L xs) (hL : L ≤ 2560) {WH : Nat} (hWH : WH = 100000) {G : xG} {bA mA : Nat} {u : Nat → Nat → Nat} {ma : Nat → Nat} (hK : va_K (xD G) vwCl (x_tys G) s) {i : Nat} (hi : i + 5 ≤ L) {bs : BS} {g : MM} (hI : IV WH bs g) {H : Heap} {locs : List Loc} (hP : va_P (xD G) vwCl (bW G bA u bs ++ gW G mA ma g) H) (hD : va_D (fun q : Nat => s.heap.size ≤ q) (bW G bA u bs ++ gW G mA ma g)) (hS : va_S (fun q : Nat => s.heap.size ≤ q) s.heap H locs) {ls : Array Slot} (hl : lv_has ls 4 [(0, .ref b), (1, .ref bA), (2, .ref mA), (3, .int (nI i))]) (kk : LK p l e s m b below meth c G bA u mA ma WH ls) : W p l e room_1 s m #[Value.ref b] below meth c H locs 96 1522 (lw_Z below #[Value.ref b] s) (F0 m 670 ls []) := by
  obtain ⟨hx, hb, hr, hml, hown, hts, hX, hbl, hlocks, hgv⟩ := C0
  have hA : ∀ q : Nat, s.heap.size ≤ q → (fun q : Nat => s.heap.size ≤ q) q := fun _ h => h
  have hbA : ¬ (fun q : Nat => s.heap.size ≤ q) b := Nat.not_le.mpr hbl
  have htl : ∀ w ∈ wsL_law, w.before #[Value.ref b] s = true := fun w h => hts w (wsL_law_in w h)
  have hL2 : L < 2 ^ 31 := by omega
  refine lv_aload_n hx hb dL_law_670 rfl (lv_at hl 1 rfl) ?_
  refine law_arg (i := i) (j := 1) hx hb hX hbl hbA hS (by omega) hL2 hl (by decide) dL_law_671 dL_law_672 dL_law_673 dL_law_674 dL_law_675 ?_
  refine law_argb (i := i) (j := 2) hx hb hX hbl hbA hS (by omega) hL2 hl (by decide) dL_law_676 dL_law_677 dL_law_678 dL_law_679 dL_law_680 dL_law_681 dL_law_684 dL_law_685 dL_law_688 ?_
  refine law_cX (As := [.int (xs (i + 1)), .int (b2 (decide (¬ xs (i + 2) = 0) = true))]) (rest := []) ⟨hx, hb, hml, hown, htl⟩ (kX4_length l G bA u bs (xs (i + 1)) (decide (¬ xs (i + 2) = 0)) (IV_BI hI)) (cwV 2 htl gL_law_X4_length rfl rfl rfl (by decide +kernel) ⟨Nat.le_of_ble_eq_true rfl, Nat.le_of_ble_eq_true rfl⟩) hK hP hD hS hA (bW_len _ _ _ _) (bW_len _ _ _ _) (gW_len _ _ _ _) rfl rfl hl.1 rfl (Nat.le_of_ble_eq_true rfl) dL_law_689 ⟨Nat.le_refl _, Nat.le_refl _⟩ (fun H locs hP hD hS => ?_)
  refine lv_aload_n hx hb dL_law_692 rfl (lv_at hl 2 rfl) ?_
  refine law_arg (i := i) (j := 1) hx hb hX hbl hbA hS (by omega) hL2 hl (by decide) dL_law_693 dL_law_694 dL_law_695 dL_law_696 dL_law_697 ?_
  refine law_argb (i := i) (j := 2) hx hb hX hbl hbA hS (by omega) hL2 hl (by decide) dL_law_698 dL_law_699 dL_law_700 dL_law_701 dL_law_702 dL_law_703 dL_law_706 dL_law_707 dL_law_710 ?_
  refine law_cM (As := [.int (xs (i + 1)), .int (b2 (decide (¬ xs (i + 2) = 0) = true))]) ⟨hx, hb, hml, hown, htl⟩ (kX5_length l G mA ma g (xs (i + 1)) (decide (¬ xs (i + 2) = 0)) WH (IV_GI hI) hWH) (cwV 2 htl gL_law_X5_length rfl rfl rfl (by decide +kernel) ⟨Nat.le_of_ble_eq_true rfl, Nat.le_of_ble_eq_true rfl⟩) hK hP hD hS hA (bW_len _ _ _ _) (gW_len _ _ _ _) (gW_len _ _ _ _) rfl rfl hl.1 rfl (Nat.le_of_ble_eq_true rfl) dL_law_711 ⟨Nat.le_refl _, Nat.le_refl _⟩ (fun H locs hP hD hS => ?_)
  refine lv_icmp_eq (tgt := 873) hx hb dL_law_714 (by decide) (fun _ => ?_) (fun q => ?_)
  · exact kk _ _ H locs ((st_length hWH hI (xs (i + 1)) (decide (¬ xs (i + 2) = 0))).2) hP hD hS
  · exact absurd ((st_length hWH hI (xs (i + 1)) (decide (¬ xs (i + 2) = 0))).1) q
set_option maxHeartbeats 4000000 in
set_option maxRecDepth 100000 in
/-- differ -/
theorem law_k13 {p : Program} {l : Launch} {e : Env} {s : State} {m : MethodId} {below : List Frame} {meth : Method} {c : Code} {b L : Nat} {xs : Nat → Int32} (C0 : lw_At p s m meth c b L xs) (hL : L ≤ 2560) {WH : Nat} (hWH : WH = 100000) {G : xG} {bA mA : Nat} {u : Nat → Nat → Nat} {ma : Nat → Nat} (hK : va_K (xD G) vwCl (x_tys G) s) {i : Nat} (hi : i + 5 ≤ L) {bs : BS} {g : MM} (hI : IV WH bs g) {H : Heap} {locs : List Loc} (hP : va_P (xD G) vwCl (bW G bA u bs ++ gW G mA ma g) H) (hD : va_D (fun q : Nat => s.heap.size ≤ q) (bW G bA u bs ++ gW G mA ma g)) (hS : va_S (fun q : Nat => s.heap.size ≤ q) s.heap H locs) {ls : Array Slot} (hl : lv_has ls 4 [(0, .ref b), (1, .ref bA), (2, .ref mA), (3, .int (nI i))]) (kk : LK p l e s m b below meth c G bA u mA ma WH ls) : W p l e room_1 s m #[Value.ref b] below meth c H locs 96 1522 (lw_Z below #[Value.ref b] s) (F0 m 719 ls []) := by
  obtain ⟨hx, hb, hr, hml, hown, hts, hX, hbl, hlocks, hgv⟩ := C0
  have hA : ∀ q : Nat, s.heap.size ≤ q → (fun q : Nat => s.heap.size ≤ q) q := fun _ h => h
  have hbA : ¬ (fun q : Nat => s.heap.size ≤ q) b := Nat.not_le.mpr hbl
  have htl : ∀ w ∈ wsL_law, w.before #[Value.ref b] s = true := fun w h => hts w (wsL_law_in w h)
  have hL2 : L < 2 ^ 31 := by omega
  refine lv_aload_n hx hb dL_law_719 rfl (lv_at hl 1 rfl) ?_
  refine law_cX (As := []) (rest := []) ⟨hx, hb, hml, hown, htl⟩ (kX4_differ l G bA u bs  (IV_BI hI)) (cwV 0 htl gL_law_X4_differ rfl rfl rfl (by decide +kernel) ⟨Nat.le_of_ble_eq_true rfl, Nat.le_of_ble_eq_true rfl⟩) hK hP hD hS hA (bW_len _ _ _ _) (bW_len _ _ _ _) (gW_len _ _ _ _) rfl rfl hl.1 rfl (Nat.le_of_ble_eq_true rfl) dL_law_720 ⟨Nat.le_refl _, Nat.le_refl _⟩ (fun H locs hP hD hS => ?_)
  refine lv_aload_n hx hb dL_law_723 rfl (lv_at hl 2 rfl) ?_
  refine law_cM (As := []) ⟨hx, hb, hml, hown, htl⟩ (kX5_differ l G mA ma g  WH (IV_GI hI) hWH) (cwV 0 htl gL_law_X5_differ rfl rfl rfl (by decide +kernel) ⟨Nat.le_of_ble_eq_true rfl, Nat.le_of_ble_eq_true rfl⟩) hK hP hD hS hA (bW_len _ _ _ _) (gW_len _ _ _ _) (gW_len _ _ _ _) rfl rfl hl.1 rfl (Nat.le_of_ble_eq_true rfl) dL_law_724 ⟨Nat.le_refl _, Nat.le_refl _⟩ (fun H locs hP hD hS => ?_)
  refine lv_icmp_eq (tgt := 873) hx hb dL_law_727 (by decide) (fun _ => ?_) (fun q => ?_)
  · exact kk _ _ H locs ((st_differ hWH hI).2) hP hD hS
  · exact absurd ((st_differ hWH hI).1) q
set_option maxHeartbeats 4000000 in
set_option maxRecDepth 100000 in
/-- promise -/
theorem law_k14 {p : Program} {l : Launch} {e : Env} {s : State} {m : MethodId} {below : List Frame} {meth : Method} {c : Code} {b L : Nat} {xs : Nat → Int32} (C0 : lw_At p s m meth c b L xs) (hL : L ≤ 2560) {WH : Nat} (hWH : WH = 100000) {G : xG} {bA mA : Nat} {u : Nat → Nat → Nat} {ma : Nat → Nat} (hK : va_K (xD G) vwCl (x_tys G) s) {i : Nat} (hi : i + 5 ≤ L) {bs : BS} {g : MM} (hI : IV WH bs g) {H : Heap} {locs : List Loc} (hP : va_P (xD G) vwCl (bW G bA u bs ++ gW G mA ma g) H) (hD : va_D (fun q : Nat => s.heap.size ≤ q) (bW G bA u bs ++ gW G mA ma g)) (hS : va_S (fun q : Nat => s.heap.size ≤ q) s.heap H locs) {ls : Array Slot} (hl : lv_has ls 4 [(0, .ref b), (1, .ref bA), (2, .ref mA), (3, .int (nI i))]) (kk : LK p l e s m b below meth c G bA u mA ma WH ls) : W p l e room_1 s m #[Value.ref b] below meth c H locs 96 1522 (lw_Z below #[Value.ref b] s) (F0 m 732 ls []) := by
  obtain ⟨hx, hb, hr, hml, hown, hts, hX, hbl, hlocks, hgv⟩ := C0
  have hA : ∀ q : Nat, s.heap.size ≤ q → (fun q : Nat => s.heap.size ≤ q) q := fun _ h => h
  have hbA : ¬ (fun q : Nat => s.heap.size ≤ q) b := Nat.not_le.mpr hbl
  have htl : ∀ w ∈ wsL_law, w.before #[Value.ref b] s = true := fun w h => hts w (wsL_law_in w h)
  have hL2 : L < 2 ^ 31 := by omega
  refine lv_aload_n hx hb dL_law_732 rfl (lv_at hl 1 rfl) ?_
  refine law_arg (i := i) (j := 1) hx hb hX hbl hbA hS (by omega) hL2 hl (by decide) dL_law_733 dL_law_734 dL_law_735 dL_law_736 dL_law_737 ?_
  refine law_argb (i := i) (j := 2) hx hb hX hbl hbA hS (by omega) hL2 hl (by decide) dL_law_738 dL_law_739 dL_law_740 dL_law_741 dL_law_742 dL_law_743 dL_law_746 dL_law_747 dL_law_750 ?_
  refine law_cX (As := [.int (xs (i + 1)), .int (b2 (decide (¬ xs (i + 2) = 0) = true))]) (rest := []) ⟨hx, hb, hml, hown, htl⟩ (kX4_promise l G bA u bs (xs (i + 1)) (decide (¬ xs (i + 2) = 0)) (IV_BI hI)) (cwV 2 htl gL_law_X4_promise rfl rfl rfl (by decide +kernel) ⟨Nat.le_of_ble_eq_true rfl, Nat.le_of_ble_eq_true rfl⟩) hK hP hD hS hA (bW_len _ _ _ _) (bW_len _ _ _ _) (gW_len _ _ _ _) rfl rfl hl.1 rfl (Nat.le_of_ble_eq_true rfl) dL_law_751 ⟨Nat.le_refl _, Nat.le_refl _⟩ (fun H locs hP hD hS => ?_)
  refine lv_aload_n hx hb dL_law_754 rfl (lv_at hl 2 rfl) ?_
  refine law_arg (i := i) (j := 1) hx hb hX hbl hbA hS (by omega) hL2 hl (by decide) dL_law_755 dL_law_756 dL_law_757 dL_law_758 dL_law_759 ?_
  refine law_argb (i := i) (j := 2) hx hb hX hbl hbA hS (by omega) hL2 hl (by decide) dL_law_760 dL_law_761 dL_law_762 dL_law_763 dL_law_764 dL_law_765 dL_law_768 dL_law_769 dL_law_772 ?_
  refine law_cM (As := [.int (xs (i + 1)), .int (b2 (decide (¬ xs (i + 2) = 0) = true))]) ⟨hx, hb, hml, hown, htl⟩ (kX5_promise l G mA ma g (xs (i + 1)) (decide (¬ xs (i + 2) = 0)) WH (IV_GI hI) hWH) (cwV 2 htl gL_law_X5_promise rfl rfl rfl (by decide +kernel) ⟨Nat.le_of_ble_eq_true rfl, Nat.le_of_ble_eq_true rfl⟩) hK hP hD hS hA (bW_len _ _ _ _) (gW_len _ _ _ _) (gW_len _ _ _ _) rfl rfl hl.1 rfl (Nat.le_of_ble_eq_true rfl) dL_law_773 ⟨Nat.le_refl _, Nat.le_refl _⟩ (fun H locs hP hD hS => ?_)
  refine lv_icmp_eq (tgt := 873) hx hb dL_law_776 (by decide) (fun _ => ?_) (fun q => ?_)
  · exact kk _ _ H locs ((st_promise hWH hI (xs (i + 1)) (decide (¬ xs (i + 2) = 0))).2) hP hD hS
  · exact absurd ((st_promise hWH hI (xs (i + 1)) (decide (¬ xs (i + 2) = 0))).1) q
