/-! the law: its loop -/
theorem law_nx {L i : Nat} (hL : L ≤ 2560) (hi : i < 2 ^ 30) (h : ¬ nI L - 5 < nI i) : i + 5 ≤ L := by
  have h1 : (nI L - 5).toInt = (L : Int) - 5 := pk_sub_toInt (b := 5) (by omega) (by omega)
  rw [Int32.lt_iff_toInt_lt, h1, nI_toInt (by omega)] at h
  omega
set_option maxHeartbeats 4000000 in
set_option maxRecDepth 100000 in
theorem law_loop {p : Program} {l : Launch} {e : Env} {s : State} {m : MethodId} {below : List Frame} {meth : Method} {c : Code} {b L : Nat} {xs : Nat → Int32} (C0 : lw_At p s m meth c b L xs) (hL : L ≤ 2560) {WH : Nat} (hWH : WH = 100000) {G : xG} {bA mA : Nat} {u : Nat → Nat → Nat} {ma : Nat → Nat} (hK : va_K (xD G) vwCl (x_tys G) s) : ∀ (n i : Nat), i ≤ L + 5 → L + 6 ≤ i + n → ∀ (bs : BS) (g : MM) (H : Heap) (locs : List Loc) (ls : Array Slot), IV WH bs g → va_P (xD G) vwCl (bW G bA u bs ++ gW G mA ma g) H → va_D (fun q : Nat => s.heap.size ≤ q) (bW G bA u bs ++ gW G mA ma g) → va_S (fun q : Nat => s.heap.size ≤ q) s.heap H locs → lv_has ls 4 [(0, .ref b), (1, .ref bA), (2, .ref mA), (3, .int (nI i))] → W p l e room_1 s m #[Value.ref b] below meth c H locs 96 1522 (lw_Z below #[Value.ref b] s) (F0 m 18 ls []) := by
  intro n
  induction n with
  | zero => intro i h1 h2; exact absurd h2 (by omega)
  | succ n ih =>
    intro i h1 h2 bs g H locs ls hI hP hD hS hl
    obtain ⟨hx, hb, hr, hml, hown, hts, hX, hbl, hlocks, hgv⟩ := id C0
    have hbA : ¬ (fun q : Nat => s.heap.size ≤ q) b := Nat.not_le.mpr hbl
    refine lv_iload_n hx hb dL_law_18 rfl (lv_at hl 3 rfl) ?_
    refine lv_aload_n hx hb dL_law_19 rfl (lv_at hl 0 rfl) ?_
    refine va_slen hx hb hX hbl hbA hS dL_law_20 ?_
    refine lv_iconst (v := 5) hx hb dL_law_21 (by decide) ?_
    refine lv_isub hx hb dL_law_22 ?_
    refine lv_icmp_gt (tgt := 879) hx hb dL_law_23 (by decide) (fun _ => ?_) (fun hq => ?_)
    · refine lv_iconst (v := 1) hx hb dL_law_879 (by decide) ?_
      refine va_forget (fun q hq => hS.2.2 q hq) ?_
      exact lw_ret hx hb hr hlocks dL_law_880
    · have hi : i + 5 ≤ L := law_nx hL (by omega) hq
      have hv : vp_in (nI i) L := vp_in_nI (by omega) (by omega)
      refine lv_aload_n hx hb dL_law_26 rfl (lv_at hl 0 rfl) ?_
      refine lv_iload_n hx hb dL_law_27 rfl (lv_at hl 3 rfl) ?_
      refine va_sld hx hb hX hbl hbA hS hv dL_law_28 ?_
      refine lv_bipush (v := 31) hx hb dL_law_29 (by decide) ?_
      refine lv_iand hx hb dL_law_31 ?_
      have kk : LK p l e s m b below meth c G bA u mA ma WH ls := by
        intro bs1 g1 H1 locs1 hI1 hP1 hD1 hS1
        refine lv_iinc (v := nI (i + 5)) (lv' := [(3, .int (nI (i + 5))), (0, .ref b), (1, .ref bA), (2, .ref mA)]) hx hb dL_law_873 hl (k := 3) rfl (nI_add i 5) (by decide) rfl (fun ls1 hl1 => ?_)
        refine lv_goto (tgt := 18) hx hb dL_law_876 (by decide) ?_
        exact ih (i + 5) (by omega) (by omega) bs1 g1 H1 locs1 ls1 hI1 hP1 hD1 hS1 (lv_sub hl1 [1, 2, 3, 0] rfl)
      obtain ⟨k, hk, hk2⟩ := pk_andE (xs (nI i).toNatClampNeg) 5 (m := 31) (by decide)
      refine x_top hk2 ?_
      rcases (show k = 0 ∨ k = 1 ∨ k = 2 ∨ k = 3 ∨ k = 4 ∨ k = 5 ∨ k = 6 ∨ k = 7 ∨ k = 8 ∨ k = 9 ∨ k = 10 ∨ k = 11 ∨ k = 12 ∨ k = 13 ∨ k = 14 ∨ k = 15 ∨ k = 16 ∨ k = 17 ∨ k = 18 ∨ 19 ≤ k by omega) with rfl | rfl | rfl | rfl | rfl | rfl | rfl | rfl | rfl | rfl | rfl | rfl | rfl | rfl | rfl | rfl | rfl | rfl | rfl | h19
      · exact lv_tableIn (tgt := 124) (off := 92) hx hb dL_law_32 (by decide) (by decide) rfl (by decide) (law_k0 C0 hL hWH hK hi hI hP hD hS hl kk)
      · exact lv_tableIn (tgt := 147) (off := 115) hx hb dL_law_32 (by decide) (by decide) rfl (by decide) (law_k1 C0 hL hWH hK hi hI hP hD hS hl kk)
      · exact lv_tableIn (tgt := 200) (off := 168) hx hb dL_law_32 (by decide) (by decide) rfl (by decide) (law_k2 C0 hL hWH hK hi hI hP hD hS hl kk)
      · exact lv_tableIn (tgt := 223) (off := 191) hx hb dL_law_32 (by decide) (by decide) rfl (by decide) (law_k3 C0 hL hWH hK hi hI hP hD hS hl kk)
      · exact lv_tableIn (tgt := 272) (off := 240) hx hb dL_law_32 (by decide) (by decide) rfl (by decide) (law_k4 C0 hL hWH hK hi hI hP hD hS hl kk)
      · exact lv_tableIn (tgt := 315) (off := 283) hx hb dL_law_32 (by decide) (by decide) rfl (by decide) (law_k5 C0 hL hWH hK hi hI hP hD hS hl kk)
      · exact lv_tableIn (tgt := 348) (off := 316) hx hb dL_law_32 (by decide) (by decide) rfl (by decide) (law_k6 C0 hL hWH hK hi hI hP hD hS hl kk)
      · exact lv_tableIn (tgt := 391) (off := 359) hx hb dL_law_32 (by decide) (by decide) rfl (by decide) (law_k7 C0 hL hWH hK hi hI hP hD hS hl kk)
      · exact lv_tableIn (tgt := 434) (off := 402) hx hb dL_law_32 (by decide) (by decide) rfl (by decide) (law_k8 C0 hL hWH hK hi hI hP hD hS hl kk)
      · exact lv_tableIn (tgt := 493) (off := 461) hx hb dL_law_32 (by decide) (by decide) rfl (by decide) (law_k9 C0 hL hWH hK hi hI hP hD hS hl kk)
      · exact lv_tableIn (tgt := 552) (off := 520) hx hb dL_law_32 (by decide) (by decide) rfl (by decide) (law_k10 C0 hL hWH hK hi hI hP hD hS hl kk)
      · exact lv_tableIn (tgt := 611) (off := 579) hx hb dL_law_32 (by decide) (by decide) rfl (by decide) (law_k11 C0 hL hWH hK hi hI hP hD hS hl kk)
      · exact lv_tableIn (tgt := 670) (off := 638) hx hb dL_law_32 (by decide) (by decide) rfl (by decide) (law_k12 C0 hL hWH hK hi hI hP hD hS hl kk)
      · exact lv_tableIn (tgt := 719) (off := 687) hx hb dL_law_32 (by decide) (by decide) rfl (by decide) (law_k13 C0 hL hWH hK hi hI hP hD hS hl kk)
      · exact lv_tableIn (tgt := 732) (off := 700) hx hb dL_law_32 (by decide) (by decide) rfl (by decide) (law_k14 C0 hL hWH hK hi hI hP hD hS hl kk)
      · exact lv_tableIn (tgt := 781) (off := 749) hx hb dL_law_32 (by decide) (by decide) rfl (by decide) (law_k15 C0 hL hWH hK hi hI hP hD hS hl kk)
      · exact lv_tableIn (tgt := 804) (off := 772) hx hb dL_law_32 (by decide) (by decide) rfl (by decide) (law_k16 C0 hL hWH hK hi hI hP hD hS hl kk)
      · exact lv_tableIn (tgt := 837) (off := 805) hx hb dL_law_32 (by decide) (by decide) rfl (by decide) (law_k17 C0 hL hWH hK hi hI hP hD hS hl kk)
      · exact lv_tableIn (tgt := 850) (off := 818) hx hb dL_law_32 (by decide) (by decide) rfl (by decide) (law_k18 C0 hL hWH hK hi hI hP hD hS hl kk)
      · exact lv_tableOut (tgt := 873) hx hb dL_law_32 (Or.inr (by rw [nI_toInt (by omega)]; omega)) (by decide) (kk bs g H locs hI hP hD hS)
