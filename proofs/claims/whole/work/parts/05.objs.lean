/-! the objects as cells -/
abbrev oCards (cA : Nat) (ca : Nat → Nat) (cols : Int32) (cn : Int32) : Nat × va_E := (cA, .inr (0, [.int cols, .int cn, .ref (ca 2), .ref (ca 3), .ref (ca 4), .ref (ca 5), .ref (ca 6), .ref (ca 7), .ref (ca 8)]))
abbrev oRules (uA : Nat) (ua : Nat → Nat) (pac : Int32) : Nat × va_E := (uA, .inr (1, [.ref (ua 0), .ref (ua 1), .ref (ua 2), .int pac]))
abbrev oRun (rA : Nat) (cA : Nat) (uA : Nat) (ra : Nat → Nat) (nob : Int32) (pcn : Int32) (day : Int32) (last : Int32) (act : Int32) (rst : Int32) : Nat × va_E := (rA, .inr (2, [.ref cA, .ref uA, .int nob, .ref (ra 3), .ref (ra 4), .ref (ra 5), .ref (ra 6), .ref (ra 7), .ref (ra 8), .ref (ra 9), .int pcn, .ref (ra 11), .ref (ra 12), .int day, .int last, .int act, .int rst]))
abbrev oSearch (eA : Nat) (cA : Nat) (uA : Nat) (tA : Nat) (rA : Nat) (lA : Nat) (lsum : Int32) (fup : Int32) : Nat × va_E := (eA, .inr (3, [.ref cA, .ref uA, .ref tA, .ref rA, .ref lA, .int lsum, .int fup]))
abbrev oBoard (bA : Nat) (cA : Nat) (uA : Nat) (tA : Nat) (vA : Nat) (rA : Nat) (qA : Nat) (kA : Nat) (eA : Nat) : Nat × va_E := (bA, .inr (4, [.ref cA, .ref uA, .ref tA, .ref vA, .ref rA, .ref qA, .ref kA, .ref eA]))
abbrev oModel (mA : Nat) (ma : Nat → Nat) (cols : Int32) (cn : Int32) (pac : Int32) (opac : Int32) (rpac : Int32) (alike : Int32) (pulls : Int32) (len : Int32) (lmv : Int32) (mov : Int32) (ther : Int32) (fresh : Int32) (bup : Int32) (bsum : Int32) : Nat × va_E := (mA, .inr (5, [.int cols, .int cn, .ref (ma 2), .ref (ma 3), .ref (ma 4), .int pac, .ref (ma 6), .ref (ma 7), .ref (ma 8), .int opac, .ref (ma 10), .ref (ma 11), .ref (ma 12), .ref (ma 13), .ref (ma 14), .ref (ma 15), .ref (ma 16), .ref (ma 17), .ref (ma 18), .int rpac, .int alike, .ref (ma 21), .ref (ma 22), .ref (ma 23), .ref (ma 24), .ref (ma 25), .ref (ma 26), .ref (ma 27), .ref (ma 28), .ref (ma 29), .ref (ma 30), .int pulls, .int len, .int lmv, .int mov, .int ther, .ref (ma 36), .ref (ma 37), .int fresh, .int bup, .int bsum, .ref (ma 41)]))
theorem dJ9_min_7cf53_0 : decode cJ9_min_7cf53 0 = .ok (.iload_n 0, 1) := by decide +kernel
theorem dJ9_min_7cf53_1 : decode cJ9_min_7cf53 1 = .ok (.iload_n 1, 1) := by decide +kernel
theorem dJ9_min_7cf53_2 : decode cJ9_min_7cf53 2 = .ok (.if_icmp .gt 7, 3) := by decide +kernel
theorem dJ9_min_7cf53_5 : decode cJ9_min_7cf53 5 = .ok (.iload_n 0, 1) := by decide +kernel
theorem dJ9_min_7cf53_6 : decode cJ9_min_7cf53 6 = .ok (.goto 4, 3) := by decide +kernel
theorem dJ9_min_7cf53_9 : decode cJ9_min_7cf53 9 = .ok (.iload_n 1, 1) := by decide +kernel
theorem dJ9_min_7cf53_10 : decode cJ9_min_7cf53 10 = .ok (.ireturn, 1) := by decide +kernel
theorem dJ7_fill_53178_0 : decode cJ7_fill_53178 0 = .ok (.iconst 0, 1) := by decide +kernel
theorem dJ7_fill_53178_1 : decode cJ7_fill_53178 1 = .ok (.istore_n 2, 1) := by decide +kernel
theorem dJ7_fill_53178_2 : decode cJ7_fill_53178 2 = .ok (.aload_n 0, 1) := by decide +kernel
theorem dJ7_fill_53178_3 : decode cJ7_fill_53178 3 = .ok (.arraylength, 1) := by decide +kernel
theorem dJ7_fill_53178_4 : decode cJ7_fill_53178 4 = .ok (.istore_n 3, 1) := by decide +kernel
theorem dJ7_fill_53178_5 : decode cJ7_fill_53178 5 = .ok (.iload_n 2, 1) := by decide +kernel
theorem dJ7_fill_53178_6 : decode cJ7_fill_53178 6 = .ok (.iload_n 3, 1) := by decide +kernel
theorem dJ7_fill_53178_7 : decode cJ7_fill_53178 7 = .ok (.if_icmp .ge 13, 3) := by decide +kernel
theorem dJ7_fill_53178_10 : decode cJ7_fill_53178 10 = .ok (.aload_n 0, 1) := by decide +kernel
theorem dJ7_fill_53178_11 : decode cJ7_fill_53178 11 = .ok (.iload_n 2, 1) := by decide +kernel
theorem dJ7_fill_53178_12 : decode cJ7_fill_53178 12 = .ok (.iload_n 1, 1) := by decide +kernel
theorem dJ7_fill_53178_13 : decode cJ7_fill_53178 13 = .ok (.iastore, 1) := by decide +kernel
theorem dJ7_fill_53178_14 : decode cJ7_fill_53178 14 = .ok (.iinc 2 1, 3) := by decide +kernel
theorem dJ7_fill_53178_17 : decode cJ7_fill_53178 17 = .ok (.goto (-12), 3) := by decide +kernel
theorem dJ7_fill_53178_20 : decode cJ7_fill_53178 20 = .ok (.return_, 1) := by decide +kernel
