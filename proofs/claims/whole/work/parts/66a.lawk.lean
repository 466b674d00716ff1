/-! the law: its cases -/
set_option maxHeartbeats 4000000 in
set_option maxRecDepth 100000 in
/-- columns -/
theorem law_k0 {p : Program} {l : Launch} {e : Env} {s : State} {m : MethodId} {below : List Frame} {meth : Method} {c : Code} {b L : Nat} {xs : Nat → Int32} (C0 : lw_At p s m meth c b L xs) (hL : L ≤ 2560) {WH : Nat} (hWH : WH = 100000) {G : xG} {bA mA : Nat} {u : Nat → Nat → Nat} {ma : Nat → Nat} (hK : va_K (xD G) vwCl (x_tys G) s) {i : Nat} (hi : i + 5 ≤ L) {bs : BS} {g : MM} (hI : IV WH bs g) {H : Heap} {locs : List Loc} (hP : va_P (xD G) vwCl (bW G bA u bs ++ gW G mA ma g) H) (hD : va_D (fun q : Nat => s.heap.size ≤ q) (bW G bA u bs ++ gW G mA ma g)) (hS : va_S (fun q : Nat => s.heap.size ≤ q) s.heap H locs) {ls : Array Slot} (hl : lv_has ls 4 [(0, .ref b), (1, .ref bA), (2, .ref mA), (3, .int (nI i))]) (kk : LK p l e s m b below meth c G bA u mA ma WH ls) : W p l e room_1 s m #[Value.ref b] below meth c H locs 96 1522 (lw_Z below #[Value.ref b] s) (F0 m 124 ls []) := by
  obtain ⟨hx, hb, hr, hml, hown, hts, hX, hbl, hlocks, hgv⟩ := C0
  have hA : ∀ q : Nat, s.heap.size ≤ q → (fun q : Nat => s.heap.size ≤ q) q := fun _ h => h
  have hbA : ¬ (fun q : Nat => s.heap.size ≤ q) b := Nat.not_le.mpr hbl
  have htl : ∀ w ∈ wsL_law, w.before #[Value.ref b] s = true := fun w h => hts w (wsL_law_in w h)
  have hL2 : L < 2 ^ 31 := by omega
  refine lv_aload_n hx hb dL_law_124 rfl (lv_at hl 1 rfl) ?_
  refine law_arg (i := i) (j := 1) hx hb hX hbl hbA hS (by omega) hL2 hl (by decide) dL_law_125 dL_law_126 dL_law_127 dL_law_128 dL_law_129 ?_
  refine law_cX (As := [.int (xs (i + 1))]) (rest := []) ⟨hx, hb, hml, hown, htl⟩ (kX4_columns l G bA u bs (xs (i + 1)) (IV_BI hI)) (cwV 1 htl gL_law_X4_columns rfl rfl rfl (by decide +kernel) ⟨Nat.le_of_ble_eq_true rfl, Nat.le_of_ble_eq_true rfl⟩) hK hP hD hS hA (bW_len _ _ _ _) (bW_len _ _ _ _) (gW_len _ _ _ _) rfl rfl hl.1 rfl (Nat.le_of_ble_eq_true rfl) dL_law_130 ⟨Nat.le_refl _, Nat.le_refl _⟩ (fun H locs hP hD hS => ?_)
  refine lv_aload_n hx hb dL_law_133 rfl (lv_at hl 2 rfl) ?_
  refine law_arg (i := i) (j := 1) hx hb hX hbl hbA hS (by omega) hL2 hl (by decide) dL_law_134 dL_law_135 dL_law_136 dL_law_137 dL_law_138 ?_
  refine law_cM (As := [.int (xs (i + 1))]) ⟨hx, hb, hml, hown, htl⟩ (kX5_columns l G mA ma g (xs (i + 1)) (IV_GI hI)) (cwV 1 htl gL_law_X5_columns rfl rfl rfl (by decide +kernel) ⟨Nat.le_of_ble_eq_true rfl, Nat.le_of_ble_eq_true rfl⟩) hK hP hD hS hA (bW_len _ _ _ _) (gW_len _ _ _ _) (gW_len _ _ _ _) rfl rfl hl.1 rfl (Nat.le_of_ble_eq_true rfl) dL_law_139 ⟨Nat.le_refl _, Nat.le_refl _⟩ (fun H locs hP hD hS => ?_)
  refine lv_icmp_eq (tgt := 873) hx hb dL_law_142 (by decide) (fun _ => ?_) (fun q => ?_)
  · exact kk _ _ H locs (st_columns hI (xs (i + 1))) hP hD hS
  · exact absurd (rfl) q
set_option maxHeartbeats 4000000 in
set_option maxRecDepth 100000 in
/-- column -/
theorem law_k1 {p : Program} {l : Launch} {e : Env} {s : State} {m : MethodId} {below : List Frame} {meth : Method} {c : Code} {b L : Nat} {xs : Nat → Int32} (C0 : lw_At p s m meth c b L xs) (hL : L ≤ 2560) {WH : Nat} (hWH : WH = 100000) {G : xG} {bA mA : Nat} {u : Nat → Nat → Nat} {ma : Nat → Nat} (hK : va_K (xD G) vwCl (x_tys G) s) {i : Nat} (hi : i + 5 ≤ L) {bs : BS} {g : MM} (hI : IV WH bs g) {H : Heap} {locs : List Loc} (hP : va_P (xD G) vwCl (bW G bA u bs ++ gW G mA ma g) H) (hD : va_D (fun q : Nat => s.heap.size ≤ q) (bW G bA u bs ++ gW G mA ma g)) (hS : va_S (fun q : Nat => s.heap.size ≤ q) s.heap H locs) {ls : Array Slot} (hl : lv_has ls 4 [(0, .ref b), (1, .ref bA), (2, .ref mA), (3, .int (nI i))]) (kk : LK p l e s m b below meth c G bA u mA ma WH ls) : W p l e room_1 s m #[Value.ref b] below meth c H locs 96 1522 (lw_Z below #[Value.ref b] s) (F0 m 147 ls []) := by
  obtain ⟨hx, hb, hr, hml, hown, hts, hX, hbl, hlocks, hgv⟩ := C0
  have hA : ∀ q : Nat, s.heap.size ≤ q → (fun q : Nat => s.heap.size ≤ q) q := fun _ h => h
  have hbA : ¬ (fun q : Nat => s.heap.size ≤ q) b := Nat.not_le.mpr hbl
  have htl : ∀ w ∈ wsL_law, w.before #[Value.ref b] s = true := fun w h => hts w (wsL_law_in w h)
  have hL2 : L < 2 ^ 31 := by omega
  refine lv_aload_n hx hb dL_law_147 rfl (lv_at hl 1 rfl) ?_
  refine law_arg (i := i) (j := 1) hx hb hX hbl hbA hS (by omega) hL2 hl (by decide) dL_law_148 dL_law_149 dL_law_150 dL_law_151 dL_law_152 ?_
  refine law_arg (i := i) (j := 2) hx hb hX hbl hbA hS (by omega) hL2 hl (by decide) dL_law_153 dL_law_154 dL_law_155 dL_law_156 dL_law_157 ?_
  refine law_arg (i := i) (j := 3) hx hb hX hbl hbA hS (by omega) hL2 hl (by decide) dL_law_158 dL_law_159 dL_law_160 dL_law_161 dL_law_162 ?_
  refine law_arg (i := i) (j := 4) hx hb hX hbl hbA hS (by omega) hL2 hl (by decide) dL_law_163 dL_law_164 dL_law_165 dL_law_166 dL_law_167 ?_
  refine law_cX (As := [.int (xs (i + 1)), .int (xs (i + 2)), .int (xs (i + 3)), .int (xs (i + 4))]) (rest := []) ⟨hx, hb, hml, hown, htl⟩ (kX4_column l G bA u bs (xs (i + 1)) (xs (i + 2)) (xs (i + 3)) (xs (i + 4)) (IV_BI hI)) (cwV 4 htl gL_law_X4_column rfl rfl rfl (by decide +kernel) ⟨Nat.le_of_ble_eq_true rfl, Nat.le_of_ble_eq_true rfl⟩) hK hP hD hS hA (bW_len _ _ _ _) (bW_len _ _ _ _) (gW_len _ _ _ _) rfl rfl hl.1 rfl (Nat.le_of_ble_eq_true rfl) dL_law_168 ⟨Nat.le_refl _, Nat.le_refl _⟩ (fun H locs hP hD hS => ?_)
  refine lv_aload_n hx hb dL_law_171 rfl (lv_at hl 2 rfl) ?_
  refine law_arg (i := i) (j := 1) hx hb hX hbl hbA hS (by omega) hL2 hl (by decide) dL_law_172 dL_law_173 dL_law_174 dL_law_175 dL_law_176 ?_
  refine law_arg (i := i) (j := 2) hx hb hX hbl hbA hS (by omega) hL2 hl (by decide) dL_law_177 dL_law_178 dL_law_179 dL_law_180 dL_law_181 ?_
  refine law_arg (i := i) (j := 3) hx hb hX hbl hbA hS (by omega) hL2 hl (by decide) dL_law_182 dL_law_183 dL_law_184 dL_law_185 dL_law_186 ?_
  refine law_arg (i := i) (j := 4) hx hb hX hbl hbA hS (by omega) hL2 hl (by decide) dL_law_187 dL_law_188 dL_law_189 dL_law_190 dL_law_191 ?_
  refine law_cM (As := [.int (xs (i + 1)), .int (xs (i + 2)), .int (xs (i + 3)), .int (xs (i + 4))]) ⟨hx, hb, hml, hown, htl⟩ (kX5_column l G mA ma g (xs (i + 1)) (xs (i + 2)) (xs (i + 3)) (xs (i + 4)) (IV_GI hI)) (cwV 4 htl gL_law_X5_column rfl rfl rfl (by decide +kernel) ⟨Nat.le_of_ble_eq_true rfl, Nat.le_of_ble_eq_true rfl⟩) hK hP hD hS hA (bW_len _ _ _ _) (gW_len _ _ _ _) (gW_len _ _ _ _) rfl rfl hl.1 rfl (Nat.le_of_ble_eq_true rfl) dL_law_192 ⟨Nat.le_refl _, Nat.le_refl _⟩ (fun H locs hP hD hS => ?_)
  refine lv_icmp_eq (tgt := 873) hx hb dL_law_195 (by decide) (fun _ => ?_) (fun q => ?_)
  · exact kk _ _ H locs ((st_column hI (xs (i + 1)) (xs (i + 2)) (xs (i + 3)) (xs (i + 4))).2) hP hD hS
  · exact absurd (b2_c (st_column hI (xs (i + 1)) (xs (i + 2)) (xs (i + 3)) (xs (i + 4))).1) q
set_option maxHeartbeats 4000000 in
set_option maxRecDepth 100000 in
/-- pace -/
theorem law_k2 {p : Program} {l : Launch} {e : Env} {s : State} {m : MethodId} {below : List Frame} {meth : Method} {c : Code} {b L : Nat} {xs : Nat → Int32} (C0 : lw_At p s m meth c b L xs) (hL : L ≤ 2560) {WH : Nat} (hWH : WH = 100000) {G : xG} {bA mA : Nat} {u : Nat → Nat → Nat} {ma : Nat → Nat} (hK : va_K (xD G) vwCl (x_tys G) s) {i : Nat} (hi : i + 5 ≤ L) {bs : BS} {g : MM} (hI : IV WH bs g) {H : Heap} {locs : List Loc} (hP : va_P (xD G) vwCl (bW G bA u bs ++ gW G mA ma g) H) (hD : va_D (fun q : Nat => s.heap.size ≤ q) (bW G bA u bs ++ gW G mA ma g)) (hS : va_S (fun q : Nat => s.heap.size ≤ q) s.heap H locs) {ls : Array Slot} (hl : lv_has ls 4 [(0, .ref b), (1, .ref bA), (2, .ref mA), (3, .int (nI i))]) (kk : LK p l e s m b below meth c G bA u mA ma WH ls) : W p l e room_1 s m #[Value.ref b] below meth c H locs 96 1522 (lw_Z below #[Value.ref b] s) (F0 m 200 ls []) := by
  obtain ⟨hx, hb, hr, hml, hown, hts, hX, hbl, hlocks, hgv⟩ := C0
  have hA : ∀ q : Nat, s.heap.size ≤ q → (fun q : Nat => s.heap.size ≤ q) q := fun _ h => h
  have hbA : ¬ (fun q : Nat => s.heap.size ≤ q) b := Nat.not_le.mpr hbl
  have htl : ∀ w ∈ wsL_law, w.before #[Value.ref b] s = true := fun w h => hts w (wsL_law_in w h)
  have hL2 : L < 2 ^ 31 := by omega
  refine lv_aload_n hx hb dL_law_200 rfl (lv_at hl 1 rfl) ?_
  refine law_arg (i := i) (j := 1) hx hb hX hbl hbA hS (by omega) hL2 hl (by decide) dL_law_201 dL_law_202 dL_law_203 dL_law_204 dL_law_205 ?_
  refine law_cX (As := [.int (xs (i + 1))]) (rest := []) ⟨hx, hb, hml, hown, htl⟩ (kX4_pace l G bA u bs (xs (i + 1)) (IV_BI hI)) (cwV 1 htl gL_law_X4_pace rfl rfl rfl (by decide +kernel) ⟨Nat.le_of_ble_eq_true rfl, Nat.le_of_ble_eq_true rfl⟩) hK hP hD hS hA (bW_len _ _ _ _) (bW_len _ _ _ _) (gW_len _ _ _ _) rfl rfl hl.1 rfl (Nat.le_of_ble_eq_true rfl) dL_law_206 ⟨Nat.le_refl _, Nat.le_refl _⟩ (fun H locs hP hD hS => ?_)
  refine lv_aload_n hx hb dL_law_209 rfl (lv_at hl 2 rfl) ?_
  refine law_arg (i := i) (j := 1) hx hb hX hbl hbA hS (by omega) hL2 hl (by decide) dL_law_210 dL_law_211 dL_law_212 dL_law_213 dL_law_214 ?_
  refine law_cM (As := [.int (xs (i + 1))]) ⟨hx, hb, hml, hown, htl⟩ (kX5_pace l G mA ma g (xs (i + 1)) (IV_GI hI)) (cwV 1 htl gL_law_X5_pace rfl rfl rfl (by decide +kernel) ⟨Nat.le_of_ble_eq_true rfl, Nat.le_of_ble_eq_true rfl⟩) hK hP hD hS hA (bW_len _ _ _ _) (gW_len _ _ _ _) (gW_len _ _ _ _) rfl rfl hl.1 rfl (Nat.le_of_ble_eq_true rfl) dL_law_215 ⟨Nat.le_refl _, Nat.le_refl _⟩ (fun H locs hP hD hS => ?_)
  refine lv_icmp_eq (tgt := 873) hx hb dL_law_218 (by decide) (fun _ => ?_) (fun q => ?_)
  · exact kk _ _ H locs (st_pace hI (xs (i + 1))) hP hD hS
  · exact absurd (rfl) q
set_option maxHeartbeats 4000000 in
set_option maxRecDepth 100000 in
/-- card -/
theorem law_k3 {p : Program} {l : Launch} {e : Env} {s : State} {m : MethodId} {below : List Frame} {meth : Method} {c : Code} {b L : Nat} {xs : Nat → Int32} (C0 : lw_At p s m meth c b L xs) (hL : L ≤ 2560) {WH : Nat} (hWH : WH = 100000) {G : xG} {bA mA : Nat} {u : Nat → Nat → Nat} {ma : Nat → Nat} (hK : va_K (xD G) vwCl (x_tys G) s) {i : Nat} (hi : i + 5 ≤ L) {bs : BS} {g : MM} (hI : IV WH bs g) {H : Heap} {locs : List Loc} (hP : va_P (xD G) vwCl (bW G bA u bs ++ gW G mA ma g) H) (hD : va_D (fun q : Nat => s.heap.size ≤ q) (bW G bA u bs ++ gW G mA ma g)) (hS : va_S (fun q : Nat => s.heap.size ≤ q) s.heap H locs) {ls : Array Slot} (hl : lv_has ls 4 [(0, .ref b), (1, .ref bA), (2, .ref mA), (3, .int (nI i))]) (kk : LK p l e s m b below meth c G bA u mA ma WH ls) : W p l e room_1 s m #[Value.ref b] below meth c H locs 96 1522 (lw_Z below #[Value.ref b] s) (F0 m 223 ls []) := by
  obtain ⟨hx, hb, hr, hml, hown, hts, hX, hbl, hlocks, hgv⟩ := C0
  have hA : ∀ q : Nat, s.heap.size ≤ q → (fun q : Nat => s.heap.size ≤ q) q := fun _ h => h
  have hbA : ¬ (fun q : Nat => s.heap.size ≤ q) b := Nat.not_le.mpr hbl
  have htl : ∀ w ∈ wsL_law, w.before #[Value.ref b] s = true := fun w h => hts w (wsL_law_in w h)
  have hL2 : L < 2 ^ 31 := by omega
  refine lv_aload_n hx hb dL_law_223 rfl (lv_at hl 1 rfl) ?_
  refine law_arg (i := i) (j := 1) hx hb hX hbl hbA hS (by omega) hL2 hl (by decide) dL_law_224 dL_law_225 dL_law_226 dL_law_227 dL_law_228 ?_
  refine law_argb (i := i) (j := 2) hx hb hX hbl hbA hS (by omega) hL2 hl (by decide) dL_law_229 dL_law_230 dL_law_231 dL_law_232 dL_law_233 dL_law_234 dL_law_237 dL_law_238 dL_law_241 ?_
  refine law_cX (As := [.int (xs (i + 1)), .int (b2 (decide (¬ xs (i + 2) = 0) = true))]) (rest := []) ⟨hx, hb, hml, hown, htl⟩ (kX4_card l G bA u bs (xs (i + 1)) (decide (¬ xs (i + 2) = 0)) (IV_BI hI)) (cwV 2 htl gL_law_X4_card rfl rfl rfl (by decide +kernel) ⟨Nat.le_of_ble_eq_true rfl, Nat.le_of_ble_eq_true rfl⟩) hK hP hD hS hA (bW_len _ _ _ _) (bW_len _ _ _ _) (gW_len _ _ _ _) rfl rfl hl.1 rfl (Nat.le_of_ble_eq_true rfl) dL_law_242 ⟨Nat.le_refl _, Nat.le_refl _⟩ (fun H locs hP hD hS => ?_)
  refine lv_aload_n hx hb dL_law_245 rfl (lv_at hl 2 rfl) ?_
  refine law_arg (i := i) (j := 1) hx hb hX hbl hbA hS (by omega) hL2 hl (by decide) dL_law_246 dL_law_247 dL_law_248 dL_law_249 dL_law_250 ?_
  refine law_argb (i := i) (j := 2) hx hb hX hbl hbA hS (by omega) hL2 hl (by decide) dL_law_251 dL_law_252 dL_law_253 dL_law_254 dL_law_255 dL_law_256 dL_law_259 dL_law_260 dL_law_263 ?_
  refine law_cM (As := [.int (xs (i + 1)), .int (b2 (decide (¬ xs (i + 2) = 0) = true))]) ⟨hx, hb, hml, hown, htl⟩ (kX5_card l G mA ma g (xs (i + 1)) (decide (¬ xs (i + 2) = 0)) (IV_GI hI)) (cwV 2 htl gL_law_X5_card rfl rfl rfl (by decide +kernel) ⟨Nat.le_of_ble_eq_true rfl, Nat.le_of_ble_eq_true rfl⟩) hK hP hD hS hA (bW_len _ _ _ _) (gW_len _ _ _ _) (gW_len _ _ _ _) rfl rfl hl.1 rfl (Nat.le_of_ble_eq_true rfl) dL_law_264 ⟨Nat.le_refl _, Nat.le_refl _⟩ (fun H locs hP hD hS => ?_)
  refine lv_icmp_eq (tgt := 873) hx hb dL_law_267 (by decide) (fun _ => ?_) (fun q => ?_)
  · exact kk _ _ H locs ((st_card hI (xs (i + 1)) (decide (¬ xs (i + 2) = 0))).2) hP hD hS
  · exact absurd ((st_card hI (xs (i + 1)) (decide (¬ xs (i + 2) = 0))).1) q
set_option maxHeartbeats 4000000 in
set_option maxRecDepth 100000 in
/-- size -/
theorem law_k4 {p : Program} {l : Launch} {e : Env} {s : State} {m : MethodId} {below : List Frame} {meth : Method} {c : Code} {b L : Nat} {xs : Nat → Int32} (C0 : lw_At p s m meth c b L xs) (hL : L ≤ 2560) {WH : Nat} (hWH : WH = 100000) {G : xG} {bA mA : Nat} {u : Nat → Nat → Nat} {ma : Nat → Nat} (hK : va_K (xD G) vwCl (x_tys G) s) {i : Nat} (hi : i + 5 ≤ L) {bs : BS} {g : MM} (hI : IV WH bs g) {H : Heap} {locs : List Loc} (hP : va_P (xD G) vwCl (bW G bA u bs ++ gW G mA ma g) H) (hD : va_D (fun q : Nat => s.heap.size ≤ q) (bW G bA u bs ++ gW G mA ma g)) (hS : va_S (fun q : Nat => s.heap.size ≤ q) s.heap H locs) {ls : Array Slot} (hl : lv_has ls 4 [(0, .ref b), (1, .ref bA), (2, .ref mA), (3, .int (nI i))]) (kk : LK p l e s m b below meth c G bA u mA ma WH ls) : W p l e room_1 s m #[Value.ref b] below meth c H locs 96 1522 (lw_Z below #[Value.ref b] s) (F0 m 272 ls []) := by
  obtain ⟨hx, hb, hr, hml, hown, hts, hX, hbl, hlocks, hgv⟩ := C0
  have hA : ∀ q : Nat, s.heap.size ≤ q → (fun q : Nat => s.heap.size ≤ q) q := fun _ h => h
  have hbA : ¬ (fun q : Nat => s.heap.size ≤ q) b := Nat.not_le.mpr hbl
  have htl : ∀ w ∈ wsL_law, w.before #[Value.ref b] s = true := fun w h => hts w (wsL_law_in w h)
  have hL2 : L < 2 ^ 31 := by omega
  refine lv_aload_n hx hb dL_law_272 rfl (lv_at hl 1 rfl) ?_
  refine law_arg (i := i) (j := 1) hx hb hX hbl hbA hS (by omega) hL2 hl (by decide) dL_law_273 dL_law_274 dL_law_275 dL_law_276 dL_law_277 ?_
  refine law_arg (i := i) (j := 2) hx hb hX hbl hbA hS (by omega) hL2 hl (by decide) dL_law_278 dL_law_279 dL_law_280 dL_law_281 dL_law_282 ?_
  refine law_arg (i := i) (j := 3) hx hb hX hbl hbA hS (by omega) hL2 hl (by decide) dL_law_283 dL_law_284 dL_law_285 dL_law_286 dL_law_287 ?_
  refine law_cX (As := [.int (xs (i + 1)), .int (xs (i + 2)), .int (xs (i + 3))]) (rest := []) ⟨hx, hb, hml, hown, htl⟩ (kX4_size l G bA u bs (xs (i + 1)) (xs (i + 2)) (xs (i + 3)) (IV_BI hI)) (cwV 3 htl gL_law_X4_size rfl rfl rfl (by decide +kernel) ⟨Nat.le_of_ble_eq_true rfl, Nat.le_of_ble_eq_true rfl⟩) hK hP hD hS hA (bW_len _ _ _ _) (bW_len _ _ _ _) (gW_len _ _ _ _) rfl rfl hl.1 rfl (Nat.le_of_ble_eq_true rfl) dL_law_288 ⟨Nat.le_refl _, Nat.le_refl _⟩ (fun H locs hP hD hS => ?_)
  refine lv_aload_n hx hb dL_law_291 rfl (lv_at hl 2 rfl) ?_
  refine law_arg (i := i) (j := 1) hx hb hX hbl hbA hS (by omega) hL2 hl (by decide) dL_law_292 dL_law_293 dL_law_294 dL_law_295 dL_law_296 ?_
  refine law_arg (i := i) (j := 2) hx hb hX hbl hbA hS (by omega) hL2 hl (by decide) dL_law_297 dL_law_298 dL_law_299 dL_law_300 dL_law_301 ?_
  refine law_arg (i := i) (j := 3) hx hb hX hbl hbA hS (by omega) hL2 hl (by decide) dL_law_302 dL_law_303 dL_law_304 dL_law_305 dL_law_306 ?_
  refine law_cM (As := [.int (xs (i + 1)), .int (xs (i + 2)), .int (xs (i + 3))]) ⟨hx, hb, hml, hown, htl⟩ (kX5_size l G mA ma g (xs (i + 1)) (xs (i + 2)) (xs (i + 3)) (IV_GI hI)) (cwV 3 htl gL_law_X5_size rfl rfl rfl (by decide +kernel) ⟨Nat.le_of_ble_eq_true rfl, Nat.le_of_ble_eq_true rfl⟩) hK hP hD hS hA (bW_len _ _ _ _) (gW_len _ _ _ _) (gW_len _ _ _ _) rfl rfl hl.1 rfl (Nat.le_of_ble_eq_true rfl) dL_law_307 ⟨Nat.le_refl _, Nat.le_refl _⟩ (fun H locs hP hD hS => ?_)
  refine lv_icmp_eq (tgt := 873) hx hb dL_law_310 (by decide) (fun _ => ?_) (fun q => ?_)
  · exact kk _ _ H locs ((st_size hI (xs (i + 1)) (xs (i + 2)) (xs (i + 3))).2) hP hD hS
  · exact absurd (b2_c (st_size hI (xs (i + 1)) (xs (i + 2)) (xs (i + 3))).1) q
