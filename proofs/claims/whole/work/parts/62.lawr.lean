/-! the law: rows of its own -/
theorem fm_of {α β : Type} {is : List α} {f : α → Option β} {l : List β} (h : is.map f = l.map some) : is.filterMap f = l := by
  have h1 : is.filterMap f = (is.map f).filterMap id := by rw [List.filterMap_map]; rfl
  have h2 : (l.map some).filterMap id = l := by
    rw [List.filterMap_map]
    show l.filterMap some = l
    exact List.filterMap_some
  rw [h1, h, h2]
theorem rg_a {α : Type} (a : List α) {n : Nat} (h : a.length = n) : (List.range n).map (fun i => a[i]?) = a.map some := by
  subst h
  apply List.ext_getElem?
  intro k
  rw [List.getElem?_map, List.getElem?_map]
  by_cases hk : k < a.length
  · rw [List.getElem?_range hk, List.getElem?_eq_getElem hk]
    show some (a[k]?) = some (some a[k])
    rw [List.getElem?_eq_getElem hk]
  · have h1 : (List.range a.length)[k]? = none := List.getElem?_eq_none (by rw [List.length_range]; omega)
    have h2 : a[k]? = none := List.getElem?_eq_none (by omega)
    rw [h1, h2]; rfl
theorem rg_l {α : Type} (a c : List α) {n : Nat} (h : a.length = n) : (List.range n).map (fun i => (a ++ c)[i]?) = a.map some := by
  rw [← rg_a a h]
  refine List.map_congr_left fun i hi => ?_
  rw [List.mem_range] at hi
  exact List.getElem?_append_left (by omega)
theorem rg_r {α : Type} (a c : List α) {n k : Nat} (h : a.length = n) (h2 : c.length = k) : ((List.range k).map (fun i => i + n)).map (fun i => (a ++ c)[i]?) = c.map some := by
  rw [← rg_a c h2, List.map_map]
  refine List.map_congr_left fun i hi => ?_
  show (a ++ c)[i + n]? = c[i]?
  rw [List.getElem?_append_right (by omega)]
  congr 1
  omega
section LR
variable {p : Program} {l : Launch} {e : Env} {R : Room} {s : State} {m : MethodId} {args : Array Value} {below : List Frame} {meth : Method} {c : Code} {H H0 : Heap} {locs : List Loc} {cells slots : Nat} {Q : State → Prop}
variable {pc : Nat} {ls : Array Slot} {rest : List Value} {A : Nat → Prop} {cc : ByteArray} {G : xG} {a : Nat}
/-- a call of the class: the first 67 cells -/
theorem law_cX {y : MethodName} {bytes : ByteArray} {maxL nL n index : Nat} {ret : Option FieldType} {w : List Cond} {rm : Room} {Ts : List Cond} {own : String} {b : Addr} {As stk : List Value} {w1 w1' w2 : va_W} {fs : List Value} {ans : Int32}
    (S : CallFix p m c cc nL s args Ts own) (hM : xN l y w rm (.ref b :: As) G w1 w1' ans) (cw : CallW R s args own RX4 index y bytes maxL ret w rm 0 0 n) (hK : va_K (xD G) vwCl (x_tys G) s) (hP : va_P (xD G) vwCl (w1 ++ w2) H) (hD : va_D A (w1 ++ w2)) (hS : va_S A H0 H locs) (hA : ∀ q, H0.size ≤ q → A q) (h1 : w1.length = 67) (h1' : w1'.length = 67) (h2 : w2.length = 29) (he : w1[0]? = some (b, .inr (4, fs)))
    (hn : As.length = n) (hsize : ls.size = nL) (hstack : stk = As.reverse ++ .ref b :: rest) (hW : (rest.map fun v => v.category).sum ≤ 8) (hdg : decode cc pc = .ok (.invokevirtual index, 3)) (hf : cells ≤ R.cells ∧ slots ≤ R.slots)
    (kk : ∀ (H1 : Heap) (locs1 : List Loc), va_P (xD G) vwCl (w1' ++ w2) H1 → va_D A (w1' ++ w2) → va_S A H0 H1 locs1 → W p l e R s m args below meth c H1 locs1 cells slots Q (F0 m (pc + 3) ls (.int ans :: rest))) : W p l e R s m args below meth c H locs cells slots Q (F0 m pc ls stk) := by
  have i2 : (((List.range 67).map (fun i => i + 29)) ++ List.range 29).map (fun i => (w2 ++ w1')[i]?) = (w1' ++ w2).map some := by
    rw [List.map_append, rg_r w2 w1' h2 h1', rg_l w2 w1' h2, List.map_append]
  exact x_callN (ci := 4) (q0 := 0) (wr := w2) (w2 := w1' ++ w2) S hM cw hK hP hD hS hA (List.range 67) ((List.range 29).map (fun i => i + 67)) (((List.range 67).map (fun i => i + 29)) ++ List.range 29) (by decide) (rg_l w1 w2 h1) (fm_of (rg_l w1 w2 h1)) (rg_r w1 w2 h1 h2) (by decide) (by decide) (by decide) i2 (fm_of i2) rfl rfl (by rw [List.getElem?_append_left (by omega)]; exact he) hn hsize hstack hW hdg hf kk
/-- a call of the reference: the last 29 -/
theorem law_cM {y : MethodName} {bytes : ByteArray} {maxL nL n index : Nat} {ret : Option FieldType} {w : List Cond} {rm : Room} {Ts : List Cond} {own : String} {b : Addr} {As stk : List Value} {w1 w2' w2 : va_W} {fs : List Value} {ans : Int32}
    (S : CallFix p m c cc nL s args Ts own) (hM : xN l y w rm (.ref b :: As) G w2 w2' ans) (cw : CallW R s args own RX5 index y bytes maxL ret w rm 0 0 n) (hK : va_K (xD G) vwCl (x_tys G) s) (hP : va_P (xD G) vwCl (w1 ++ w2) H) (hD : va_D A (w1 ++ w2)) (hS : va_S A H0 H locs) (hA : ∀ q, H0.size ≤ q → A q) (h1 : w1.length = 67) (h2 : w2.length = 29) (h2' : w2'.length = 29) (he : w2[0]? = some (b, .inr (5, fs)))
    (hn : As.length = n) (hsize : ls.size = nL) (hstack : stk = As.reverse ++ .ref b :: rest) (hW : (rest.map fun v => v.category).sum ≤ 8) (hdg : decode cc pc = .ok (.invokevirtual index, 3)) (hf : cells ≤ R.cells ∧ slots ≤ R.slots)
    (kk : ∀ (H1 : Heap) (locs1 : List Loc), va_P (xD G) vwCl (w1 ++ w2') H1 → va_D A (w1 ++ w2') → va_S A H0 H1 locs1 → W p l e R s m args below meth c H1 locs1 cells slots Q (F0 m (pc + 3) ls (.int ans :: rest))) : W p l e R s m args below meth c H locs cells slots Q (F0 m pc ls stk) := by
  have i2 : (List.range 96).map (fun i => (w1 ++ w2')[i]?) = (w1 ++ w2').map some := rg_a _ (by rw [List.length_append, h1, h2'])
  exact x_callN (ci := 5) (q0 := 67) (wr := w1) (w2 := w1 ++ w2') S hM cw hK hP hD hS hA ((List.range 29).map (fun i => i + 67)) (List.range 67) (List.range 96) (by decide) (rg_r w1 w2 h1 h2) (fm_of (rg_r w1 w2 h1 h2)) (rg_l w1 w2 h1) (by decide) (by decide) (by decide) i2 (fm_of i2) rfl rfl (by rw [List.getElem?_append_right (by omega), h1]; exact he) hn hsize hstack hW hdg hf kk
/-- an int of the script -/
theorem law_arg (hx : p.tables.exec = Jvm.exec) (hb : c.code = code) {b bA mA L i j : Nat} {xs : Nat → Int32} (hX : va_X b L xs s H0) (hbl : b < H0.size) (hbA : ¬ A b) (hS : va_S A H0 H locs) (hij : i + j < L) (hL : L < 2 ^ 31) (hl : lv_has ls 4 [(0, .ref b), (1, .ref bA), (2, .ref mA), (3, .int (nI i))]) {q : Int} (hq : Int32.ofInt q = nI j)
    (d0 : decode code pc = .ok (.aload_n 0, 1)) (d1 : decode code (pc + 1) = .ok (.iload_n 3, 1)) (d2 : decode code (pc + 2) = .ok (.iconst q, 1)) (d3 : decode code (pc + 3) = .ok (.iadd, 1)) (d4 : decode code (pc + 4) = .ok (.iaload, 1))
    (kk : W p l e R s m args below meth c H locs cells slots Q (F0 m (pc + 5) ls (.int (xs (i + j)) :: rest))) : W p l e R s m args below meth c H locs cells slots Q (F0 m pc ls rest) := by
  refine lv_aload_n hx hb d0 rfl (lv_at hl 0 rfl) ?_
  refine lv_iload_n hx hb d1 rfl (lv_at hl 3 rfl) ?_
  refine lv_iconst (v := nI j) hx hb d2 hq ?_
  refine lv_iadd hx hb d3 ?_
  refine x_top (nI_add i j) ?_
  refine va_sld hx hb hX hbl hbA hS (vp_in_nI hij hL) d4 ?_
  rw [nI_clamp (by omega)]
  exact kk
/-- whether an int of the script isn't 0 -/
theorem law_argb (hx : p.tables.exec = Jvm.exec) (hb : c.code = code) {b bA mA L i j : Nat} {xs : Nat → Int32} (hX : va_X b L xs s H0) (hbl : b < H0.size) (hbA : ¬ A b) (hS : va_S A H0 H locs) (hij : i + j < L) (hL : L < 2 ^ 31) (hl : lv_has ls 4 [(0, .ref b), (1, .ref bA), (2, .ref mA), (3, .int (nI i))]) {q : Int} (hq : Int32.ofInt q = nI j)
    (d0 : decode code pc = .ok (.aload_n 0, 1)) (d1 : decode code (pc + 1) = .ok (.iload_n 3, 1)) (d2 : decode code (pc + 2) = .ok (.iconst q, 1)) (d3 : decode code (pc + 3) = .ok (.iadd, 1)) (d4 : decode code (pc + 4) = .ok (.iaload, 1))
    (d5 : decode code (pc + 5) = .ok (.ifCond .eq 7, 3)) (d6 : decode code (pc + 8) = .ok (.iconst 1, 1)) (d7 : decode code (pc + 9) = .ok (.goto 4, 3)) (d8 : decode code (pc + 12) = .ok (.iconst 0, 1))
    (kk : W p l e R s m args below meth c H locs cells slots Q (F0 m (pc + 13) ls (.int (b2 (decide (¬ xs (i + j) = 0) = true)) :: rest))) : W p l e R s m args below meth c H locs cells slots Q (F0 m pc ls rest) := by
  refine law_arg hx hb hX hbl hbA hS hij hL hl hq d0 d1 d2 d3 d4 ?_
  refine lv_if_eq (tgt := pc + 12) hx hb d5 (by omega) (fun h => ?_) (fun h => ?_)
  · refine lv_iconst (v := 0) hx hb d8 (by decide) ?_
    rw [b2_f (P := decide (¬ xs (i + j) = 0) = true) (by simp [h])] at kk
    exact kk
  · refine lv_iconst (v := 1) hx hb d6 (by decide) ?_
    refine lv_goto (tgt := pc + 13) hx hb d7 (by omega) ?_
    rw [b2_t (P := decide (¬ xs (i + j) = 0) = true) (by simp [h])] at kk
    exact kk
end LR
