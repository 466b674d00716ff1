/-! BASE: the shapes of this claim's contracts, and the rows that a walk takes. G: the places of the classes' cells, and the two array classes. -/
abbrev xG : Type := (Nat → ClassId) × (Nat → Nat → Nat) × ClassId × ClassId
abbrev xD (G : xG) : va_G := (G.1, G.2.1)
abbrev x_tys (G : xG) : List (ClassId × FieldType) := [(G.2.2.1, .int), (G.2.2.2, .boolean)]
abbrev xI (G : xG) (h n : Nat) (f : Nat → Int32) : Nat × va_E := (h, .inl (G.2.2.1, n, .inl f))
abbrev xZ (G : xG) (h n : Nat) (f : Nat → Int32) : Nat × va_E := (h, .inl (G.2.2.2, n, .inl f))
/-- a boolean as the machine has it -/
def b2 (P : Prop) [Decidable P] : Int32 := if P then 1 else 0
theorem b2_t {P : Prop} [Decidable P] (h : P) : b2 P = 1 := if_pos h
theorem b2_f {P : Prop} [Decidable P] (h : ¬ P) : b2 P = 0 := if_neg h
theorem b2_z {P : Prop} [Decidable P] : b2 P = 0 ↔ ¬ P := by unfold b2; split <;> simp_all
theorem b2_n {P : Prop} [Decidable P] : ¬ b2 P = 0 ↔ P := by unfold b2; split <;> simp_all
theorem b2_o {P : Prop} [Decidable P] : b2 P = 1 ↔ P := by unfold b2; split <;> simp_all
theorem b2_c {P Q : Prop} [Decidable P] [Decidable Q] (h : P ↔ Q) : b2 P = b2 Q := by unfold b2; simp [h]
theorem b2_e {P Q : Prop} [Decidable P] [Decidable Q] : b2 P = b2 Q ↔ (P ↔ Q) := by unfold b2; split <;> split <;> simp_all
theorem b2_nr (P : Prop) [Decidable P] : narrow .boolean (.int (b2 P)) = .int (b2 P) := by unfold b2; split <;> rfl
theorem b2_fit (P : Prop) [Decidable P] : fits .boolean (.int (b2 P)) = true := by unfold b2; split <;> rfl
theorem b2_nar (P : Prop) [Decidable P] : vp_nar .boolean (b2 P) = b2 P := by unfold b2; split <;> rfl
theorem nar0 : vp_nar .boolean 0 = 0 := rfl
theorem nar1 : vp_nar .boolean 1 = 1 := rfl
/-- the world of a method -/
def xIn (G : xG) (ws : va_W) (U : State) : Prop := va_P (xD G) vwCl ws U.heap ∧ va_K (xD G) vwCl (x_tys G) U ∧ va_D (fun _ => True) ws
def xOut (G : xG) (A : Nat → Prop) (ws : va_W) (_ : Unit) (t : State) : Prop := va_P (xD G) vwCl ws t.heap ∧ va_K (xD G) vwCl (x_tys G) t ∧ va_D A ws
/-- a contract of a method that only reads -/
abbrev xR (l : Launch) (y : MethodName) (w : List Cond) (rm : Room) (av : List Value) (G : xG) (wd : va_W) (post : Int32 → Prop) : Prop := Met l y w rm (va_Pc av (xIn G wd)) (vp_Si post) 0 0 (fun _ => False)
/-- a contract of a method that changes its cells: wd before, wd' behind -/
abbrev xM (l : Launch) (y : MethodName) (w : List Cond) (rm : Room) (av : List Value) (G : xG) (wd wd' : va_W) : Prop := ∀ sz : Nat, Met l y w rm (va_Pc av (fun U => U.heap.size = sz ∧ xIn G wd U)) (va_Qv (fun _ : Unit => True) (xOut G (va_A wd sz) wd') (va_A wd sz)) 0 0 (va_A wd sz)
/-- the same, with an answer -/
abbrev xN (l : Launch) (y : MethodName) (w : List Cond) (rm : Room) (av : List Value) (G : xG) (wd wd' : va_W) (ans : Int32) : Prop := ∀ sz : Nat, Met l y w rm (va_Pc av (fun U => U.heap.size = sz ∧ xIn G wd U)) (va_Qi (fun (r : Int32) (_ : Unit) => r = ans) (xOut G (va_A wd sz) wd') (va_A wd sz)) 0 0 (va_A wd sz)
theorem x_blind {av : List Value} {G : xG} {wd : va_W} : FrameBlind (va_Pc av (xIn G wd)) := fun a U g mk q => ⟨q.1, q.2.1, va_K.moved (u := U) (U := U.calling g mk a) (Vm.Alike.refl U.vm) q.2.2.1, q.2.2.2⟩
theorem x_blindM {av : List Value} {G : xG} {wd : va_W} {sz : Nat} : FrameBlind (va_Pc av (fun U => U.heap.size = sz ∧ xIn G wd U)) := fun a U g mk q => ⟨q.1, q.2.1, q.2.2.1, va_K.moved (u := U) (U := U.calling g mk a) (Vm.Alike.refl U.vm) q.2.2.2.1, q.2.2.2.2⟩
set_option maxHeartbeats 1000000 in
theorem xR_of {l : Launch} {y : MethodName} {w w' : List Cond} {rm : Room} {av : List Value} {G : xG} {wd : va_W} {post : Int32 → Prop} {cc : ByteArray} {maxL : Nat} {ty : FieldType} (hy : plainName y.cls = true) (hw : w = Cond.code y cc maxL (some ty) :: w') (hn : (lg_sl av).length ≤ maxL)
    (body : ∀ (p : Program) (e : Env) (s : State) (m : MethodId) (below : List Frame) (meth : Method) (c : Code) (ls : Array Slot) (Q : State → Prop), p.tables.exec = Jvm.exec → c.code = cc → c.maxLocals = maxL → s.vm.findClass y.cls = some m.cls → (∀ z ∈ w, z.before av.toArray s = true) → va_P (xD G) vwCl wd s.heap → va_K (xD G) vwCl (x_tys G) s → va_D (fun _ => True) wd → lv_has ls maxL (lv_args 0 av) →
      (∀ (r : Int32) (pc : Nat) (ls : Array Slot), decode cc pc = .ok (.ireturn, 1) → narrow ty (.int r) = .int r → post r → W p l e rm s m av.toArray below meth c s.heap [] 0 0 Q (F0 m pc ls [.int r])) →
      W p l e rm s m av.toArray below meth c s.heap [] 0 0 Q (F0 m 0 ls [])) : xR l y w rm av G wd post := by
  refine Met.ofW (cc := cc) (maxL := maxL) (ret := some ty) hy hw ?_
  intro p e s m args below meth c s₁ B hml hv
  obtain ⟨rfl, hP, hK, hD⟩ := hv
  have hx := B.exec
  have hb := B.bytes
  have hr := B.returns
  have hts := atoms_spec (ws := w) B.pre
  have hown : s.vm.findClass y.cls = some m.cls := findClass_of_methodNamed B.named
  have hlocks := B.notSynchronized
  have hl := lv_entry av (n := maxL) hn
  rw [lg_entry_eq]
  refine body p e s m below meth c _ _ hx hb hml hown hts hP hK hD hl (fun r pc ls hd hnr hp => ?_)
  exact W.zret hx hb hr hnr (fun t ht hW => ⟨r, rfl, hp, ht⟩) (fun q hq => by cases hq) hd hlocks
set_option maxHeartbeats 1000000 in
theorem xM_of {l : Launch} {y : MethodName} {w w' : List Cond} {rm : Room} {av : List Value} {G : xG} {wd wd' : va_W} {cc : ByteArray} {maxL : Nat} (hy : plainName y.cls = true) (hw : w = Cond.code y cc maxL none :: w') (hn : (lg_sl av).length ≤ maxL)
    (body : ∀ (p : Program) (e : Env) (s : State) (m : MethodId) (below : List Frame) (meth : Method) (c : Code) (ls : Array Slot) (Q : State → Prop) (A : Nat → Prop), p.tables.exec = Jvm.exec → c.code = cc → c.maxLocals = maxL → s.vm.findClass y.cls = some m.cls → (∀ z ∈ w, z.before av.toArray s = true) → va_P (xD G) vwCl wd s.heap → va_K (xD G) vwCl (x_tys G) s → va_D A wd → va_S A s.heap s.heap [] → (∀ q : Nat, s.heap.size ≤ q → A q) → lv_has ls maxL (lv_args 0 av) →
      (∀ (H : Heap) (locs : List Loc) (pc : Nat) (ls : Array Slot), decode cc pc = .ok (.return_, 1) → va_P (xD G) vwCl wd' H → va_D A wd' → va_S A s.heap H locs → W p l e rm s m av.toArray below meth c H locs 0 0 Q (F0 m pc ls [])) →
      W p l e rm s m av.toArray below meth c s.heap [] 0 0 Q (F0 m 0 ls [])) : xM l y w rm av G wd wd' := by
  intro sz
  refine Met.ofW (cc := cc) (maxL := maxL) (ret := none) hy hw ?_
  intro p e s m args below meth c s₁ B hml hv
  obtain ⟨rfl, hsz, hP, hK, hD⟩ := hv
  have hx := B.exec
  have hb := B.bytes
  have hr := B.returns
  have hts := atoms_spec (ws := w) B.pre
  have hown : s.vm.findClass y.cls = some m.cls := findClass_of_methodNamed B.named
  have hlocks := B.notSynchronized
  subst hsz
  have hD := hD.self (sz := s.heap.size)
  have hl := lv_entry av (n := maxL) hn
  rw [lg_entry_eq]
  refine body p e s m below meth c _ _ _ hx hb hml hown hts hP hK hD va_S.rf (fun q h => Or.inr h) hl (fun H locs pc ls hd hP hD hS => ?_)
  exact W.vret hx hb hr (fun t ht hW => ⟨⟨(), rfl, trivial, by rw [ht]; exact hP, va_K.moved hW.alike hK, hD⟩, hS.F ht⟩) hS.2.2 hd hlocks
set_option maxHeartbeats 1000000 in
theorem xN_of {l : Launch} {y : MethodName} {w w' : List Cond} {rm : Room} {av : List Value} {G : xG} {wd wd' : va_W} {ans : Int32} {cc : ByteArray} {maxL : Nat} {ty : FieldType} (hy : plainName y.cls = true) (hw : w = Cond.code y cc maxL (some ty) :: w') (hn : (lg_sl av).length ≤ maxL)
    (body : ∀ (p : Program) (e : Env) (s : State) (m : MethodId) (below : List Frame) (meth : Method) (c : Code) (ls : Array Slot) (Q : State → Prop) (A : Nat → Prop), p.tables.exec = Jvm.exec → c.code = cc → c.maxLocals = maxL → s.vm.findClass y.cls = some m.cls → (∀ z ∈ w, z.before av.toArray s = true) → va_P (xD G) vwCl wd s.heap → va_K (xD G) vwCl (x_tys G) s → va_D A wd → va_S A s.heap s.heap [] → (∀ q : Nat, s.heap.size ≤ q → A q) → lv_has ls maxL (lv_args 0 av) →
      (∀ (r : Int32) (H : Heap) (locs : List Loc) (pc : Nat) (ls : Array Slot), decode cc pc = .ok (.ireturn, 1) → narrow ty (.int r) = .int r → r = ans → va_P (xD G) vwCl wd' H → va_D A wd' → va_S A s.heap H locs → W p l e rm s m av.toArray below meth c H locs 0 0 Q (F0 m pc ls [.int r])) →
      W p l e rm s m av.toArray below meth c s.heap [] 0 0 Q (F0 m 0 ls [])) : xN l y w rm av G wd wd' ans := by
  intro sz
  refine Met.ofW (cc := cc) (maxL := maxL) (ret := some ty) hy hw ?_
  intro p e s m args below meth c s₁ B hml hv
  obtain ⟨rfl, hsz, hP, hK, hD⟩ := hv
  have hx := B.exec
  have hb := B.bytes
  have hr := B.returns
  have hts := atoms_spec (ws := w) B.pre
  have hown : s.vm.findClass y.cls = some m.cls := findClass_of_methodNamed B.named
  have hlocks := B.notSynchronized
  subst hsz
  have hD := hD.self (sz := s.heap.size)
  have hl := lv_entry av (n := maxL) hn
  rw [lg_entry_eq]
  refine body p e s m below meth c _ _ _ hx hb hml hown hts hP hK hD va_S.rf (fun q h => Or.inr h) hl (fun r H locs pc ls hd hnr hra hP hD hS => ?_)
  exact W.zret hx hb hr hnr (fun t ht hW => ⟨⟨r, (), rfl, hra, by rw [ht]; exact hP, va_K.moved hW.alike hK, hD⟩, hS.F ht⟩) hS.2.2 hd hlocks
section XB
variable {p : Program} {l : Launch} {e : Env} {R : Room} {s : State} {m : MethodId} {args : Array Value} {below : List Frame} {meth : Method} {c : Code} {H H0 : Heap} {locs : List Loc} {cells slots : Nat} {Q : State → Prop}
variable {pc : Nat} {ls : Array Slot} {rest : List Value} {A : Nat → Prop} {cc : ByteArray} {G : xG} {wd : va_W} {a : Nat}
theorem x_top {x y : Int32} (h : x = y) (k : W p l e R s m args below meth c H locs cells slots Q (F0 m pc ls (.int y :: rest))) : W p l e R s m args below meth c H locs cells slots Q (F0 m pc ls (.int x :: rest)) := h ▸ k
theorem x_cut {g1 g : JFrame} (k : W p l e R s m args below meth c H locs cells slots Q g1) (h : W p l e R s m args below meth c H locs cells slots Q g1 → W p l e R s m args below meth c H locs cells slots Q g) : W p l e R s m args below meth c H locs cells slots Q g := h k
theorem x_iald (hexec : p.tables.exec = Jvm.exec) (hb : c.code = cc) (hK : va_K (xD G) vwCl (x_tys G) s) (hP : va_P (xD G) vwCl wd H) (q0 : Nat) {n i : Nat} {f : Nat → Int32} (ha : wd[q0]? = some (xI G a n f)) (hi : i < n) (hn : n < 2 ^ 31) (hdg : decode cc pc = .ok (.iaload, 1))
    (kk : W p l e R s m args below meth c H locs cells slots Q (F0 m (pc + 1) ls (.int (f i) :: rest))) : W p l e R s m args below meth c H locs cells slots Q (F0 m pc ls (.int (nI i) :: .ref a :: rest)) := by
  refine va_iald hexec hb hK hP q0 0 ha rfl (vp_in_nI hi hn) hdg ?_
  rw [nI_clamp (by omega)]; exact kk
theorem x_zald (hexec : p.tables.exec = Jvm.exec) (hb : c.code = cc) (hK : va_K (xD G) vwCl (x_tys G) s) (hP : va_P (xD G) vwCl wd H) (q0 : Nat) {n i : Nat} {f : Nat → Int32} (ha : wd[q0]? = some (xZ G a n f)) (hi : i < n) (hn : n < 2 ^ 31) (hdg : decode cc pc = .ok (.baload, 1))
    (kk : W p l e R s m args below meth c H locs cells slots Q (F0 m (pc + 1) ls (.int (f i) :: rest))) : W p l e R s m args below meth c H locs cells slots Q (F0 m pc ls (.int (nI i) :: .ref a :: rest)) := by
  refine va_zald hexec hb hK hP q0 1 ha rfl (vp_in_nI hi hn) hdg ?_
  rw [nI_clamp (by omega)]; exact kk
theorem x_ialdI (hexec : p.tables.exec = Jvm.exec) (hb : c.code = cc) (hK : va_K (xD G) vwCl (x_tys G) s) (hP : va_P (xD G) vwCl wd H) (q0 : Nat) {n : Nat} {i : Int32} {f : Nat → Int32} (ha : wd[q0]? = some (xI G a n f)) (hi : vp_in i n) (hdg : decode cc pc = .ok (.iaload, 1))
    (kk : W p l e R s m args below meth c H locs cells slots Q (F0 m (pc + 1) ls (.int (f i.toNatClampNeg) :: rest))) : W p l e R s m args below meth c H locs cells slots Q (F0 m pc ls (.int i :: .ref a :: rest)) := va_iald hexec hb hK hP q0 0 ha rfl hi hdg kk
theorem x_zaldI (hexec : p.tables.exec = Jvm.exec) (hb : c.code = cc) (hK : va_K (xD G) vwCl (x_tys G) s) (hP : va_P (xD G) vwCl wd H) (q0 : Nat) {n : Nat} {i : Int32} {f : Nat → Int32} (ha : wd[q0]? = some (xZ G a n f)) (hi : vp_in i n) (hdg : decode cc pc = .ok (.baload, 1))
    (kk : W p l e R s m args below meth c H locs cells slots Q (F0 m (pc + 1) ls (.int (f i.toNatClampNeg) :: rest))) : W p l e R s m args below meth c H locs cells slots Q (F0 m pc ls (.int i :: .ref a :: rest)) := va_zald hexec hb hK hP q0 1 ha rfl hi hdg kk
theorem x_iast (hexec : p.tables.exec = Jvm.exec) (hb : c.code = cc) (hK : va_K (xD G) vwCl (x_tys G) s) (hP : va_P (xD G) vwCl wd H) (hD : va_D A wd) (hS : va_S A H0 H locs) (q0 : Nat) {n i : Nat} {f : Nat → Int32} (ha : wd[q0]? = some (xI G a n f)) (hi : i < n) (hn : n < 2 ^ 31) {x : Int32} (hdg : decode cc pc = .ok (.iastore, 1))
    (kk : ∀ (H1 : Heap) (locs1 : List Loc), va_P (xD G) vwCl (wd.set q0 (xI G a n (upd f i x))) H1 → va_D A (wd.set q0 (xI G a n (upd f i x))) → va_S A H0 H1 locs1 → W p l e R s m args below meth c H1 locs1 cells slots Q (F0 m (pc + 1) ls rest)) : W p l e R s m args below meth c H locs cells slots Q (F0 m pc ls (.int x :: .int (nI i) :: .ref a :: rest)) := by
  refine va_iast hexec hb hK hP hD hS q0 0 ha rfl (vp_in_nI hi hn) hdg ?_
  rw [nI_clamp (by omega)]; exact kk
theorem x_iastI (hexec : p.tables.exec = Jvm.exec) (hb : c.code = cc) (hK : va_K (xD G) vwCl (x_tys G) s) (hP : va_P (xD G) vwCl wd H) (hD : va_D A wd) (hS : va_S A H0 H locs) (q0 : Nat) {n : Nat} {i : Int32} {f : Nat → Int32} (ha : wd[q0]? = some (xI G a n f)) (hi : vp_in i n) {x : Int32} (hdg : decode cc pc = .ok (.iastore, 1))
    (kk : ∀ (H1 : Heap) (locs1 : List Loc), va_P (xD G) vwCl (wd.set q0 (xI G a n (upd f i.toNatClampNeg x))) H1 → va_D A (wd.set q0 (xI G a n (upd f i.toNatClampNeg x))) → va_S A H0 H1 locs1 → W p l e R s m args below meth c H1 locs1 cells slots Q (F0 m (pc + 1) ls rest)) : W p l e R s m args below meth c H locs cells slots Q (F0 m pc ls (.int x :: .int i :: .ref a :: rest)) := va_iast hexec hb hK hP hD hS q0 0 ha rfl hi hdg kk
theorem x_zast (hexec : p.tables.exec = Jvm.exec) (hb : c.code = cc) (hK : va_K (xD G) vwCl (x_tys G) s) (hP : va_P (xD G) vwCl wd H) (hD : va_D A wd) (hS : va_S A H0 H locs) (q0 : Nat) {n i : Nat} {f : Nat → Int32} (ha : wd[q0]? = some (xZ G a n f)) (hi : i < n) (hn : n < 2 ^ 31) {x : Int32} (hx : vp_nar .boolean x = x) (hdg : decode cc pc = .ok (.bastore, 1))
    (kk : ∀ (H1 : Heap) (locs1 : List Loc), va_P (xD G) vwCl (wd.set q0 (xZ G a n (upd f i x))) H1 → va_D A (wd.set q0 (xZ G a n (upd f i x))) → va_S A H0 H1 locs1 → W p l e R s m args below meth c H1 locs1 cells slots Q (F0 m (pc + 1) ls rest)) : W p l e R s m args below meth c H locs cells slots Q (F0 m pc ls (.int x :: .int (nI i) :: .ref a :: rest)) := by
  refine va_zast hexec hb hK hP hD hS q0 1 ha rfl (vp_in_nI hi hn) hdg ?_
  rw [nI_clamp (by omega), hx]; exact kk
theorem x_zastI (hexec : p.tables.exec = Jvm.exec) (hb : c.code = cc) (hK : va_K (xD G) vwCl (x_tys G) s) (hP : va_P (xD G) vwCl wd H) (hD : va_D A wd) (hS : va_S A H0 H locs) (q0 : Nat) {n : Nat} {i : Int32} {f : Nat → Int32} (ha : wd[q0]? = some (xZ G a n f)) (hi : vp_in i n) {x : Int32} (hx : vp_nar .boolean x = x) (hdg : decode cc pc = .ok (.bastore, 1))
    (kk : ∀ (H1 : Heap) (locs1 : List Loc), va_P (xD G) vwCl (wd.set q0 (xZ G a n (upd f i.toNatClampNeg x))) H1 → va_D A (wd.set q0 (xZ G a n (upd f i.toNatClampNeg x))) → va_S A H0 H1 locs1 → W p l e R s m args below meth c H1 locs1 cells slots Q (F0 m (pc + 1) ls rest)) : W p l e R s m args below meth c H locs cells slots Q (F0 m pc ls (.int x :: .int i :: .ref a :: rest)) := by
  refine va_zast hexec hb hK hP hD hS q0 1 ha rfl hi hdg ?_
  rw [hx]; exact kk
-- branches on whole numbers that are small, and on booleans
theorem x_icmp_ge (hexec : p.tables.exec = Jvm.exec) (hb : c.code = cc) {x y : Nat} (hx : x < 2 ^ 31) (hy : y < 2 ^ 31) {off : Int} {tgt : Nat} (hdg : decode cc pc = .ok (.if_icmp .ge off, 3)) (ht : (pc : Int) + off = (tgt : Int))
    (kt : y ≤ x → W p l e R s m args below meth c H locs cells slots Q (F0 m tgt ls rest)) (kf : x < y → W p l e R s m args below meth c H locs cells slots Q (F0 m (pc + 3) ls rest)) : W p l e R s m args below meth c H locs cells slots Q (F0 m pc ls (.int (nI y) :: .int (nI x) :: rest)) :=
  lv_icmp_ge hexec hb hdg ht (fun h => kt ((nI_leI hy hx).mp h)) (fun h => kf (Nat.lt_of_not_le fun q => h ((nI_leI hy hx).mpr q)))
theorem x_icmp_lt (hexec : p.tables.exec = Jvm.exec) (hb : c.code = cc) {x y : Nat} (hx : x < 2 ^ 31) (hy : y < 2 ^ 31) {off : Int} {tgt : Nat} (hdg : decode cc pc = .ok (.if_icmp .lt off, 3)) (ht : (pc : Int) + off = (tgt : Int))
    (kt : x < y → W p l e R s m args below meth c H locs cells slots Q (F0 m tgt ls rest)) (kf : y ≤ x → W p l e R s m args below meth c H locs cells slots Q (F0 m (pc + 3) ls rest)) : W p l e R s m args below meth c H locs cells slots Q (F0 m pc ls (.int (nI y) :: .int (nI x) :: rest)) :=
  lv_icmp_lt hexec hb hdg ht (fun h => kt ((nI_ltI hx hy).mp h)) (fun h => kf (Nat.le_of_not_lt fun q => h ((nI_ltI hx hy).mpr q)))
theorem x_icmp_gt (hexec : p.tables.exec = Jvm.exec) (hb : c.code = cc) {x y : Nat} (hx : x < 2 ^ 31) (hy : y < 2 ^ 31) {off : Int} {tgt : Nat} (hdg : decode cc pc = .ok (.if_icmp .gt off, 3)) (ht : (pc : Int) + off = (tgt : Int))
    (kt : y < x → W p l e R s m args below meth c H locs cells slots Q (F0 m tgt ls rest)) (kf : x ≤ y → W p l e R s m args below meth c H locs cells slots Q (F0 m (pc + 3) ls rest)) : W p l e R s m args below meth c H locs cells slots Q (F0 m pc ls (.int (nI y) :: .int (nI x) :: rest)) :=
  lv_icmp_gt hexec hb hdg ht (fun h => kt ((nI_ltI hy hx).mp h)) (fun h => kf (Nat.le_of_not_lt fun q => h ((nI_ltI hy hx).mpr q)))
theorem x_icmp_le (hexec : p.tables.exec = Jvm.exec) (hb : c.code = cc) {x y : Nat} (hx : x < 2 ^ 31) (hy : y < 2 ^ 31) {off : Int} {tgt : Nat} (hdg : decode cc pc = .ok (.if_icmp .le off, 3)) (ht : (pc : Int) + off = (tgt : Int))
    (kt : x ≤ y → W p l e R s m args below meth c H locs cells slots Q (F0 m tgt ls rest)) (kf : y < x → W p l e R s m args below meth c H locs cells slots Q (F0 m (pc + 3) ls rest)) : W p l e R s m args below meth c H locs cells slots Q (F0 m pc ls (.int (nI y) :: .int (nI x) :: rest)) :=
  lv_icmp_le hexec hb hdg ht (fun h => kt ((nI_leI hx hy).mp h)) (fun h => kf (Nat.lt_of_not_le fun q => h ((nI_leI hx hy).mpr q)))
theorem x_icmp_eq (hexec : p.tables.exec = Jvm.exec) (hb : c.code = cc) {x y : Nat} (hx : x < 2 ^ 31) (hy : y < 2 ^ 31) {off : Int} {tgt : Nat} (hdg : decode cc pc = .ok (.if_icmp .eq off, 3)) (ht : (pc : Int) + off = (tgt : Int))
    (kt : x = y → W p l e R s m args below meth c H locs cells slots Q (F0 m tgt ls rest)) (kf : ¬ x = y → W p l e R s m args below meth c H locs cells slots Q (F0 m (pc + 3) ls rest)) : W p l e R s m args below meth c H locs cells slots Q (F0 m pc ls (.int (nI y) :: .int (nI x) :: rest)) :=
  lv_icmp_eq hexec hb hdg ht (fun h => kt ((nI_eq hx hy).mp h)) (fun h => kf fun q => h ((nI_eq hx hy).mpr q))
theorem x_icmp_ne (hexec : p.tables.exec = Jvm.exec) (hb : c.code = cc) {x y : Nat} (hx : x < 2 ^ 31) (hy : y < 2 ^ 31) {off : Int} {tgt : Nat} (hdg : decode cc pc = .ok (.if_icmp .ne off, 3)) (ht : (pc : Int) + off = (tgt : Int))
    (kt : ¬ x = y → W p l e R s m args below meth c H locs cells slots Q (F0 m tgt ls rest)) (kf : x = y → W p l e R s m args below meth c H locs cells slots Q (F0 m (pc + 3) ls rest)) : W p l e R s m args below meth c H locs cells slots Q (F0 m pc ls (.int (nI y) :: .int (nI x) :: rest)) :=
  lv_icmp_ne hexec hb hdg ht (fun h => kt fun q => h ((nI_eq hx hy).mpr q)) (fun h => kf ((nI_eq hx hy).mp h))
theorem x_if_eq {P : Prop} [Decidable P] (hexec : p.tables.exec = Jvm.exec) (hb : c.code = cc) {off : Int} {tgt : Nat} (hdg : decode cc pc = .ok (.ifCond .eq off, 3)) (ht : (pc : Int) + off = (tgt : Int))
    (kt : ¬ P → W p l e R s m args below meth c H locs cells slots Q (F0 m tgt ls rest)) (kf : P → W p l e R s m args below meth c H locs cells slots Q (F0 m (pc + 3) ls rest)) : W p l e R s m args below meth c H locs cells slots Q (F0 m pc ls (.int (b2 P) :: rest)) :=
  lv_if_eq hexec hb hdg ht (fun h => kt (b2_z.mp h)) (fun h => kf (b2_n.mp h))
theorem x_if_ne {P : Prop} [Decidable P] (hexec : p.tables.exec = Jvm.exec) (hb : c.code = cc) {off : Int} {tgt : Nat} (hdg : decode cc pc = .ok (.ifCond .ne off, 3)) (ht : (pc : Int) + off = (tgt : Int))
    (kt : P → W p l e R s m args below meth c H locs cells slots Q (F0 m tgt ls rest)) (kf : ¬ P → W p l e R s m args below meth c H locs cells slots Q (F0 m (pc + 3) ls rest)) : W p l e R s m args below meth c H locs cells slots Q (F0 m pc ls (.int (b2 P) :: rest)) :=
  lv_if_ne hexec hb hdg ht (fun h => kt (b2_n.mp h)) (fun h => kf (b2_z.mp h))
theorem x_bcmp_ne {P U : Prop} [Decidable P] [Decidable U] (hexec : p.tables.exec = Jvm.exec) (hb : c.code = cc) {off : Int} {tgt : Nat} (hdg : decode cc pc = .ok (.if_icmp .ne off, 3)) (ht : (pc : Int) + off = (tgt : Int))
    (kt : ¬ (P ↔ U) → W p l e R s m args below meth c H locs cells slots Q (F0 m tgt ls rest)) (kf : (P ↔ U) → W p l e R s m args below meth c H locs cells slots Q (F0 m (pc + 3) ls rest)) : W p l e R s m args below meth c H locs cells slots Q (F0 m pc ls (.int (b2 U) :: .int (b2 P) :: rest)) :=
  lv_icmp_ne hexec hb hdg ht (fun h => kt fun q => h (b2_c q)) (fun h => kf (b2_e.mp h))
theorem x_bcmp_eq {P U : Prop} [Decidable P] [Decidable U] (hexec : p.tables.exec = Jvm.exec) (hb : c.code = cc) {off : Int} {tgt : Nat} (hdg : decode cc pc = .ok (.if_icmp .eq off, 3)) (ht : (pc : Int) + off = (tgt : Int))
    (kt : (P ↔ U) → W p l e R s m args below meth c H locs cells slots Q (F0 m tgt ls rest)) (kf : ¬ (P ↔ U) → W p l e R s m args below meth c H locs cells slots Q (F0 m (pc + 3) ls rest)) : W p l e R s m args below meth c H locs cells slots Q (F0 m pc ls (.int (b2 U) :: .int (b2 P) :: rest)) :=
  lv_icmp_eq hexec hb hdg ht (fun h => kt (b2_e.mp h)) (fun h => kf fun q => h (b2_c q))
-- calls
theorem x_callR {y : MethodName} {bytes : ByteArray} {maxL nL n index ci q0 : Nat} {ret : Option FieldType} {w : List Cond} {rm : Room} {Ts : List Cond} {own C : String} {b : Addr} {As stk : List Value} {wc : va_W} {post : Int32 → Prop} {q : vw_C} {fs : List Value}
    (S : CallFix p m c cc nL s args Ts own) (hM : xR l y w rm (.ref b :: As) G wc post) (cw : CallW R s args own C index y bytes maxL ret w rm 0 0 n) (hK : va_K (xD G) vwCl (x_tys G) s) (hP : va_P (xD G) vwCl wd H) (hD : va_D A wd) (is : List Nat) (hnd : va_nd is = true) (hC : is.map (fun i => wd[i]?) = wc.map some) (hP1 : is.filterMap (fun i => wd[i]?) = wc)
    (hc : vwCl[ci]? = some q) (hq : q.1 = C) (he : wd[q0]? = some (b, .inr (ci, fs)))
    (hn : As.length = n) (hsize : ls.size = nL) (hstack : stk = As.reverse ++ .ref b :: rest) (hW : (rest.map fun v => v.category).sum ≤ 8) (hdg : decode cc pc = .ok (.invokevirtual index, 3)) (hf : cells ≤ R.cells ∧ slots ≤ R.slots)
    (kk : ∀ r : Int32, post r → W p l e R s m args below meth c H locs cells slots Q (F0 m (pc + 3) ls (.int r :: rest))) : W p l e R s m args below meth c H locs cells slots Q (F0 m pc ls stk) := by
  subst hstack
  refine vp_callSi (W.runV S hM cw ⟨x_blind, ?_, fun U hU hWm => ⟨rfl, ?_, va_K.moved hWm.alike hK, ?_⟩⟩ rfl hn hsize rfl (lv_room hW) hdg hf) kk
  · subst hq; exact va_recv hK hP hc he
  · rw [hU]; exact hP.sub is hP1
  · exact (hD.sub is hnd hC).weaken (fun _ _ _ _ => trivial)
theorem x_callS {y : MethodName} {bytes : ByteArray} {maxL nL n index : Nat} {ret : Option FieldType} {w : List Cond} {rm : Room} {Ts : List Cond} {own : String} {As stk : List Value} {post : Int32 → Prop}
    (S : CallFix p m c cc nL s args Ts own) (hM : xR l y w rm As G [] post) (cw : CallB R s args own index y bytes maxL ret w rm 0 0 n ∧ (Cond.static y).before args s = true) (hK : va_K (xD G) vwCl (x_tys G) s)
    (hn : As.length = n) (hsize : ls.size = nL) (hstack : stk = As.reverse ++ rest) (hW : (rest.map fun v => v.category).sum ≤ 8) (hdg : decode cc pc = .ok (.invokestatic index, 3)) (hf : cells ≤ R.cells ∧ slots ≤ R.slots)
    (kk : ∀ r : Int32, post r → W p l e R s m args below meth c H locs cells slots Q (F0 m (pc + 3) ls (.int r :: rest))) : W p l e R s m args below meth c H locs cells slots Q (F0 m pc ls stk) := by
  subst hstack
  refine vp_callSi (W.runS S hM cw ⟨x_blind, fun U hU hWm => ⟨rfl, fun k q h => by simp at h, va_K.moved hWm.alike hK, ⟨fun i j p q h => by simp at h, fun k q h => by simp at h⟩⟩⟩ rfl hn hsize rfl (lv_room hW) hdg hf) kk
/-- behind a call that changes cells: the caller's world again, in its own order -/
theorem x_back {w1 wc wr w2 : va_W} {H1 : Heap} {t : State} (hP : va_P (xD G) vwCl wd H) (hD : va_D A wd) (hF : ∀ q, va_A wc H.size q → A q) (isC isR is2 : List Nat) (hC : isC.map (fun i => wd[i]?) = wc.map some) (hR : isR.map (fun i => wd[i]?) = wr.map some) (hn : va_nd isR = true) (hdis : ∀ i ∈ isR, i ∉ isC) (hn2 : va_nd is2 = true) (h2 : is2.map (fun i => (wr ++ w1)[i]?) = w2.map some) (h2f : is2.filterMap (fun i => (wr ++ w1)[i]?) = w2)
    (ht : t.heap = H1) (hk : ∀ q : Nat, q < H.size → ¬ va_A wc H.size q → H1[q]? = H[q]?) (hB : xOut G (va_A wc H.size) w1 () t) : va_P (xD G) vwCl w2 H1 ∧ va_D A w2 := by
  obtain ⟨hP1, -, hD1⟩ := hB
  rw [ht] at hP1
  obtain ⟨a1, a2⟩ := va_join hP hD isC isR hC hR hn hdis hk hF hP1 hD1
  exact ⟨a1.sub is2 h2f, a2.sub is2 hn2 h2⟩
theorem x_callM {y : MethodName} {bytes : ByteArray} {maxL nL n index ci q0 : Nat} {ret : Option FieldType} {w : List Cond} {rm : Room} {Ts : List Cond} {own C : String} {b : Addr} {As stk : List Value} {wc w1 wr w2 : va_W} {q : vw_C} {fs : List Value}
    (S : CallFix p m c cc nL s args Ts own) (hM : xM l y w rm (.ref b :: As) G wc w1) (cw : CallW R s args own C index y bytes maxL ret w rm 0 0 n) (hK : va_K (xD G) vwCl (x_tys G) s) (hP : va_P (xD G) vwCl wd H) (hD : va_D A wd) (hS : va_S A H0 H locs) (hA : ∀ q, H0.size ≤ q → A q) (isC isR is2 : List Nat) (hnd : va_nd isC = true) (hC : isC.map (fun i => wd[i]?) = wc.map some) (hP1 : isC.filterMap (fun i => wd[i]?) = wc) (hR : isR.map (fun i => wd[i]?) = wr.map some) (hnr : va_nd isR = true) (hdis : ∀ i ∈ isR, i ∉ isC) (hn2 : va_nd is2 = true) (h2 : is2.map (fun i => (wr ++ w1)[i]?) = w2.map some) (h2f : is2.filterMap (fun i => (wr ++ w1)[i]?) = w2)
    (hc : vwCl[ci]? = some q) (hq : q.1 = C) (he : wd[q0]? = some (b, .inr (ci, fs)))
    (hn : As.length = n) (hsize : ls.size = nL) (hstack : stk = As.reverse ++ .ref b :: rest) (hW : (rest.map fun v => v.category).sum ≤ 8) (hdg : decode cc pc = .ok (.invokevirtual index, 3)) (hf : cells ≤ R.cells ∧ slots ≤ R.slots)
    (kk : ∀ (H1 : Heap) (locs1 : List Loc), va_P (xD G) vwCl w2 H1 → va_D A w2 → va_S A H0 H1 locs1 → W p l e R s m args below meth c H1 locs1 cells slots Q (F0 m (pc + 3) ls rest)) : W p l e R s m args below meth c H locs cells slots Q (F0 m pc ls stk) := by
  subst hstack
  have hFc := va_free (wc := wc) hD hS hA isC hC
  refine va_callv (va_runV S (hM H.size) cw ⟨x_blindM, ?_, fun U hU hWm => ⟨rfl, by rw [hU], ?_, va_K.moved hWm.alike hK, ?_⟩⟩ rfl hn hsize rfl (lv_room hW) hdg hf) hS (fun q _ h => hFc q h) hFc (fun u t H1 locs1 ht hvm hw hB hz1 hk1 hS => ?_)
  · subst hq; exact va_recv hK hP hc he
  · rw [hU]; exact hP.sub isC hP1
  · exact (hD.sub isC hnd hC).weaken (fun _ _ _ _ => trivial)
  · obtain ⟨hP2, hD2⟩ := x_back hP hD hFc isC isR is2 hC hR hnr hdis hn2 h2 h2f ht hk1 hB
    exact kk H1 locs1 hP2 hD2 hS
theorem x_callN {y : MethodName} {bytes : ByteArray} {maxL nL n index ci q0 : Nat} {ret : Option FieldType} {w : List Cond} {rm : Room} {Ts : List Cond} {own C : String} {b : Addr} {As stk : List Value} {wc w1 wr w2 : va_W} {q : vw_C} {fs : List Value} {ans : Int32}
    (S : CallFix p m c cc nL s args Ts own) (hM : xN l y w rm (.ref b :: As) G wc w1 ans) (cw : CallW R s args own C index y bytes maxL ret w rm 0 0 n) (hK : va_K (xD G) vwCl (x_tys G) s) (hP : va_P (xD G) vwCl wd H) (hD : va_D A wd) (hS : va_S A H0 H locs) (hA : ∀ q, H0.size ≤ q → A q) (isC isR is2 : List Nat) (hnd : va_nd isC = true) (hC : isC.map (fun i => wd[i]?) = wc.map some) (hP1 : isC.filterMap (fun i => wd[i]?) = wc) (hR : isR.map (fun i => wd[i]?) = wr.map some) (hnr : va_nd isR = true) (hdis : ∀ i ∈ isR, i ∉ isC) (hn2 : va_nd is2 = true) (h2 : is2.map (fun i => (wr ++ w1)[i]?) = w2.map some) (h2f : is2.filterMap (fun i => (wr ++ w1)[i]?) = w2)
    (hc : vwCl[ci]? = some q) (hq : q.1 = C) (he : wd[q0]? = some (b, .inr (ci, fs)))
    (hn : As.length = n) (hsize : ls.size = nL) (hstack : stk = As.reverse ++ .ref b :: rest) (hW : (rest.map fun v => v.category).sum ≤ 8) (hdg : decode cc pc = .ok (.invokevirtual index, 3)) (hf : cells ≤ R.cells ∧ slots ≤ R.slots)
    (kk : ∀ (H1 : Heap) (locs1 : List Loc), va_P (xD G) vwCl w2 H1 → va_D A w2 → va_S A H0 H1 locs1 → W p l e R s m args below meth c H1 locs1 cells slots Q (F0 m (pc + 3) ls (.int ans :: rest))) : W p l e R s m args below meth c H locs cells slots Q (F0 m pc ls stk) := by
  subst hstack
  have hFc := va_free (wc := wc) hD hS hA isC hC
  refine va_calli (va_runV S (hM H.size) cw ⟨x_blindM, ?_, fun U hU hWm => ⟨rfl, by rw [hU], ?_, va_K.moved hWm.alike hK, ?_⟩⟩ rfl hn hsize rfl (lv_room hW) hdg hf) hS (fun q _ h => hFc q h) hFc (fun r u t H1 locs1 ht hvm hw hB hz1 hk1 hS => ?_)
  · subst hq; exact va_recv hK hP hc he
  · rw [hU]; exact hP.sub isC hP1
  · exact (hD.sub isC hnd hC).weaken (fun _ _ _ _ => trivial)
  · obtain ⟨hP2, hD2⟩ := x_back hP hD hFc isC isR is2 hC hR hnr hdis hn2 h2 h2f ht hk1 hB
    subst hw
    exact kk H1 locs1 hP2 hD2 hS
/-- a static call that changes cells (Arrays.fill) -/
theorem x_callT {y : MethodName} {bytes : ByteArray} {maxL nL n index : Nat} {ret : Option FieldType} {w : List Cond} {rm : Room} {Ts : List Cond} {own : String} {As stk : List Value} {wc w1 wr w2 : va_W}
    (S : CallFix p m c cc nL s args Ts own) (hM : xM l y w rm As G wc w1) (cw : CallB R s args own index y bytes maxL ret w rm 0 0 n ∧ (Cond.static y).before args s = true) (hK : va_K (xD G) vwCl (x_tys G) s) (hP : va_P (xD G) vwCl wd H) (hD : va_D A wd) (hS : va_S A H0 H locs) (hA : ∀ q, H0.size ≤ q → A q) (isC isR is2 : List Nat) (hnd : va_nd isC = true) (hC : isC.map (fun i => wd[i]?) = wc.map some) (hP1 : isC.filterMap (fun i => wd[i]?) = wc) (hR : isR.map (fun i => wd[i]?) = wr.map some) (hnr : va_nd isR = true) (hdis : ∀ i ∈ isR, i ∉ isC) (hn2 : va_nd is2 = true) (h2 : is2.map (fun i => (wr ++ w1)[i]?) = w2.map some) (h2f : is2.filterMap (fun i => (wr ++ w1)[i]?) = w2)
    (hn : As.length = n) (hsize : ls.size = nL) (hstack : stk = As.reverse ++ rest) (hW : (rest.map fun v => v.category).sum ≤ 8) (hdg : decode cc pc = .ok (.invokestatic index, 3)) (hf : cells ≤ R.cells ∧ slots ≤ R.slots)
    (kk : ∀ (H1 : Heap) (locs1 : List Loc), va_P (xD G) vwCl w2 H1 → va_D A w2 → va_S A H0 H1 locs1 → W p l e R s m args below meth c H1 locs1 cells slots Q (F0 m (pc + 3) ls rest)) : W p l e R s m args below meth c H locs cells slots Q (F0 m pc ls stk) := by
  subst hstack
  have hFc := va_free (wc := wc) hD hS hA isC hC
  refine va_callv (va_runS S (hM H.size) cw ⟨x_blindM, fun U hU hWm => ⟨rfl, by rw [hU], ?_, va_K.moved hWm.alike hK, ?_⟩⟩ rfl hn hsize rfl (lv_room hW) hdg hf) hS (fun q _ h => hFc q h) hFc (fun u t H1 locs1 ht hvm hw hB hz1 hk1 hS => ?_)
  · rw [hU]; exact hP.sub isC hP1
  · exact (hD.sub isC hnd hC).weaken (fun _ _ _ _ => trivial)
  · obtain ⟨hP2, hD2⟩ := x_back hP hD hFc isC isR is2 hC hR hnr hdis hn2 h2 h2f ht hk1 hB
    exact kk H1 locs1 hP2 hD2 hS
end XB
