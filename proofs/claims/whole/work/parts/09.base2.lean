/-! a method that hands back a cell that is there -/
abbrev xRr (l : Launch) (y : MethodName) (w : List Cond) (rm : Room) (av : List Value) (G : xG) (wd : va_W) (q : Nat) : Prop := Met l y w rm (va_Pc av (xIn G wd)) (va_Sr (fun k => k = q) (fun k => .ref k)) 0 0 (fun _ => False)
set_option maxHeartbeats 1000000 in
theorem xRr_of {l : Launch} {y : MethodName} {w w' : List Cond} {rm : Room} {av : List Value} {G : xG} {wd : va_W} {q : Nat} {cc : ByteArray} {maxL : Nat} {nm : String} (hy : plainName y.cls = true) (hw : w = Cond.code y cc maxL (some (.object nm)) :: w') (hn : (lg_sl av).length ≤ maxL)
    (body : ∀ (p : Program) (e : Env) (s : State) (m : MethodId) (below : List Frame) (meth : Method) (c : Code) (ls : Array Slot) (Q : State → Prop), p.tables.exec = Jvm.exec → c.code = cc → c.maxLocals = maxL → s.vm.findClass y.cls = some m.cls → (∀ z ∈ w, z.before av.toArray s = true) → va_P (xD G) vwCl wd s.heap → va_K (xD G) vwCl (x_tys G) s → va_D (fun _ => True) wd → lv_has ls maxL (lv_args 0 av) →
      (∀ (pc : Nat) (ls : Array Slot), decode cc pc = .ok (.areturn, 1) → W p l e rm s m av.toArray below meth c s.heap [] 0 0 Q (F0 m pc ls [.ref q])) →
      W p l e rm s m av.toArray below meth c s.heap [] 0 0 Q (F0 m 0 ls [])) : xRr l y w rm av G wd q := by
  refine Met.ofW (cc := cc) (maxL := maxL) (ret := some (.object nm)) hy hw ?_
  intro p e s m args below meth c s₁ B hml hv
  obtain ⟨rfl, hP, hK, hD⟩ := hv
  have hx := B.exec
  have hb := B.bytes
  have hr := B.returns
  have hts := atoms_spec (ws := w) B.pre
  have hown : s.vm.findClass y.cls = some m.cls := findClass_of_methodNamed B.named
  have hlocks := B.notSynchronized
  have hl := lv_entry av (n := maxL) hn
  rw [lg_entry_eq]
  refine body p e s m below meth c _ _ hx hb hml hown hts hP hK hD hl (fun pc ls hd => ?_)
  exact W.aret hx hb hr (Or.inl ⟨_, rfl⟩) (Or.inr ⟨_, rfl⟩) (fun t ht hW => ⟨q, rfl, rfl, ht⟩) (fun q hq => by cases hq) hd hlocks
section XB2
variable {p : Program} {l : Launch} {e : Env} {R : Room} {s : State} {m : MethodId} {args : Array Value} {below : List Frame} {meth : Method} {c : Code} {H H0 : Heap} {locs : List Loc} {cells slots : Nat} {Q : State → Prop}
variable {pc : Nat} {ls : Array Slot} {rest : List Value} {A : Nat → Prop} {cc : ByteArray} {G : xG} {wd : va_W} {a : Nat}
theorem x_callRr {y : MethodName} {bytes : ByteArray} {maxL nL n index ci q0 : Nat} {ret : Option FieldType} {w : List Cond} {rm : Room} {Ts : List Cond} {own C : String} {b : Addr} {As stk : List Value} {wc : va_W} {k0 : Nat} {q : vw_C} {fs : List Value}
    (S : CallFix p m c cc nL s args Ts own) (hM : xRr l y w rm (.ref b :: As) G wc k0) (cw : CallW R s args own C index y bytes maxL ret w rm 0 0 n) (hK : va_K (xD G) vwCl (x_tys G) s) (hP : va_P (xD G) vwCl wd H) (hD : va_D A wd) (is : List Nat) (hnd : va_nd is = true) (hC : is.map (fun i => wd[i]?) = wc.map some) (hP1 : is.filterMap (fun i => wd[i]?) = wc)
    (hc : vwCl[ci]? = some q) (hq : q.1 = C) (he : wd[q0]? = some (b, .inr (ci, fs)))
    (hn : As.length = n) (hsize : ls.size = nL) (hstack : stk = As.reverse ++ .ref b :: rest) (hW : (rest.map fun v => v.category).sum ≤ 8) (hdg : decode cc pc = .ok (.invokevirtual index, 3)) (hf : cells ≤ R.cells ∧ slots ≤ R.slots)
    (kk : W p l e R s m args below meth c H locs cells slots Q (F0 m (pc + 3) ls (.ref k0 :: rest))) : W p l e R s m args below meth c H locs cells slots Q (F0 m pc ls stk) := by
  subst hstack
  refine va_csr (W.runV S hM cw ⟨x_blind, ?_, fun U hU hWm => ⟨rfl, ?_, va_K.moved hWm.alike hK, ?_⟩⟩ rfl hn hsize rfl (lv_room hW) hdg hf) (fun k hk => by subst hk; exact kk)
  · subst hq; exact va_recv hK hP hc he
  · rw [hU]; exact hP.sub is hP1
  · exact (hD.sub is hnd hC).weaken (fun _ _ _ _ => trivial)
end XB2
