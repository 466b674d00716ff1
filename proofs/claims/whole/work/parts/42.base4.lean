/-! a contract of a constructor that calls nest mates -/
abbrev xNq : Type := String × Nat × MethodName × String
def xNw (L : List xNq) (U : State) : Prop := ∀ q ∈ L, va_Nw (.methodLinkNest q.1 q.2.1 q.2.2.1 q.2.2.2) U
theorem x_blindN {L : List xNq} {av : List Value} {G : xG} {wd : va_W} {sz : Nat} : FrameBlind (va_Pc av (fun U => U.heap.size = sz ∧ xNw L U ∧ xIn G wd U)) := fun a U g mk q => ⟨q.1, q.2.1, fun z hz => va_Nw.same (u := U) (U := U.calling g mk a) rfl rfl (q.2.2.1 z hz), q.2.2.2.1, va_K.moved (u := U) (U := U.calling g mk a) (Vm.Alike.refl U.vm) q.2.2.2.2.1, q.2.2.2.2.2⟩
abbrev xKW (L : List xNq) (l : Launch) (y : MethodName) (w : List Cond) (rm : Room) (av : List Value) (G : xG) (wd : va_W) (S : Type) (wd' : S → va_W) (mc ms : Nat) : Prop := ∀ sz : Nat, Met l y w rm (va_Pc av (fun U => U.heap.size = sz ∧ xNw L U ∧ xIn G wd U)) (va_Qv (fun _ : S => True) (fun u t => xOut G (va_A wd sz) (wd' u) () t) (va_A wd sz)) mc ms (va_A wd sz)
set_option maxHeartbeats 1000000 in
theorem xKW_of {L : List xNq} {l : Launch} {y : MethodName} {w w' : List Cond} {rm : Room} {av : List Value} {G : xG} {wd : va_W} {S : Type} {wd' : S → va_W} {mc ms : Nat} {cc : ByteArray} {maxL : Nat} (hy : plainName y.cls = true) (hw : w = Cond.code y cc maxL none :: w') (hn : (lg_sl av).length ≤ maxL)
    (body : ∀ (p : Program) (e : Env) (s : State) (m : MethodId) (below : List Frame) (meth : Method) (c : Code) (ls : Array Slot) (Q : State → Prop) (A : Nat → Prop), p.tables.exec = Jvm.exec → c.code = cc → c.maxLocals = maxL → s.vm.findClass y.cls = some m.cls → (meth.name = y.name) → (∀ z ∈ w, z.before av.toArray s = true) → xNw L s → va_P (xD G) vwCl wd s.heap → va_K (xD G) vwCl (x_tys G) s → va_D A wd → va_S A s.heap s.heap [] → (∀ q : Nat, s.heap.size ≤ q → A q) → lv_has ls maxL (lv_args 0 av) →
      (∀ (u : S) (H : Heap) (locs : List Loc) (pc : Nat) (ls : Array Slot), decode cc pc = .ok (.return_, 1) → va_P (xD G) vwCl (wd' u) H → va_D A (wd' u) → va_S A s.heap H locs → W p l e rm s m av.toArray below meth c H locs mc ms Q (F0 m pc ls [])) →
      W p l e rm s m av.toArray below meth c s.heap [] 0 0 Q (F0 m 0 ls [])) : xKW L l y w rm av G wd S wd' mc ms := by
  intro sz
  refine Met.ofW (cc := cc) (maxL := maxL) (ret := none) hy hw ?_
  intro p e s m args below meth c s₁ B hml hv
  obtain ⟨rfl, hsz, hN, hP, hK, hD⟩ := hv
  have hx := B.exec
  have hb := B.bytes
  have hr := B.returns
  have hts := atoms_spec (ws := w) B.pre
  have hown : s.vm.findClass y.cls = some m.cls := findClass_of_methodNamed B.named
  have hlocks := B.notSynchronized
  subst hsz
  have hD := hD.self (sz := s.heap.size)
  have hl := lv_entry av (n := maxL) hn
  rw [lg_entry_eq]
  refine body p e s m below meth c _ _ _ hx hb hml hown (name_of_methodNamed B.named B.method).1 hts hN hP hK hD va_S.rf (fun q h => Or.inr h) hl (fun u H locs pc ls hd hP hD hS => ?_)
  exact W.vret hx hb hr (fun t ht hW => ⟨⟨u, rfl, trivial, by rw [ht]; exact hP, va_K.moved hW.alike hK, hD⟩, hS.F ht⟩) hS.2.2 hd hlocks
section XB4
variable {p : Program} {l : Launch} {e : Env} {R : Room} {s : State} {m : MethodId} {args : Array Value} {below : List Frame} {meth : Method} {c : Code} {H H0 : Heap} {locs : List Loc} {cells slots : Nat} {Q : State → Prop}
variable {pc : Nat} {ls : Array Slot} {rest : List Value} {A : Nat → Prop} {cc : ByteArray} {G : xG} {wd : va_W} {a : Nat}
theorem x_callKW {L : List xNq} {y : MethodName} {bytes : ByteArray} {maxL nL mc ms n index : Nat} {w : List Cond} {rm : Room} {Ts : List Cond} {own : String} {b : Addr} {As stk : List Value} {wc wr : va_W} {S : Type} {w1 : S → va_W}
    (F : CallFix p m c cc nL s args Ts own) (hN : xNw L s) (hM : xKW L l y w rm (.ref b :: As) G wc S w1 mc ms) (cw : CallB R s args own index y bytes maxL none w rm mc ms n ∧ y.name = "<init>" ∧ (Cond.instanceMethod y).before args s = true) (hK : va_K (xD G) vwCl (x_tys G) s) (hP : va_P (xD G) vwCl wd H) (hD : va_D A wd) (hS : va_S A H0 H locs) (hA : ∀ q, H0.size ≤ q → A q) (isC isR : List Nat) (hnd : va_nd isC = true) (hC : isC.map (fun i => wd[i]?) = wc.map some) (hP1 : isC.filterMap (fun i => wd[i]?) = wc) (hR : isR.map (fun i => wd[i]?) = wr.map some) (hnr : va_nd isR = true) (hdis : ∀ i ∈ isR, i ∉ isC)
    (hn : As.length = n) (hsize : ls.size = nL) (hstack : stk = As.reverse ++ .ref b :: rest) (hW : (rest.map fun v => v.category).sum ≤ 8) (hdg : decode cc pc = .ok (.invokespecial index, 3)) (hf : cells + mc ≤ R.cells ∧ slots + ms ≤ R.slots)
    (kk : ∀ (u : S) (H1 : Heap) (locs1 : List Loc), va_P (xD G) vwCl (wr ++ w1 u) H1 → va_D A (wr ++ w1 u) → va_S A H0 H1 locs1 → W p l e R s m args below meth c H1 locs1 (cells + mc) (slots + ms) Q (F0 m (pc + 3) ls rest)) : W p l e R s m args below meth c H locs cells slots Q (F0 m pc ls stk) := by
  subst hstack
  have hFc := va_free (wc := wc) hD hS hA isC hC
  refine va_callv (va_runI F (hM H.size) cw ⟨x_blindN, fun U hU hWm => ⟨rfl, by rw [hU], fun q hq => va_Nw.warmM hWm (hN q hq), ?_, va_K.moved hWm.alike hK, ?_⟩⟩ rfl hn hsize rfl (lv_room hW) hdg hf) hS (fun q _ h => hFc q h) hFc (fun u t H1 locs1 ht hvm hw hB hz1 hk1 hS => ?_)
  · rw [hU]; exact hP.sub isC hP1
  · exact (hD.sub isC hnd hC).weaken (fun _ _ _ _ => trivial)
  · obtain ⟨hP2, -, hD2⟩ := hB
    rw [ht] at hP2
    obtain ⟨a1, a2⟩ := va_join hP hD isC isR hC hR hnr hdis hk1 hFc hP2 hD2
    exact kk u H1 locs1 a1 a2 hS
end XB4
