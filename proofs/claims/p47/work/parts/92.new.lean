/-! objects that are made -/
theorem k_Ku_int {D : va_G} {cI cJ cC cG cA : ClassId} {s : State} (h : va_K D vwCl (kT cI cJ cC cG) s) (h2 : va_K D vwCl (kT cI cJ cC cG ++ [(cA, .int)]) s) : cI = cA :=
  Option.some.inj (((h.2 0 (cI, .int) rfl).2 : s.vm.findClass _ = some cI).symm.trans ((h2.2 4 (cA, .int) rfl).2 : s.vm.findClass _ = some cA))
theorem k_Ku_long {D : va_G} {cI cJ cC cG cA : ClassId} {s : State} (h : va_K D vwCl (kT cI cJ cC cG) s) (h2 : va_K D vwCl (kT cI cJ cC cG ++ [(cA, .long)]) s) : cJ = cA :=
  Option.some.inj (((h.2 1 (cJ, .long) rfl).2 : s.vm.findClass _ = some cJ).symm.trans ((h2.2 4 (cA, .long) rfl).2 : s.vm.findClass _ = some cA))
theorem k_Ku_char {D : va_G} {cI cJ cC cG cA : ClassId} {s : State} (h : va_K D vwCl (kT cI cJ cC cG) s) (h2 : va_K D vwCl (kT cI cJ cC cG ++ [(cA, .char)]) s) : cC = cA :=
  Option.some.inj (((h.2 2 (cC, .char) rfl).2 : s.vm.findClass _ = some cC).symm.trans ((h2.2 4 (cA, .char) rfl).2 : s.vm.findClass _ = some cA))
theorem k_Ku_game {D : va_G} {cI cJ cC cG cA : ClassId} {s : State} (h : va_K D vwCl (kT cI cJ cC cG) s) (h2 : va_K D vwCl (kT cI cJ cC cG ++ [(cA, .object RX1)]) s) : cG = cA := by
  obtain ⟨-, -, -, -, -, h4⟩ := (h.2 3 (cG, .object "MagpieRuns$Game") rfl).2
  obtain ⟨-, -, -, -, -, h5⟩ := (h2.2 4 (cA, .object RX1) rfl).2
  exact Option.some.inj (h4.symm.trans h5)
def k_nil : List (String × Nat × MethodName) := [(RX9, 9, yX1_init), (RX2, 15, yX1_init), (RX9, 25, yX8_init), (RX9, 32, yX4_init), (RX4, 9, yX5_init)]
def k_G (U : State) : Prop := va_AO RX1 U ∧ ∀ q ∈ k_nil, va_Nw (.methodLinkNest q.1 q.2.1 q.2.2 RX9) U
theorem k_G.moved {s U : State} (hW : s.WarmedH U.vm) (h : k_G s) : k_G U := ⟨va_AO.moved hW.alike h.1, fun q hq => va_Nw.warmM hW (h.2 q hq)⟩
theorem k_G.same {u U : State} (hv : u.vm = U.vm) (hal : u.vm.Alike U.vm) (h : k_G u) : k_G U := ⟨va_AO.moved hal h.1, fun q hq => va_Nw.same rfl hv (h.2 q hq)⟩
def k_preN (D : va_G) (tys : k_TY) (sz : Nat) (W : va_W) (U : State) : Prop := k_pre D tys sz W U ∧ k_G U
theorem k_blindN {D : va_G} {tys : k_TY} {sz : Nat} {W : va_W} {av : List Value} : FrameBlind (va_Pc av (k_preN D tys sz W)) := fun a U g mk q => ⟨q.1, ⟨q.2.1.1, q.2.1.2.1, va_K.moved (u := U) (U := U.calling g mk a) (Vm.Alike.refl U.vm) q.2.1.2.2.1, q.2.1.2.2.2.1, k_N.same rfl q.2.1.2.2.2.2⟩, k_G.same (U := U.calling g mk a) rfl (Vm.Alike.refl U.vm) q.2.2⟩
abbrev k_Mn {S : Type} (l : Launch) (y : MethodName) (ws : List Cond) (rm : Room) (D : va_G) (tys : k_TY) (sz : Nat) (args : List Value) (W0 : va_W) (W1 : S → va_W) (mc ms : Nat) : Prop := Met l y ws rm (va_Pc args (k_preN D tys sz W0)) (va_Qv (fun (_ : S) => True) (fun u t => k_post D tys (va_A W0 sz) (W1 u) t) (va_A W0 sz)) mc ms (va_A W0 sz)
abbrev k_Qn {S : Type} (below : List Frame) (args : List Value) (D : va_G) (tys : k_TY) (s : State) (A : Nat → Prop) (W1 : S → va_W) (mc ms : Nat) : State → Prop := MQ below (va_Qv (fun (_ : S) => True) (fun u t => k_post D tys A (W1 u) t) A) args.toArray s mc ms A
theorem k_st_n {S : Type} {l : Launch} {y : MethodName} {ws ws' : List Cond} {rm : Room} {D : va_G} {tys : k_TY} {sz mc ms : Nat} {args : List Value} {W0 : va_W} {W1 : S → va_W} {cc : ByteArray} {maxL : Nat} {ret : Option FieldType} (hy : plainName y.cls = true) (hw : ws = Cond.code y cc maxL ret :: ws') (hlen : (lg_sl args).length ≤ maxL)
    (body : ∀ (p : Program) (e : Env) (s : State) (m : MethodId) (below : List Frame) (meth : Method) (c : Code) (A : Nat → Prop), p.tables.exec = Jvm.exec → c.code = cc → meth.sig.returnType = ret → c.maxLocals = maxL → (∀ w ∈ ws, w.before args.toArray s = true) → s.vm.findClass y.cls = some m.cls → meth.locks = false → sz = s.heap.size → k_N s → k_G s → meth.name = y.name → (∀ q, s.heap.size ≤ q → A q) → va_K D vwCl tys s → va_P D vwCl W0 s.heap → va_D A W0 → va_S A s.heap s.heap [] → ∀ ls : Array Slot, lv_has ls maxL (lv_args 0 args) → W p l e rm s m args.toArray below meth c s.heap [] 0 0 (k_Qn below args D tys s A W1 mc ms) (F0 m 0 ls [])) : k_Mn l y ws rm D tys sz args W0 W1 mc ms := by
  refine Met.ofW (cc := cc) (maxL := maxL) (ret := ret) hy hw ?_
  intro p e s m args' below meth c s₁ B hml hv
  obtain ⟨rfl, ⟨hsz, hP, hK, hD0, hN⟩, hG⟩ := hv
  subst hsz
  have hA : ∀ q : Nat, s.heap.size ≤ q → va_A W0 s.heap.size q := fun q h => Or.inr h
  have hl := lv_entry args (n := maxL) hlen
  rw [lg_entry_eq]
  exact body p e s m below meth c _ B.exec B.bytes B.returns hml (atoms_spec (ws := ws) B.pre) (findClass_of_methodNamed B.named) B.notSynchronized rfl hN hG (name_of_methodNamed B.named B.method).1 hA hK hP hD0.self va_S.rf _ hl
theorem k_end_n {S : Type} {V1 : S → va_W} (u : S) {p : Program} {l : Launch} {e : Env} {R : Room} {s : State} {m : MethodId} {args : List Value} {below : List Frame} {meth : Method} {c : Code} {H : Heap} {locs : List Loc} {cc : ByteArray} {pc : Nat} {ls : Array Slot} {D : va_G} {tys : k_TY} {A : Nat → Prop} {mc ms : Nat} (hx : p.tables.exec = Jvm.exec) (hb : c.code = cc) (hr : meth.sig.returnType = none) (hlocks : meth.locks = false) (hK : va_K D vwCl tys s) (hP : va_P D vwCl (V1 u) H) (hD : va_D A (V1 u)) (hS : va_S A s.heap H locs) (hdg : decode cc pc = .ok (.return_, 1)) : W p l e R s m args.toArray below meth c H locs mc ms (k_Qn below args D tys s A V1 mc ms) (F0 m pc ls []) :=
  W.vret hx hb hr (fun t ht hW => ⟨⟨u, rfl, trivial, by rw [ht]; exact hP, va_K.moved hW.alike hK, hD⟩, hS.F ht⟩) hS.2.2 hdg hlocks
section KN
variable {p : Program} {l : Launch} {e : Env} {R : Room} {s : State} {m : MethodId} {args : Array Value} {below : List Frame} {meth : Method} {c : Code} {H : Heap} {locs : List Loc} {cells slots : Nat} {Q : State → Prop}
variable {y : MethodName} {bytes cc : ByteArray} {maxL nL mc ms n index pc : Nat} {ret : Option FieldType} {ws : List Cond} {rm : Room} {Qc : Array Value → State → Outcome → State → Prop} {free : Addr → Prop} {Ts : List Cond} {own C : String} {b : Addr} {As rest st : List Value} {ls : Array Slot}
variable {D : va_G} {tys : k_TY} {W0 Wx : va_W} {A : Nat → Prop} {H0 : Heap} {a : Array Value}
theorem k_rI (S : CallFix p m c cc nL s args Ts own) (hK : va_K D vwCl tys s) (hN : k_N s) (hG : k_G s) (hP : va_P D vwCl W0 H) (hD : va_D A W0) (hM : Met l y ws rm (va_Pc (.ref b :: As) (k_preN D tys H.size W0)) Qc mc ms free) (cw : CallB R s args own index y bytes maxL none ws rm mc ms n ∧ y.name = "<init>" ∧ (Cond.instanceMethod y).before args s = true)
    (hn : As.length = n) (hsize : ls.size = nL) (hst : st = As.reverse ++ .ref b :: rest) (hW : (rest.map fun v => v.category).sum ≤ 8) (hdg : decode cc pc = .ok (.invokespecial index, 3)) (hf : cells + mc ≤ R.cells ∧ slots + ms ≤ R.slots) :
    va_Run p l e R s m args below meth c H locs cells slots mc ms (F0 m pc ls st) rest (Qc (Value.ref b :: As).toArray) free :=
  va_runI (As := As) (rest := rest) (g := F0 m pc ls st) S hM cw ⟨k_blindN, fun U hU hWm => ⟨rfl, ⟨by rw [hU], by rw [hU]; exact hP, va_K.moved hWm.alike hK, hD.weaken (fun _ _ _ _ => trivial), hN.moved hWm⟩, hG.moved hWm⟩⟩ rfl hn hsize hst (lv_room hW) hdg hf
theorem k_rIN {host : String} (S : CallFix p m c cc nL s args Ts own) (hK : va_K D vwCl tys s) (hN : k_N s) (hG : k_G s) (hP : va_P D vwCl W0 H) (hD : va_D A W0) (hM : Met l y ws rm (va_Pc (.ref b :: As) (k_preN D tys H.size W0)) Qc mc ms free) (cw : va_CN R s args own index y host bytes maxL none ws rm mc ms n ∧ y.name = "<init>" ∧ (Cond.instanceMethod y).before args s = true)
    (hn : As.length = n) (hsize : ls.size = nL) (hst : st = As.reverse ++ .ref b :: rest) (hW : (rest.map fun v => v.category).sum ≤ 8) (hdg : decode cc pc = .ok (.invokespecial index, 3)) (hf : cells + mc ≤ R.cells ∧ slots + ms ≤ R.slots) :
    va_Run p l e R s m args below meth c H locs cells slots mc ms (F0 m pc ls st) rest (Qc (Value.ref b :: As).toArray) free :=
  va_runIN (As := As) (rest := rest) (g := F0 m pc ls st) S hM cw ⟨k_blindN, fun U hU hWm => ⟨rfl, ⟨by rw [hU], by rw [hU]; exact hP, va_K.moved hWm.alike hK, hD.weaken (fun _ _ _ _ => trivial), hN.moved hWm⟩, hG.moved hWm⟩⟩ rfl hn hsize hst (lv_room hW) hdg hf
theorem k_n_c {S : Type} {V1 : S → va_W} (isC isR : List Nat) (hr : va_Run p l e R s m args below meth c H locs cells slots mc ms (F0 m pc ls st) rest (va_Qv (fun (_ : S) => True) (fun u t => k_post D tys (va_A W0 H.size) (V1 u) t) (va_A W0 H.size) a) (va_A W0 H.size)) (hP : va_P D vwCl Wx H) (hD : va_D A Wx) (hS : va_S A H0 H locs) (hA : ∀ q, H0.size ≤ q → A q)
    (hC : isC.map (fun i => Wx[i]?) = W0.map some) (hR : isR.map (fun i => Wx[i]?) = (k_pick Wx isR).map some) (hnd : va_nd isR = true) (hdis : ∀ i ∈ isR, i ∉ isC)
    (kk : ∀ (u : S) (H1 : Heap) (locs1 : List Loc), va_P D vwCl (k_pick Wx isR ++ V1 u) H1 → va_D A (k_pick Wx isR ++ V1 u) → va_S A H0 H1 locs1 → W p l e R s m args below meth c H1 locs1 (cells + mc) (slots + ms) Q (F0 m (pc + 3) ls rest)) : W p l e R s m args below meth c H locs cells slots Q (F0 m pc ls st) :=
  va_callv hr hS (fun q _ h => va_free hD hS hA isC hC q h) (va_free hD hS hA isC hC) (fun u t H1 locs1 ht hvm hp hB hz hk hS1 => by
    obtain ⟨hP1, hK1, hD1⟩ := hB
    rw [ht] at hP1
    obtain ⟨hP2, hD2⟩ := va_join hP hD isC isR hC hR hnd hdis hk (va_free hD hS hA isC hC) hP1 hD1
    exact kk u H1 locs1 hP2 hD2 hS1)
end KN
