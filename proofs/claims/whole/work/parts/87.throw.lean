/-! what a method throws: contracts where it throws, the worlds as they were -/
abbrev E_A : String := "java/lang/IllegalArgumentException"
abbrev E_S : String := "java/lang/IllegalStateException"
abbrev E_X : String := "java/lang/IndexOutOfBoundsException"
def k_badc : List (String × String) := [(E_A, E_A), (E_S, E_S), (E_X, E_X)]
def k_badd : List MethodName := [Bundle.init0 "java/lang/RuntimeException", Bundle.init0 "java/lang/Exception", Bundle.init0 Bundle.tN]
def k_badw : List Cond := k_badc.map (fun q => Cond.castable q.1 q.2) ++ k_badd.map (fun x => Cond.declares x)
def k_badn : List (String × String) := [(E_S, E_A), (E_A, E_X), (E_S, E_X)]
def k_bad (U : State) : Prop := (∀ q ∈ k_badc, va_Nw (.castable q.1 q.2) U) ∧ (∀ x ∈ k_badd, va_Nw (.declares x) U) ∧ ∀ q ∈ k_badn, va_Nc q.1 q.2 U
theorem k_bad.same {u U : State} (hv : u.vm = U.vm) (hal : u.vm.Alike U.vm) (h : k_bad u) : k_bad U := ⟨fun q hq => va_Nw.same rfl hv (h.1 q hq), fun x hx => va_Nw.same rfl hv (h.2.1 x hx), fun q hq => va_Nc.moved hal (h.2.2 q hq)⟩
theorem k_bad.moved {s U : State} (hW : s.WarmedH U.vm) (h : k_bad s) : k_bad U := ⟨fun q hq => va_Nw.warmC hW (h.1 q hq), fun x hx => va_Nw.warmD hW (h.2.1 x hx), fun q hq => va_Nc.moved hW.alike (h.2.2 q hq)⟩
theorem k_bad.word {s : State} {args : Array Value} (h : k_bad s) : ∀ w ∈ k_badw, w.before args s = true := by
  intro w hw
  rcases List.mem_append.mp hw with hw | hw
  · obtain ⟨q, hq, rfl⟩ := List.mem_map.mp hw
    exact va_Nw.use rfl (h.1 q hq)
  · obtain ⟨q, hq, rfl⟩ := List.mem_map.mp hw
    exact va_Nw.use rfl (h.2.1 q hq)
def k_stt (A : Nat → Prop) (U : State) : Prop := vx_Zq Bundle.tN "UNASSIGNED_STACK" Bundle.steD A U U.heap ∧ vx_Zq Bundle.tN "SUPPRESSED_SENTINEL" Bundle.listD A U U.heap ∧ k_bad U
def k_preT (D : va_G) (tys : k_TY) (sz : Nat) (W : va_W) (U : State) : Prop := k_pre D tys sz W U ∧ k_stt (va_A W sz) U
theorem k_blindT {D : va_G} {tys : k_TY} {sz : Nat} {W : va_W} {av : List Value} : FrameBlind (va_Pc av (k_preT D tys sz W)) := fun a U g mk q => ⟨q.1, ⟨q.2.1.1, q.2.1.2.1, va_K.moved (u := U) (U := U.calling g mk a) (Vm.Alike.refl U.vm) q.2.1.2.2.1, q.2.1.2.2.2.1, k_N.same rfl q.2.1.2.2.2.2⟩, vx_Zq.moved (u := U) (U := U.calling g mk a) (Vm.Alike.refl U.vm) q.2.2.1, vx_Zq.moved (u := U) (U := U.calling g mk a) (Vm.Alike.refl U.vm) q.2.2.2.1, k_bad.same (U := U.calling g mk a) rfl (Vm.Alike.refl U.vm) q.2.2.2.2⟩
abbrev k_XT (D : va_G) (tys : k_TY) (A : Nat → Prop) (W1 : va_W) (E : String) : String → State → State → Prop := vx_X (fun _ : Unit => True) (fun E' _ t => E' = E ∧ k_post D tys A W1 t) A
abbrev k_QT (below : List Frame) (args : List Value) (D : va_G) (tys : k_TY) (s : State) (A : Nat → Prop) (W1 : va_W) (E : String) : State → Prop := vx_MQ below (fun _ _ _ _ => False) (k_XT D tys A W1 E) args.toArray s 1 6 A
abbrev k_MT (l : Launch) (y : MethodName) (ws : List Cond) (rm : Room) (D : va_G) (tys : k_TY) (sz : Nat) (args : List Value) (W0 : va_W) (E : String) : Prop := vx_Met l y ws rm (va_Pc args (k_preT D tys sz W0)) (fun _ _ _ _ => False) (k_XT D tys (va_A W0 sz) W0 E) 1 6 (va_A W0 sz)
theorem k_st_T {l : Launch} {y : MethodName} {ws ws' : List Cond} {rm : Room} {D : va_G} {tys : k_TY} {sz : Nat} {args : List Value} {W0 : va_W} {E : String} {cc : ByteArray} {maxL : Nat} {ret : Option FieldType} (hy : plainName y.cls = true) (hw : ws = Cond.code y cc maxL ret :: ws') (hlen : (lg_sl args).length ≤ maxL)
    (body : ∀ (p : Program) (e : Env) (s : State) (m : MethodId) (below : List Frame) (meth : Method) (c : Code) (A : Nat → Prop), p.tables.exec = Jvm.exec → c.code = cc → meth.sig.returnType = ret → c.maxLocals = maxL → (∀ w ∈ ws, w.before args.toArray s = true) → s.vm.findClass y.cls = some m.cls → meth.locks = false → sz = s.heap.size → k_N s → (∀ q, s.heap.size ≤ q → A q) → va_K D vwCl tys s → va_P D vwCl W0 s.heap → va_D A W0 → va_S A s.heap s.heap [] → k_stt A s → (∀ x ∈ c.exceptionTable.toList, False) → ∀ ls : Array Slot, lv_has ls maxL (lv_args 0 args) → W p l e rm s m args.toArray below meth c s.heap [] 0 0 (k_QT below args D tys s A W0 E) (F0 m 0 ls [])) : k_MT l y ws rm D tys sz args W0 E := by
  refine vx_ofW (cc := cc) (maxL := maxL) (ret := ret) hy hw ?_
  intro p e s m args' below meth c s₁ B hml hex hv
  obtain ⟨rfl, ⟨hsz, hP, hK, hD0, hN⟩, hq⟩ := hv
  subst hsz
  have hA : ∀ q : Nat, s.heap.size ≤ q → va_A W0 s.heap.size q := fun q h => Or.inr h
  have hl := lv_entry args (n := maxL) hlen
  rw [lg_entry_eq]
  exact body p e s m below meth c _ B.exec B.bytes B.returns hml (atoms_spec (ws := ws) B.pre) (findClass_of_methodNamed B.named) B.notSynchronized rfl hN hA hK hP hD0.self va_S.rf hq hex _ hl
abbrev k_thn : List String := ["java/lang/RuntimeException", "java/lang/Exception"]
theorem k_throw {p : Program} {l : Launch} {e : Env} {R : Room} {s : State} {m : MethodId} {args : List Value} {below : List Frame} {meth : Method} {c : Code} {H : Heap} {locs : List Loc} {cc : ByteArray} {pc : Nat} {rest : List Value} {ls : Array Slot} {D : va_G} {tys : k_TY} {W0 : va_W} {A : Nat → Prop} {own cls : String} {ik ic : Nat}
    (hx : p.tables.exec = Jvm.exec) (hb : c.code = cc) (hst : l.stackTraces = false) (hown : s.vm.findClass own = some m.cls) (hk : (Cond.classLink own ik cls).before args.toArray s = true) (hini : (Cond.initialized cls).before args.toArray s = true)
    (h1 : ∀ w ∈ (vx_at0 own ic cls k_thn).filter goodWord, w.before args.toArray s = true) (h2 : ∀ w ∈ (vx_at0 own ic cls k_thn).filter (fun w => !goodWord w), w ∈ k_badw) (hgood : ∀ w ∈ Cond.classLink own ik cls :: Cond.initialized cls :: vx_at0 own ic cls k_thn, vx_ot w = true) (hcls : Bundle.fit cls = true ∧ ∀ n ∈ k_thn, Bundle.fit n = true)
    (hq : k_stt A s) (hS : va_S A s.heap H locs) (hsize : ls.size = c.maxLocals)
    (d0 : decode cc pc = .ok (.new ik, 3)) (d3 : decode cc (pc + 3) = .ok (.dup, 1)) (d4 : decode cc (pc + 4) = .ok (.invokespecial ic, 3)) (d7 : decode cc (pc + 7) = .ok (.athrow, 1))
    (hout : ∀ x ∈ c.exceptionTable.toList, covers x (pc + 7) = false) (hRf : 6 ≤ R.frames) (hRl : (rest.map fun v => v.category).sum + 81 ≤ R.locals) (hRc : 1 ≤ R.cells) (hRs : 6 ≤ R.slots) (hlocks : meth.locks = false)
    (hK : va_K D vwCl tys s) (hP : va_P D vwCl W0 H) (hD : va_D A W0) : W p l e R s m args.toArray below meth c H locs 0 0 (k_QT below args D tys s A W0 cls) (F0 m pc ls rest) := by
  have hat : ∀ w ∈ vx_at0 own ic cls k_thn, w.before args.toArray s = true := vx_hat h1 h2 hq.2.2.word
  refine vx_throw0 (names := k_thn) (ik := ik) (ic := ic) hx hb hst hown hcls.1 hcls.2 hk hini hat hgood hq.1 hq.2.1 hS hsize d0 d3 d4 d7 hout ?_ ?_ ?_ ?_ hlocks ?_ hS.2.2 ?_ ?_
  · show 2 + 3 < R.frames
    omega
  · show _ + (13 * (2 + 1) + 42) ≤ R.locals
    omega
  · omega
  · omega
  · intro t hal hz hkeep
    refine ⟨(), trivial, ⟨rfl, hP.kept (fun k q hq2 => hkeep q.1 (hP k q hq2).lt), va_K.moved hal hK, hD⟩, Nat.le_trans hS.1 hz, fun q h1 h2 => ?_⟩
    rw [hkeep q (Nat.lt_of_lt_of_le h1 hS.1)]
    exact hS.2.1 q h1 h2
  · exact Nat.le_refl _
  · exact Nat.le_refl _
