/-! the law's own small methods, which catch -/
theorem k_ofWH {l : Launch} {y : MethodName} {ws ws' : List Cond} {rm : Room} {Pc : Array Value → State → Prop} {Qc : Array Value → State → Outcome → State → Prop} {mc ms : Nat} {free : Addr → Prop} {cc : ByteArray} {maxL : Nat} {ret : Option FieldType} {hh : List (Nat × Nat × Nat × Nat)}
    (hy : plainName y.cls = true) (hw : ws = Cond.codeWith y cc maxL ret hh :: ws')
    (body : ∀ p e s m args below meth c s₁, BodyLoose p l y (headSpec ws rm) cc maxL ret e s m args below meth c s₁ → c.maxLocals = maxL → Pc args s →
      W p l e (headSpec ws rm).room s m args below meth c s.heap [] 0 0 (MQ below Qc args s mc ms free) (entryFrame m args maxL)) : Met l y ws rm Pc Qc mc ms free := by
  refine MetFree.of_bodyS (code := cc) (maxLocals := maxL) (ret := ret) hy ?_ ?_
  · intro args s m h hn
    obtain ⟨m9, meth, c, hn9, h1, h2, h3, h4, -, h5, h6, -⟩ := Cond.codeWith_spec (atoms_spec (ws := ws) h _ (by rw [hw]; exact List.mem_cons_self))
    cases hn.symm.trans hn9
    exact ⟨meth, c, h1, h2, h3, h4, h5, h6⟩
  · intro p e s m args below meth c s₁ B hml hP _
    have hh0 : s₁.heap = s.heap := by rw [B.state]; rfl
    obtain ⟨t, a1, o, b1, b2, b3⟩ := body p e s m args below meth c s₁ B hml hP s₁ hh0 (Stand.of_body B)
    exact ⟨t, o, a1, b1, b2, ⟨b3.1, b3.2⟩⟩
theorem k_st_iH {S : Type} {l : Launch} {y : MethodName} {ws ws' : List Cond} {rm : Room} {D : va_G} {tys : k_TY} {sz : Nat} {args : List Value} {W0 : va_W} {W1 : S → va_W} {r : Int32} {cc : ByteArray} {maxL : Nat} {ret : Option FieldType} {hh : List (Nat × Nat × Nat × Nat)} (hy : plainName y.cls = true) (hw : ws = Cond.codeWith y cc maxL ret hh :: ws') (hlen : (lg_sl args).length ≤ maxL)
    (body : ∀ (p : Program) (e : Env) (s : State) (m : MethodId) (below : List Frame) (meth : Method) (c : Code) (A : Nat → Prop), p.tables.exec = Jvm.exec → c.code = cc → meth.sig.returnType = ret → c.maxLocals = maxL → (∀ w ∈ ws, w.before args.toArray s = true) → s.vm.findClass y.cls = some m.cls → meth.locks = false → sz = s.heap.size → k_N s → (∀ q, s.heap.size ≤ q → A q) → va_K D vwCl tys s → va_P D vwCl W0 s.heap → va_D A W0 → va_S A s.heap s.heap [] → ∀ ls : Array Slot, lv_has ls maxL (lv_args 0 args) → W p l e rm s m args.toArray below meth c s.heap [] 0 0 (k_QiE below args D tys s A W1 r) (F0 m 0 ls [])) : k_MiE l y ws rm D tys sz args W0 W1 r := by
  refine k_ofWH (cc := cc) (maxL := maxL) (ret := ret) hy hw ?_
  intro p e s m args' below meth c s₁ B hml hv
  obtain ⟨rfl, hsz, hP, hK, hD0, hN⟩ := hv
  subst hsz
  have hA : ∀ q : Nat, s.heap.size ≤ q → va_A W0 s.heap.size q := fun q h => Or.inr h
  have hl := lv_entry args (n := maxL) hlen
  rw [lg_entry_eq]
  exact body p e s m below meth c _ B.exec B.bytes B.returns hml (atoms_spec (ws := ws) B.pre) (findClass_of_methodNamed B.named) B.notSynchronized rfl hN hA hK hP hD0.self va_S.rf _ hl
abbrev k_QiX (below : List Frame) (args : List Value) (D : va_G) (tys : k_TY) (s : State) (A : Nat → Prop) (W1 : va_W) (r : Int32) : State → Prop := MQ below (va_Qi (fun (r' : Int32) (_ : Unit) => r' = r) (fun _ t => k_post D tys A W1 t) A) args.toArray s 1 6 A
abbrev k_MiX (l : Launch) (y : MethodName) (ws : List Cond) (rm : Room) (D : va_G) (tys : k_TY) (sz : Nat) (args : List Value) (W0 : va_W) (r : Int32) : Prop := Met l y ws rm (va_Pc args (k_preT D tys sz W0)) (va_Qi (fun (r' : Int32) (_ : Unit) => r' = r) (fun _ t => k_post D tys (va_A W0 sz) W0 t) (va_A W0 sz)) 1 6 (va_A W0 sz)
theorem k_st_iX {l : Launch} {y : MethodName} {ws ws' : List Cond} {rm : Room} {D : va_G} {tys : k_TY} {sz : Nat} {args : List Value} {W0 : va_W} {r : Int32} {cc : ByteArray} {maxL : Nat} {ret : Option FieldType} {hh : List (Nat × Nat × Nat × Nat)} (hy : plainName y.cls = true) (hw : ws = Cond.codeWith y cc maxL ret hh :: ws') (hlen : (lg_sl args).length ≤ maxL)
    (body : ∀ (p : Program) (e : Env) (s : State) (m : MethodId) (below : List Frame) (meth : Method) (c : Code) (A : Nat → Prop), p.tables.exec = Jvm.exec → c.code = cc → meth.sig.returnType = ret → c.maxLocals = maxL → (∀ w ∈ ws, w.before args.toArray s = true) → s.vm.findClass y.cls = some m.cls → meth.locks = false → sz = s.heap.size → k_N s → (∀ q, s.heap.size ≤ q → A q) → va_K D vwCl tys s → va_P D vwCl W0 s.heap → va_D A W0 → va_S A s.heap s.heap [] → k_stt A s → c.exceptionTable.toList = tableOf hh → ∀ ls : Array Slot, lv_has ls maxL (lv_args 0 args) → W p l e rm s m args.toArray below meth c s.heap [] 0 0 (k_QiX below args D tys s A W0 r) (F0 m 0 ls [])) : k_MiX l y ws rm D tys sz args W0 r := by
  refine k_ofWH (cc := cc) (maxL := maxL) (ret := ret) hy hw ?_
  intro p e s m args' below meth c s₁ B hml hv
  obtain ⟨rfl, ⟨hsz, hP, hK, hD0, hN⟩, hq⟩ := hv
  subst hsz
  have hA : ∀ q : Nat, s.heap.size ≤ q → va_A W0 s.heap.size q := fun q h => Or.inr h
  have hl := lv_entry args (n := maxL) hlen
  have hts := atoms_spec (ws := ws) B.pre
  rw [lg_entry_eq]
  exact body p e s m below meth c _ B.exec B.bytes B.returns hml hts (findClass_of_methodNamed B.named) B.notSynchronized rfl hN hA hK hP hD0.self va_S.rf hq (vx_table (x := y) B (hts _ (by rw [hw]; exact List.mem_cons_self))) _ hl
theorem k_end_iX {p : Program} {l : Launch} {e : Env} {R : Room} {s : State} {m : MethodId} {args : List Value} {below : List Frame} {meth : Method} {c : Code} {H : Heap} {locs : List Loc} {cc : ByteArray} {pc : Nat} {ls : Array Slot} {D : va_G} {tys : k_TY} {W1 : va_W} {A : Nat → Prop} {r : Int32} (hx : p.tables.exec = Jvm.exec) (hb : c.code = cc) (hr : meth.sig.returnType = some .int) (hlocks : meth.locks = false) (hK : va_K D vwCl tys s) (hP : va_P D vwCl W1 H) (hD : va_D A W1) (hS : va_S A s.heap H locs) (hdg : decode cc pc = .ok (.ireturn, 1)) : W p l e R s m args.toArray below meth c H locs 1 6 (k_QiX below args D tys s A W1 r) (F0 m pc ls [.int r]) :=
  W.iret (v := r) hx hb hr (fun t ht hW => ⟨⟨r, (), rfl, rfl, by rw [ht]; exact hP, va_K.moved hW.alike hK, hD⟩, hS.F ht⟩) hS.2.2 hdg hlocks
section KX
variable {p : Program} {l : Launch} {e : Env} {R : Room} {s : State} {m : MethodId} {args : Array Value} {below : List Frame} {meth : Method} {c : Code} {H : Heap} {locs : List Loc} {cells slots : Nat} {Q : State → Prop}
variable {y : MethodName} {bytes cc : ByteArray} {maxL nL mc ms n index pc : Nat} {ret : Option FieldType} {ws : List Cond} {rm : Room} {Qc : Array Value → State → Outcome → State → Prop} {XC : String → State → State → Prop} {free : Addr → Prop} {Ts : List Cond} {own C : String} {b : Addr} {As rest st : List Value} {ls : Array Slot}
variable {D : va_G} {tys : k_TY} {W0 Wx : va_W} {A : Nat → Prop} {H0 : Heap} {a : Array Value}
theorem k_stt_at {s U : State} {A A' : Nat → Prop} {locs : List Loc} {H : Heap} (hq : k_stt A s) (hS : va_S A s.heap H locs) (hU : U.heap = H) (hW : s.WarmedH U.vm) (hAA : ∀ q, A' q → A q) : k_stt A' U := by
  refine ⟨?_, ?_, k_bad.moved hW hq.2.2⟩
  · rw [hU]; exact vx_Zq.narrow (vx_Zq.moved hW.alike (vx_Zq.kept hq.1 hS.2.1)) hAA
  · rw [hU]; exact vx_Zq.narrow (vx_Zq.moved hW.alike (vx_Zq.kept hq.2.1 hS.2.1)) hAA
theorem k_rT {T : u_T} {N ci : Nat} {fs : List Value} (S : CallFix p m c cc nL s args Ts own) (hK : va_K D vwCl tys s) (hN : k_N s) (hq : k_stt A s) (hS : va_S A s.heap H locs) (hAA : ∀ q, va_A W0 H.size q → A q) (hP : va_P D vwCl W0 H) (hD : va_D A W0) (hM : vx_Met l y ws rm (va_Pc (.ref b :: As) (k_preT D tys H.size W0)) Qc XC mc ms free) (cw : CallW R s args own C index y bytes maxL ret ws rm mc ms n)
    (he : W0[0]? = some (b, .inr (ci, fs))) (hcl : vwCl[ci]? = some (C, T, N))
    (hn : As.length = n) (hsize : ls.size = nL) (hst : st = As.reverse ++ .ref b :: rest) (hW : (rest.map fun v => v.category).sum ≤ 8) (hdg : decode cc pc = .ok (.invokevirtual index, 3)) (hf : cells + mc ≤ R.cells ∧ slots + ms ≤ R.slots) :
    vx_Run p l e R s m args below meth c H locs cells slots mc ms (F0 m pc ls st) rest (Qc (Value.ref b :: As).toArray) XC free :=
  vx_runV (As := As) (rest := rest) (g := F0 m pc ls st) S hM cw ⟨k_blindT, va_recv hK hP hcl he, fun U hU hWm => ⟨rfl, ⟨by rw [hU], by rw [hU]; exact hP, va_K.moved hWm.alike hK, hD.weaken (fun _ _ _ _ => trivial), hN.moved hWm⟩, k_stt_at hq hS hU hWm hAA⟩⟩ rfl hn hsize hst (lv_room hW) hdg hf
theorem k_x_c {E : String} (isC isR isF : List Nat) (hr : vx_Run p l e R s m args below meth c H locs 0 0 1 6 (F0 m pc ls st) rest (fun _ _ _ => False) (k_XT D tys (va_A W0 H.size) W0 E) (va_A W0 H.size)) (hP : va_P D vwCl Wx H) (hD : va_D A Wx) (hS : va_S A H0 H locs) (hA : ∀ q, H0.size ≤ q → A q)
    (hC : isC.map (fun i => Wx[i]?) = W0.map some) (hR : isR.map (fun i => Wx[i]?) = (k_pick Wx isR).map some) (hnd : va_nd isR = true) (hdis : ∀ i ∈ isR, i ∉ isC) (hF : isF.map (fun i => (k_pick Wx isR ++ W0)[i]?) = Wx.map some) (hnF : va_nd isF = true)
    (kx : ∀ (ce : Cell) (q9 : Addr) (H1 : Heap) (locs1 : List Loc), va_P D vwCl Wx H1 → va_D A Wx → va_S A H0 H1 locs1 → H1[q9]? = some ce → ce.vm = .none → s.vm.findClass E = some ce.cls → vx_W p l e R s m args below meth c H1 locs1 1 6 Q (F0 m pc ls rest) q9) : W p l e R s m args below meth c H locs 0 0 Q (F0 m pc ls st) := by
  intro T hT X
  rcases hr T hT X with ⟨v, st₀, t, T', L, h0, X', hL, e1, e2, hf, st⟩ | ⟨q, st₀, t, T', L, E', ce, h0, X', hL, e1, e2, ⟨u, -, ⟨hE, hB⟩, hF9⟩, hce, hcv, hcl, st⟩
  · exact hf.elim
  · subst hE
    have hfr := va_free hD hS hA isC hC
    obtain ⟨k1, k2, k3⟩ := vx_keep h0 e1 hS (fun q _ h => hfr q h) hfr hL hF9
    obtain ⟨hP1, hK1, hD1⟩ := hB
    rw [← e1] at hP1
    obtain ⟨hP2, hD2⟩ := va_join hP hD isC isR hC hR hnd hdis k2 hfr hP1 hD1
    obtain ⟨t2, a1, b1⟩ := kx ce q T'.heap (locs ++ L) (k_Psub hP2 isF hF) (hD2.sub isF hnF hF) k3 (by rw [e1]; exact hce) hcv hcl T' rfl X'
    exact ⟨t2, st.trans a1, b1⟩
end KX
abbrev wO (cJ : ClassId) (oa : Nat) (out : Nat → Int64) : va_W := [(oa, .inl (cJ, 1, .inr (.inl out)))]
theorem kv_01 : vp_in 0 1 := show ¬ (_ ∨ _) by decide +kernel
def k_z1 (b : Bool) : Int64 := if k_b b = 0 then 0 else 1
