/-! the class Past: what its methods do, told by hand (the games stand at addresses q, which dropOldest turns round) -/
theorem k_q_s {p : Program} {l : Launch} {e : Env} {R : Room} {s : State} {m : MethodId} {args : Array Value} {below : List Frame} {meth : Method} {c : Code} {H : Heap} {locs : List Loc} {cells slots : Nat} {Q : State → Prop} {pc : Nat} {rest st : List Value} {ls : Array Slot} {D : va_G} {tys : k_TY} {W0 W1 : va_W} {A : Nat → Prop} {H0 : Heap} {a : Array Value} {r : Option Nat}
    (hr : va_Run p l e R s m args below meth c H locs cells slots 0 0 (F0 m pc ls st) rest (va_Qq (fun (r' : Option Nat) (_ : Unit) => r' = r) (fun _ t => k_post D tys (va_A W0 H.size) W1 t) (va_A W0 H.size) a) (va_A W0 H.size)) (hD : va_D A W0) (hS : va_S A H0 H locs) (hA : ∀ q, H0.size ≤ q → A q)
    (kk : ∀ (H1 : Heap) (locs1 : List Loc), va_P D vwCl W1 H1 → va_D A W1 → va_S A H0 H1 locs1 → W p l e R s m args below meth c H1 locs1 cells slots Q (F0 m (pc + 3) ls (va_rf r :: rest))) : W p l e R s m args below meth c H locs cells slots Q (F0 m pc ls st) :=
  va_callq hr hS (fun q _ h => k_fr hD hS hA q h) (k_fr hD hS hA) (fun r' u t H1 locs1 ht hvm hp hB hz hk hS1 => by subst hp; exact kk H1 locs1 (by rw [← ht]; exact hB.1) (hB.2.2.weaken (fun k q _ h => k_fr hD hS hA q.1 h)) hS1)
abbrev k_Mq (l : Launch) (y : MethodName) (ws : List Cond) (rm : Room) (D : va_G) (tys : k_TY) (sz : Nat) (args : List Value) (W0 W1 : va_W) (r : Option Nat) : Prop := Met l y ws rm (va_Pc args (k_pre D tys sz W0)) (va_Qq (fun (r' : Option Nat) (_ : Unit) => r' = r) (fun _ t => k_post D tys (va_A W0 sz) W1 t) (va_A W0 sz)) 0 0 (va_A W0 sz)
abbrev k_Qq (below : List Frame) (args : List Value) (D : va_G) (tys : k_TY) (s : State) (A : Nat → Prop) (W1 : va_W) (r : Option Nat) : State → Prop := MQ below (va_Qq (fun (r' : Option Nat) (_ : Unit) => r' = r) (fun _ t => k_post D tys A W1 t) A) args.toArray s 0 0 A
theorem k_st_q {l : Launch} {y : MethodName} {ws ws' : List Cond} {rm : Room} {D : va_G} {tys : k_TY} {sz : Nat} {args : List Value} {W0 W1 : va_W} {r : Option Nat} {cc : ByteArray} {maxL : Nat} {ret : Option FieldType} (hy : plainName y.cls = true) (hw : ws = Cond.code y cc maxL ret :: ws') (hlen : (lg_sl args).length ≤ maxL)
    (body : ∀ (p : Program) (e : Env) (s : State) (m : MethodId) (below : List Frame) (meth : Method) (c : Code) (A : Nat → Prop), p.tables.exec = Jvm.exec → c.code = cc → meth.sig.returnType = ret → c.maxLocals = maxL → (∀ w ∈ ws, w.before args.toArray s = true) → s.vm.findClass y.cls = some m.cls → meth.locks = false → sz = s.heap.size → k_N s → (∀ q, s.heap.size ≤ q → A q) → va_K D vwCl tys s → va_P D vwCl W0 s.heap → va_D A W0 → va_S A s.heap s.heap [] → ∀ ls : Array Slot, lv_has ls maxL (lv_args 0 args) → W p l e rm s m args.toArray below meth c s.heap [] 0 0 (k_Qq below args D tys s A W1 r) (F0 m 0 ls [])) : k_Mq l y ws rm D tys sz args W0 W1 r := by
  refine Met.ofW (cc := cc) (maxL := maxL) (ret := ret) hy hw ?_
  intro p e s m args' below meth c s₁ B hml hv
  obtain ⟨rfl, hsz, hP, hK, hD0, hN⟩ := hv
  subst hsz
  have hA : ∀ q : Nat, s.heap.size ≤ q → va_A W0 s.heap.size q := fun q h => Or.inr h
  have hl := lv_entry args (n := maxL) hlen
  rw [lg_entry_eq]
  exact body p e s m below meth c _ B.exec B.bytes B.returns hml (atoms_spec (ws := ws) B.pre) (findClass_of_methodNamed B.named) B.notSynchronized rfl hN hA hK hP hD0.self va_S.rf _ hl
theorem k_end_q {p : Program} {l : Launch} {e : Env} {R : Room} {s : State} {m : MethodId} {args : List Value} {below : List Frame} {meth : Method} {c : Code} {H : Heap} {locs : List Loc} {cc : ByteArray} {pc : Nat} {ls : Array Slot} {D : va_G} {tys : k_TY} {W1 : va_W} {A : Nat → Prop} {n : String} (r : Option Nat) (hx : p.tables.exec = Jvm.exec) (hb : c.code = cc) (hr : meth.sig.returnType = some (.object n)) (hlocks : meth.locks = false) (hK : va_K D vwCl tys s) (hP : va_P D vwCl W1 H) (hD : va_D A W1) (hS : va_S A s.heap H locs) (hdg : decode cc pc = .ok (.areturn, 1)) : W p l e R s m args.toArray below meth c H locs 0 0 (k_Qq below args D tys s A W1 r) (F0 m pc ls [va_rf r]) :=
  W.aret hx hb hr (Or.inl ⟨n, rfl⟩) (va_rf_or r) (fun t ht hW => ⟨⟨r, (), rfl, rfl, by rw [ht]; exact hP, va_K.moved hW.alike hK, hD⟩, hS.F ht⟩) hS.2.2 hdg hlocks
section KQ
variable {p : Program} {l : Launch} {e : Env} {R : Room} {s : State} {m : MethodId} {args : Array Value} {below : List Frame} {meth : Method} {c : Code} {H : Heap} {locs : List Loc} {cells slots : Nat} {Q : State → Prop} {cc : ByteArray} {pc : Nat} {rest : List Value} {ls : Array Slot} {D : va_G} {tys : k_TY} {Wx : va_W} {A : Nat → Prop} {H0 : Heap} {ea : Nat}
theorem k_qald (hexec : p.tables.exec = Jvm.exec) (hb : c.code = cc) (hK : va_K D vwCl tys s) (hP : va_P D vwCl Wx H) (q0 t0 : Nat) {cA : ClassId} {C : String} {n j : Nat} {f : Nat → Option Nat} (ha : Wx[q0]? = some (ea, .inl (cA, n, .inr (.inr (.inr (.inr f)))))) (ht : tys[t0]? = some (cA, .object C)) {i : Int32} (hi : i.toNatClampNeg = j) (hin : vp_in i n) (hdg : decode cc pc = .ok (.aaload, 1))
    (kk : W p l e R s m args below meth c H locs cells slots Q (F0 m (pc + 1) ls (va_rf (f j) :: rest))) : W p l e R s m args below meth c H locs cells slots Q (F0 m pc ls (.int i :: .ref ea :: rest)) := by
  subst hi
  exact va_aldq hexec hb hK hP q0 t0 ha ht hin hdg kk
theorem k_qast (hexec : p.tables.exec = Jvm.exec) (hb : c.code = cc) (hK : va_K D vwCl tys s) (hP : va_P D vwCl Wx H) (hD : va_D A Wx) (hS : va_S A H0 H locs) (q0 t0 qk ci : Nat) {cA : ClassId} {r : vw_C} {n v j : Nat} {vs : List Value} {f : Nat → Option Nat} (ha : Wx[q0]? = some (ea, .inl (cA, n, .inr (.inr (.inr (.inr f)))))) (ht : tys[t0]? = some (cA, .object r.1)) (hv : Wx[qk]? = some (v, .inr (ci, vs))) (hc : vwCl[ci]? = some r) {i : Int32} (hi : i.toNatClampNeg = j) (hin : vp_in i n) (hdg : decode cc pc = .ok (.aastore, 1))
    (kk : ∀ (H1 : Heap) (locs1 : List Loc), va_P D vwCl (Wx.set q0 (ea, .inl (cA, n, .inr (.inr (.inr (.inr (va_up f j (some v)))))))) H1 → va_D A (Wx.set q0 (ea, .inl (cA, n, .inr (.inr (.inr (.inr (va_up f j (some v)))))))) → va_S A H0 H1 locs1 → W p l e R s m args below meth c H1 locs1 cells slots Q (F0 m (pc + 1) ls rest)) : W p l e R s m args below meth c H locs cells slots Q (F0 m pc ls (.ref v :: .int i :: .ref ea :: rest)) := by
  subst hi
  exact va_astq hexec hb hK hP hD hS q0 t0 qk ci ha ht hv hc hin hdg kk
end KQ
abbrev wPr (cG : ClassId) (ap q : Nat → Nat) (fa : Nat → Option Nat) (hn : Nat) (hasS : Bool) (cnt : Int32) (snp : GT) (G : Nat → GT) (c_mover : Int32) (c_phase : Int32) (c_dice : Int32) (c_stake : Int32) (c_cube : Int32) (c_pieces0 : Int64) (c_pieces1 : Int64) (c_score0 : Int32) (c_score1 : Int32) (c_hits0 : Int32) (c_hits1 : Int32) (c_stopped : Bool) (c_stopPart : Int32) : va_W := [(ap 0, .inr (1, [.ref (ap 1), .ref (ap 2), .int (k_b hasS), .int cnt])), (ap 1, .inl (cG, 5, .inr (.inr (.inr (.inr fa))))), (ap 2, gE snp), (q 0, gE (G 0)), (q 1, gE (G 1)), (q 2, gE (G 2)), (q 3, gE (G 3)), (q 4, gE (G 4)), (hn, .inr (0, [.int c_mover, .int c_phase, .int c_dice, .int c_stake, .int c_cube, .long c_pieces0, .long c_pieces1, .int c_score0, .int c_score1, .int c_hits0, .int c_hits1, .int (k_b c_stopped), .int c_stopPart]))]
theorem kq_0 : Int32.toNatClampNeg 0 = 0 := by decide +kernel
theorem kq_1 : Int32.toNatClampNeg 1 = 1 := by decide +kernel
theorem kq_2 : Int32.toNatClampNeg 2 = 2 := by decide +kernel
theorem kq_3 : Int32.toNatClampNeg 3 = 3 := by decide +kernel
theorem kq_4 : Int32.toNatClampNeg 4 = 4 := by decide +kernel
theorem kv_0 : vp_in 0 5 := show ¬ (_ ∨ _) by decide +kernel
theorem kv_1 : vp_in 1 5 := show ¬ (_ ∨ _) by decide +kernel
theorem kv_2 : vp_in 2 5 := show ¬ (_ ∨ _) by decide +kernel
theorem kv_3 : vp_in 3 5 := show ¬ (_ ∨ _) by decide +kernel
theorem kv_4 : vp_in 4 5 := show ¬ (_ ∨ _) by decide +kernel
abbrev rmX2_gameAt : Room := { frames := 1, cells := 0, slots := 0, locals := 12 }
set_option maxHeartbeats 4000000 in
set_option maxRecDepth 100000 in
theorem zX2_gameAt0 {l : Launch} {D : va_G} {cI cJ cC cG : ClassId} {sz : Nat} {ap q : Nat → Nat} {hn : Nat} {hasS : Bool} {cnt : Int32} {snp : GT} {G : Nat → GT} {c_mover : Int32} {c_phase : Int32} {c_dice : Int32} {c_stake : Int32} {c_cube : Int32} {c_pieces0 : Int64} {c_pieces1 : Int64} {c_score0 : Int32} {c_score1 : Int32} {c_hits0 : Int32} {c_hits1 : Int32} {c_stopped : Bool} {c_stopPart : Int32} : k_Mq l yX2_gameAt wsX2_gameAt rmX2_gameAt D (kT cI cJ cC cG) sz ([.ref (ap 0), .int 0] : List Value) (wPa cG ap q hn hasS cnt snp G c_mover c_phase c_dice c_stake c_cube c_pieces0 c_pieces1 c_score0 c_score1 c_hits0 c_hits1 c_stopped c_stopPart) (wPa cG ap q hn hasS cnt snp G c_mover c_phase c_dice c_stake c_cube c_pieces0 c_pieces1 c_score0 c_score1 c_hits0 c_hits1 c_stopped c_stopPart) (some (q 0)) := by
  refine k_st_q (cc := cX2_gameAt) (maxL := 2) (by decide) rfl (Nat.le_of_ble_eq_true rfl) ?_
  intro p e z m below meth c A hx hb hr hml hts hown hlocks hsz hN hA hK hP hD hS ls hl
  have hown : z.vm.findClass RX2 = some m.cls := hown
  have hinX2 : ∀ w ∈ wsX20, w ∈ wsX2_gameAt := by decide +kernel
  have fl11 := hts (.fieldLink RX2 11 "MagpieRuns$Past" "saved" "[LMagpieRuns$Game;") (by decide +kernel)
  have hl : lv_has ls 2 [(0, .ref (ap 0)), (1, .int 0)] := hl
  refine lv_iload_n hx hb dX2_gameAt_0 rfl (lv_at hl 1 rfl) ?_
  refine lv_if_lt (tgt := 18) hx hb dX2_gameAt_1 (by decide) (fun cc => absurd cc (by decide)) (fun cc => ?_)
  refine lv_iload_n hx hb dX2_gameAt_4 rfl (lv_at hl 1 rfl) ?_
  refine lv_iconst (v := 5) hx hb dX2_gameAt_5 (by decide) ?_
  refine lv_icmp_ge (tgt := 18) hx hb dX2_gameAt_6 (by decide) (fun cc => absurd cc (by decide)) (fun cc => ?_)
  refine lv_aload_n hx hb dX2_gameAt_9 rfl (lv_at hl 0 rfl) ?_
  refine va_get (D := D) (ci := 1) (v := .ref (ap 1)) (C := RX2) (T := TX2) (N := 4) hx hb hts hinX2 hown hK hP 0 rfl rfl 0 (by decide) fl11 (fun _ h9 => h9) rfl dX2_gameAt_10 ?_
  refine lv_iload_n hx hb dX2_gameAt_13 rfl (lv_at hl 1 rfl) ?_
  refine k_qald hx hb hK hP 1 3 rfl rfl kq_0 kv_0 dX2_gameAt_14 ?_
  refine lv_goto (tgt := 19) hx hb dX2_gameAt_15 (by decide) ?_
  exact k_end_q (some (q 0)) hx hb hr hlocks hK hP hD hS dX2_gameAt_19
set_option maxHeartbeats 4000000 in
set_option maxRecDepth 100000 in
theorem zX2_gameAt1 {l : Launch} {D : va_G} {cI cJ cC cG : ClassId} {sz : Nat} {ap q : Nat → Nat} {hn : Nat} {hasS : Bool} {cnt : Int32} {snp : GT} {G : Nat → GT} {c_mover : Int32} {c_phase : Int32} {c_dice : Int32} {c_stake : Int32} {c_cube : Int32} {c_pieces0 : Int64} {c_pieces1 : Int64} {c_score0 : Int32} {c_score1 : Int32} {c_hits0 : Int32} {c_hits1 : Int32} {c_stopped : Bool} {c_stopPart : Int32} : k_Mq l yX2_gameAt wsX2_gameAt rmX2_gameAt D (kT cI cJ cC cG) sz ([.ref (ap 0), .int 1] : List Value) (wPa cG ap q hn hasS cnt snp G c_mover c_phase c_dice c_stake c_cube c_pieces0 c_pieces1 c_score0 c_score1 c_hits0 c_hits1 c_stopped c_stopPart) (wPa cG ap q hn hasS cnt snp G c_mover c_phase c_dice c_stake c_cube c_pieces0 c_pieces1 c_score0 c_score1 c_hits0 c_hits1 c_stopped c_stopPart) (some (q 1)) := by
  refine k_st_q (cc := cX2_gameAt) (maxL := 2) (by decide) rfl (Nat.le_of_ble_eq_true rfl) ?_
  intro p e z m below meth c A hx hb hr hml hts hown hlocks hsz hN hA hK hP hD hS ls hl
  have hown : z.vm.findClass RX2 = some m.cls := hown
  have hinX2 : ∀ w ∈ wsX20, w ∈ wsX2_gameAt := by decide +kernel
  have fl11 := hts (.fieldLink RX2 11 "MagpieRuns$Past" "saved" "[LMagpieRuns$Game;") (by decide +kernel)
  have hl : lv_has ls 2 [(0, .ref (ap 0)), (1, .int 1)] := hl
  refine lv_iload_n hx hb dX2_gameAt_0 rfl (lv_at hl 1 rfl) ?_
  refine lv_if_lt (tgt := 18) hx hb dX2_gameAt_1 (by decide) (fun cc => absurd cc (by decide)) (fun cc => ?_)
  refine lv_iload_n hx hb dX2_gameAt_4 rfl (lv_at hl 1 rfl) ?_
  refine lv_iconst (v := 5) hx hb dX2_gameAt_5 (by decide) ?_
  refine lv_icmp_ge (tgt := 18) hx hb dX2_gameAt_6 (by decide) (fun cc => absurd cc (by decide)) (fun cc => ?_)
  refine lv_aload_n hx hb dX2_gameAt_9 rfl (lv_at hl 0 rfl) ?_
  refine va_get (D := D) (ci := 1) (v := .ref (ap 1)) (C := RX2) (T := TX2) (N := 4) hx hb hts hinX2 hown hK hP 0 rfl rfl 0 (by decide) fl11 (fun _ h9 => h9) rfl dX2_gameAt_10 ?_
  refine lv_iload_n hx hb dX2_gameAt_13 rfl (lv_at hl 1 rfl) ?_
  refine k_qald hx hb hK hP 1 3 rfl rfl kq_1 kv_1 dX2_gameAt_14 ?_
  refine lv_goto (tgt := 19) hx hb dX2_gameAt_15 (by decide) ?_
  exact k_end_q (some (q 1)) hx hb hr hlocks hK hP hD hS dX2_gameAt_19
set_option maxHeartbeats 4000000 in
set_option maxRecDepth 100000 in
theorem zX2_gameAt2 {l : Launch} {D : va_G} {cI cJ cC cG : ClassId} {sz : Nat} {ap q : Nat → Nat} {hn : Nat} {hasS : Bool} {cnt : Int32} {snp : GT} {G : Nat → GT} {c_mover : Int32} {c_phase : Int32} {c_dice : Int32} {c_stake : Int32} {c_cube : Int32} {c_pieces0 : Int64} {c_pieces1 : Int64} {c_score0 : Int32} {c_score1 : Int32} {c_hits0 : Int32} {c_hits1 : Int32} {c_stopped : Bool} {c_stopPart : Int32} : k_Mq l yX2_gameAt wsX2_gameAt rmX2_gameAt D (kT cI cJ cC cG) sz ([.ref (ap 0), .int 2] : List Value) (wPa cG ap q hn hasS cnt snp G c_mover c_phase c_dice c_stake c_cube c_pieces0 c_pieces1 c_score0 c_score1 c_hits0 c_hits1 c_stopped c_stopPart) (wPa cG ap q hn hasS cnt snp G c_mover c_phase c_dice c_stake c_cube c_pieces0 c_pieces1 c_score0 c_score1 c_hits0 c_hits1 c_stopped c_stopPart) (some (q 2)) := by
  refine k_st_q (cc := cX2_gameAt) (maxL := 2) (by decide) rfl (Nat.le_of_ble_eq_true rfl) ?_
  intro p e z m below meth c A hx hb hr hml hts hown hlocks hsz hN hA hK hP hD hS ls hl
  have hown : z.vm.findClass RX2 = some m.cls := hown
  have hinX2 : ∀ w ∈ wsX20, w ∈ wsX2_gameAt := by decide +kernel
  have fl11 := hts (.fieldLink RX2 11 "MagpieRuns$Past" "saved" "[LMagpieRuns$Game;") (by decide +kernel)
  have hl : lv_has ls 2 [(0, .ref (ap 0)), (1, .int 2)] := hl
  refine lv_iload_n hx hb dX2_gameAt_0 rfl (lv_at hl 1 rfl) ?_
  refine lv_if_lt (tgt := 18) hx hb dX2_gameAt_1 (by decide) (fun cc => absurd cc (by decide)) (fun cc => ?_)
  refine lv_iload_n hx hb dX2_gameAt_4 rfl (lv_at hl 1 rfl) ?_
  refine lv_iconst (v := 5) hx hb dX2_gameAt_5 (by decide) ?_
  refine lv_icmp_ge (tgt := 18) hx hb dX2_gameAt_6 (by decide) (fun cc => absurd cc (by decide)) (fun cc => ?_)
  refine lv_aload_n hx hb dX2_gameAt_9 rfl (lv_at hl 0 rfl) ?_
  refine va_get (D := D) (ci := 1) (v := .ref (ap 1)) (C := RX2) (T := TX2) (N := 4) hx hb hts hinX2 hown hK hP 0 rfl rfl 0 (by decide) fl11 (fun _ h9 => h9) rfl dX2_gameAt_10 ?_
  refine lv_iload_n hx hb dX2_gameAt_13 rfl (lv_at hl 1 rfl) ?_
  refine k_qald hx hb hK hP 1 3 rfl rfl kq_2 kv_2 dX2_gameAt_14 ?_
  refine lv_goto (tgt := 19) hx hb dX2_gameAt_15 (by decide) ?_
  exact k_end_q (some (q 2)) hx hb hr hlocks hK hP hD hS dX2_gameAt_19
set_option maxHeartbeats 4000000 in
set_option maxRecDepth 100000 in
theorem zX2_gameAt3 {l : Launch} {D : va_G} {cI cJ cC cG : ClassId} {sz : Nat} {ap q : Nat → Nat} {hn : Nat} {hasS : Bool} {cnt : Int32} {snp : GT} {G : Nat → GT} {c_mover : Int32} {c_phase : Int32} {c_dice : Int32} {c_stake : Int32} {c_cube : Int32} {c_pieces0 : Int64} {c_pieces1 : Int64} {c_score0 : Int32} {c_score1 : Int32} {c_hits0 : Int32} {c_hits1 : Int32} {c_stopped : Bool} {c_stopPart : Int32} : k_Mq l yX2_gameAt wsX2_gameAt rmX2_gameAt D (kT cI cJ cC cG) sz ([.ref (ap 0), .int 3] : List Value) (wPa cG ap q hn hasS cnt snp G c_mover c_phase c_dice c_stake c_cube c_pieces0 c_pieces1 c_score0 c_score1 c_hits0 c_hits1 c_stopped c_stopPart) (wPa cG ap q hn hasS cnt snp G c_mover c_phase c_dice c_stake c_cube c_pieces0 c_pieces1 c_score0 c_score1 c_hits0 c_hits1 c_stopped c_stopPart) (some (q 3)) := by
  refine k_st_q (cc := cX2_gameAt) (maxL := 2) (by decide) rfl (Nat.le_of_ble_eq_true rfl) ?_
  intro p e z m below meth c A hx hb hr hml hts hown hlocks hsz hN hA hK hP hD hS ls hl
  have hown : z.vm.findClass RX2 = some m.cls := hown
  have hinX2 : ∀ w ∈ wsX20, w ∈ wsX2_gameAt := by decide +kernel
  have fl11 := hts (.fieldLink RX2 11 "MagpieRuns$Past" "saved" "[LMagpieRuns$Game;") (by decide +kernel)
  have hl : lv_has ls 2 [(0, .ref (ap 0)), (1, .int 3)] := hl
  refine lv_iload_n hx hb dX2_gameAt_0 rfl (lv_at hl 1 rfl) ?_
  refine lv_if_lt (tgt := 18) hx hb dX2_gameAt_1 (by decide) (fun cc => absurd cc (by decide)) (fun cc => ?_)
  refine lv_iload_n hx hb dX2_gameAt_4 rfl (lv_at hl 1 rfl) ?_
  refine lv_iconst (v := 5) hx hb dX2_gameAt_5 (by decide) ?_
  refine lv_icmp_ge (tgt := 18) hx hb dX2_gameAt_6 (by decide) (fun cc => absurd cc (by decide)) (fun cc => ?_)
  refine lv_aload_n hx hb dX2_gameAt_9 rfl (lv_at hl 0 rfl) ?_
  refine va_get (D := D) (ci := 1) (v := .ref (ap 1)) (C := RX2) (T := TX2) (N := 4) hx hb hts hinX2 hown hK hP 0 rfl rfl 0 (by decide) fl11 (fun _ h9 => h9) rfl dX2_gameAt_10 ?_
  refine lv_iload_n hx hb dX2_gameAt_13 rfl (lv_at hl 1 rfl) ?_
  refine k_qald hx hb hK hP 1 3 rfl rfl kq_3 kv_3 dX2_gameAt_14 ?_
  refine lv_goto (tgt := 19) hx hb dX2_gameAt_15 (by decide) ?_
  exact k_end_q (some (q 3)) hx hb hr hlocks hK hP hD hS dX2_gameAt_19
set_option maxHeartbeats 4000000 in
set_option maxRecDepth 100000 in
theorem zX2_gameAt4 {l : Launch} {D : va_G} {cI cJ cC cG : ClassId} {sz : Nat} {ap q : Nat → Nat} {hn : Nat} {hasS : Bool} {cnt : Int32} {snp : GT} {G : Nat → GT} {c_mover : Int32} {c_phase : Int32} {c_dice : Int32} {c_stake : Int32} {c_cube : Int32} {c_pieces0 : Int64} {c_pieces1 : Int64} {c_score0 : Int32} {c_score1 : Int32} {c_hits0 : Int32} {c_hits1 : Int32} {c_stopped : Bool} {c_stopPart : Int32} : k_Mq l yX2_gameAt wsX2_gameAt rmX2_gameAt D (kT cI cJ cC cG) sz ([.ref (ap 0), .int 4] : List Value) (wPa cG ap q hn hasS cnt snp G c_mover c_phase c_dice c_stake c_cube c_pieces0 c_pieces1 c_score0 c_score1 c_hits0 c_hits1 c_stopped c_stopPart) (wPa cG ap q hn hasS cnt snp G c_mover c_phase c_dice c_stake c_cube c_pieces0 c_pieces1 c_score0 c_score1 c_hits0 c_hits1 c_stopped c_stopPart) (some (q 4)) := by
  refine k_st_q (cc := cX2_gameAt) (maxL := 2) (by decide) rfl (Nat.le_of_ble_eq_true rfl) ?_
  intro p e z m below meth c A hx hb hr hml hts hown hlocks hsz hN hA hK hP hD hS ls hl
  have hown : z.vm.findClass RX2 = some m.cls := hown
  have hinX2 : ∀ w ∈ wsX20, w ∈ wsX2_gameAt := by decide +kernel
  have fl11 := hts (.fieldLink RX2 11 "MagpieRuns$Past" "saved" "[LMagpieRuns$Game;") (by decide +kernel)
  have hl : lv_has ls 2 [(0, .ref (ap 0)), (1, .int 4)] := hl
  refine lv_iload_n hx hb dX2_gameAt_0 rfl (lv_at hl 1 rfl) ?_
  refine lv_if_lt (tgt := 18) hx hb dX2_gameAt_1 (by decide) (fun cc => absurd cc (by decide)) (fun cc => ?_)
  refine lv_iload_n hx hb dX2_gameAt_4 rfl (lv_at hl 1 rfl) ?_
  refine lv_iconst (v := 5) hx hb dX2_gameAt_5 (by decide) ?_
  refine lv_icmp_ge (tgt := 18) hx hb dX2_gameAt_6 (by decide) (fun cc => absurd cc (by decide)) (fun cc => ?_)
  refine lv_aload_n hx hb dX2_gameAt_9 rfl (lv_at hl 0 rfl) ?_
  refine va_get (D := D) (ci := 1) (v := .ref (ap 1)) (C := RX2) (T := TX2) (N := 4) hx hb hts hinX2 hown hK hP 0 rfl rfl 0 (by decide) fl11 (fun _ h9 => h9) rfl dX2_gameAt_10 ?_
  refine lv_iload_n hx hb dX2_gameAt_13 rfl (lv_at hl 1 rfl) ?_
  refine k_qald hx hb hK hP 1 3 rfl rfl kq_4 kv_4 dX2_gameAt_14 ?_
  refine lv_goto (tgt := 19) hx hb dX2_gameAt_15 (by decide) ?_
  exact k_end_q (some (q 4)) hx hb hr hlocks hK hP hD hS dX2_gameAt_19
abbrev rmX2_dropOldest : Room := { frames := 1, cells := 0, slots := 0, locals := 16 }
def p_rot {α : Type} (f : Nat → α) : Nat → α := fun i => if i = 0 then f 1 else if i = 1 then f 2 else if i = 2 then f 3 else if i = 3 then f 4 else if i = 4 then f 0 else f i
theorem p_rot_up (q : Nat → Nat) : (va_up (va_up (va_up (va_up (va_up (fun i => some (q i)) 0 (some (q 1))) 1 (some (q 2))) 2 (some (q 3))) 3 (some (q 4))) 4 (some (q 0))) = fun i => some (p_rot q i) := by
  funext i
  unfold va_up p_rot
  by_cases h0 : i = 0
  · subst h0; rfl
  by_cases h1 : i = 1
  · subst h1; rfl
  by_cases h2 : i = 2
  · subst h2; rfl
  by_cases h3 : i = 3
  · subst h3; rfl
  by_cases h4 : i = 4
  · subst h4; rfl
  simp only [h0, h1, h2, h3, h4, if_false]
set_option maxHeartbeats 4000000 in
set_option maxRecDepth 100000 in
theorem zX2_dropOldest {l : Launch} {D : va_G} {cI cJ cC cG : ClassId} {sz : Nat} {ap q : Nat → Nat} {hn : Nat} {hasS : Bool} {snp : GT} {G : Nat → GT} {c_mover : Int32} {c_phase : Int32} {c_dice : Int32} {c_stake : Int32} {c_cube : Int32} {c_pieces0 : Int64} {c_pieces1 : Int64} {c_score0 : Int32} {c_score1 : Int32} {c_hits0 : Int32} {c_hits1 : Int32} {c_stopped : Bool} {c_stopPart : Int32} : k_Mv l yX2_dropOldest wsX2_dropOldest rmX2_dropOldest D (kT cI cJ cC cG) sz ([.ref (ap 0)] : List Value) (wPa cG ap q hn hasS 5 snp G c_mover c_phase c_dice c_stake c_cube c_pieces0 c_pieces1 c_score0 c_score1 c_hits0 c_hits1 c_stopped c_stopPart) (wPa cG ap (p_rot q) hn hasS 4 snp (p_rot G) c_mover c_phase c_dice c_stake c_cube c_pieces0 c_pieces1 c_score0 c_score1 c_hits0 c_hits1 c_stopped c_stopPart) := by
  refine k_st_v (cc := cX2_dropOldest) (maxL := 3) (by decide) rfl (Nat.le_of_ble_eq_true rfl) ?_
  intro p e z m below meth c A hx hb hr hml hts hown hlocks hsz hN hA hK hP hD hS ls hl
  have hown : z.vm.findClass RX2 = some m.cls := hown
  have hinX2 : ∀ w ∈ wsX20, w ∈ wsX2_dropOldest := by decide +kernel
  have fl11 := hts (.fieldLink RX2 11 "MagpieRuns$Past" "saved" "[LMagpieRuns$Game;") (by decide +kernel)
  have fl24 := hts (.fieldLink RX2 24 "MagpieRuns$Past" "count" "I") (by decide +kernel)
  have hl : lv_has ls 3 [(0, .ref (ap 0))] := hl
  refine lv_aload_n hx hb dX2_dropOldest_0 rfl (lv_at hl 0 rfl) ?_
  refine va_get (D := D) (ci := 1) (v := .ref (ap 1)) (C := RX2) (T := TX2) (N := 4) hx hb hts hinX2 hown hK hP 0 rfl rfl 0 (by decide) fl11 (fun _ h9 => h9) rfl dX2_dropOldest_1 ?_
  refine lv_iconst (v := 0) hx hb dX2_dropOldest_4 (by decide) ?_
  refine k_qald hx hb hK hP 1 3 rfl rfl kq_0 kv_0 dX2_dropOldest_5 ?_
  refine lv_astore_n (lv' := [(1, .ref (q 0)), (0, .ref (ap 0))]) hx hb dX2_dropOldest_6 rfl hl (by decide) rfl (fun ls hl => ?_)
  refine lv_iconst (v := 1) hx hb dX2_dropOldest_7 (by decide) ?_
  refine lv_istore_n (lv' := [(2, .int 1), (1, .ref (q 0)), (0, .ref (ap 0))]) hx hb dX2_dropOldest_8 rfl hl (by decide) rfl (fun ls hl => ?_)
  refine lv_iload_n hx hb dX2_dropOldest_9 rfl (lv_at hl 0 rfl) ?_
  refine lv_iconst (v := 5) hx hb dX2_dropOldest_10 (by decide) ?_
  refine lv_icmp_ge (tgt := 34) hx hb dX2_dropOldest_11 (by decide) (fun cc => absurd cc (by decide)) (fun cc => ?_)
  refine lv_aload_n hx hb dX2_dropOldest_14 rfl (lv_at hl 2 rfl) ?_
  refine va_get (D := D) (ci := 1) (v := .ref (ap 1)) (C := RX2) (T := TX2) (N := 4) hx hb hts hinX2 hown hK hP 0 rfl rfl 0 (by decide) fl11 (fun _ h9 => h9) rfl dX2_dropOldest_15 ?_
  refine lv_iload_n hx hb dX2_dropOldest_18 rfl (lv_at hl 0 rfl) ?_
  refine lv_iconst (v := 1) hx hb dX2_dropOldest_19 (by decide) ?_
  refine lv_isub hx hb dX2_dropOldest_20 ?_
  refine lv_aload_n hx hb dX2_dropOldest_21 rfl (lv_at hl 2 rfl) ?_
  refine va_get (D := D) (ci := 1) (v := .ref (ap 1)) (C := RX2) (T := TX2) (N := 4) hx hb hts hinX2 hown hK hP 0 rfl rfl 0 (by decide) fl11 (fun _ h9 => h9) rfl dX2_dropOldest_22 ?_
  refine lv_iload_n hx hb dX2_dropOldest_25 rfl (lv_at hl 0 rfl) ?_
  refine k_qald hx hb hK hP 1 3 rfl rfl kq_1 kv_1 dX2_dropOldest_26 ?_
  refine k_qast (v := q 1) hx hb hK hP hD hS 1 3 4 0 rfl rfl rfl rfl (j := 0) (by decide +kernel) (show ¬ (_ ∨ _) by decide +kernel) dX2_dropOldest_27 (fun H locs hP hD hS => ?_)
  have hP : va_P D vwCl (wPr cG ap q (va_up (fun i => some (q i)) 0 (some (q 1))) hn hasS 5 snp G c_mover c_phase c_dice c_stake c_cube c_pieces0 c_pieces1 c_score0 c_score1 c_hits0 c_hits1 c_stopped c_stopPart) H := hP
  have hD : va_D A (wPr cG ap q (va_up (fun i => some (q i)) 0 (some (q 1))) hn hasS 5 snp G c_mover c_phase c_dice c_stake c_cube c_pieces0 c_pieces1 c_score0 c_score1 c_hits0 c_hits1 c_stopped c_stopPart) := hD
  refine lv_iinc (v := 2) (lv' := [(2, .int 2), (1, .ref (q 0)), (0, .ref (ap 0))]) hx hb dX2_dropOldest_28 hl (k := 0) rfl (by decide) (by decide) rfl (fun ls hl => ?_)
  refine lv_goto (tgt := 9) hx hb dX2_dropOldest_31 (by decide) ?_
  refine lv_iload_n hx hb dX2_dropOldest_9 rfl (lv_at hl 0 rfl) ?_
  refine lv_iconst (v := 5) hx hb dX2_dropOldest_10 (by decide) ?_
  refine lv_icmp_ge (tgt := 34) hx hb dX2_dropOldest_11 (by decide) (fun cc => absurd cc (by decide)) (fun cc => ?_)
  refine lv_aload_n hx hb dX2_dropOldest_14 rfl (lv_at hl 2 rfl) ?_
  refine va_get (D := D) (ci := 1) (v := .ref (ap 1)) (C := RX2) (T := TX2) (N := 4) hx hb hts hinX2 hown hK hP 0 rfl rfl 0 (by decide) fl11 (fun _ h9 => h9) rfl dX2_dropOldest_15 ?_
  refine lv_iload_n hx hb dX2_dropOldest_18 rfl (lv_at hl 0 rfl) ?_
  refine lv_iconst (v := 1) hx hb dX2_dropOldest_19 (by decide) ?_
  refine lv_isub hx hb dX2_dropOldest_20 ?_
  refine lv_aload_n hx hb dX2_dropOldest_21 rfl (lv_at hl 2 rfl) ?_
  refine va_get (D := D) (ci := 1) (v := .ref (ap 1)) (C := RX2) (T := TX2) (N := 4) hx hb hts hinX2 hown hK hP 0 rfl rfl 0 (by decide) fl11 (fun _ h9 => h9) rfl dX2_dropOldest_22 ?_
  refine lv_iload_n hx hb dX2_dropOldest_25 rfl (lv_at hl 0 rfl) ?_
  refine k_qald hx hb hK hP 1 3 rfl rfl kq_2 kv_2 dX2_dropOldest_26 ?_
  refine k_qast (v := q 2) hx hb hK hP hD hS 1 3 5 0 rfl rfl rfl rfl (j := 1) (by decide +kernel) (show ¬ (_ ∨ _) by decide +kernel) dX2_dropOldest_27 (fun H locs hP hD hS => ?_)
  have hP : va_P D vwCl (wPr cG ap q (va_up (va_up (fun i => some (q i)) 0 (some (q 1))) 1 (some (q 2))) hn hasS 5 snp G c_mover c_phase c_dice c_stake c_cube c_pieces0 c_pieces1 c_score0 c_score1 c_hits0 c_hits1 c_stopped c_stopPart) H := hP
  have hD : va_D A (wPr cG ap q (va_up (va_up (fun i => some (q i)) 0 (some (q 1))) 1 (some (q 2))) hn hasS 5 snp G c_mover c_phase c_dice c_stake c_cube c_pieces0 c_pieces1 c_score0 c_score1 c_hits0 c_hits1 c_stopped c_stopPart) := hD
  refine lv_iinc (v := 3) (lv' := [(2, .int 3), (1, .ref (q 0)), (0, .ref (ap 0))]) hx hb dX2_dropOldest_28 hl (k := 0) rfl (by decide) (by decide) rfl (fun ls hl => ?_)
  refine lv_goto (tgt := 9) hx hb dX2_dropOldest_31 (by decide) ?_
  refine lv_iload_n hx hb dX2_dropOldest_9 rfl (lv_at hl 0 rfl) ?_
  refine lv_iconst (v := 5) hx hb dX2_dropOldest_10 (by decide) ?_
  refine lv_icmp_ge (tgt := 34) hx hb dX2_dropOldest_11 (by decide) (fun cc => absurd cc (by decide)) (fun cc => ?_)
  refine lv_aload_n hx hb dX2_dropOldest_14 rfl (lv_at hl 2 rfl) ?_
  refine va_get (D := D) (ci := 1) (v := .ref (ap 1)) (C := RX2) (T := TX2) (N := 4) hx hb hts hinX2 hown hK hP 0 rfl rfl 0 (by decide) fl11 (fun _ h9 => h9) rfl dX2_dropOldest_15 ?_
  refine lv_iload_n hx hb dX2_dropOldest_18 rfl (lv_at hl 0 rfl) ?_
  refine lv_iconst (v := 1) hx hb dX2_dropOldest_19 (by decide) ?_
  refine lv_isub hx hb dX2_dropOldest_20 ?_
  refine lv_aload_n hx hb dX2_dropOldest_21 rfl (lv_at hl 2 rfl) ?_
  refine va_get (D := D) (ci := 1) (v := .ref (ap 1)) (C := RX2) (T := TX2) (N := 4) hx hb hts hinX2 hown hK hP 0 rfl rfl 0 (by decide) fl11 (fun _ h9 => h9) rfl dX2_dropOldest_22 ?_
  refine lv_iload_n hx hb dX2_dropOldest_25 rfl (lv_at hl 0 rfl) ?_
  refine k_qald hx hb hK hP 1 3 rfl rfl kq_3 kv_3 dX2_dropOldest_26 ?_
  refine k_qast (v := q 3) hx hb hK hP hD hS 1 3 6 0 rfl rfl rfl rfl (j := 2) (by decide +kernel) (show ¬ (_ ∨ _) by decide +kernel) dX2_dropOldest_27 (fun H locs hP hD hS => ?_)
  have hP : va_P D vwCl (wPr cG ap q (va_up (va_up (va_up (fun i => some (q i)) 0 (some (q 1))) 1 (some (q 2))) 2 (some (q 3))) hn hasS 5 snp G c_mover c_phase c_dice c_stake c_cube c_pieces0 c_pieces1 c_score0 c_score1 c_hits0 c_hits1 c_stopped c_stopPart) H := hP
  have hD : va_D A (wPr cG ap q (va_up (va_up (va_up (fun i => some (q i)) 0 (some (q 1))) 1 (some (q 2))) 2 (some (q 3))) hn hasS 5 snp G c_mover c_phase c_dice c_stake c_cube c_pieces0 c_pieces1 c_score0 c_score1 c_hits0 c_hits1 c_stopped c_stopPart) := hD
  refine lv_iinc (v := 4) (lv' := [(2, .int 4), (1, .ref (q 0)), (0, .ref (ap 0))]) hx hb dX2_dropOldest_28 hl (k := 0) rfl (by decide) (by decide) rfl (fun ls hl => ?_)
  refine lv_goto (tgt := 9) hx hb dX2_dropOldest_31 (by decide) ?_
  refine lv_iload_n hx hb dX2_dropOldest_9 rfl (lv_at hl 0 rfl) ?_
  refine lv_iconst (v := 5) hx hb dX2_dropOldest_10 (by decide) ?_
  refine lv_icmp_ge (tgt := 34) hx hb dX2_dropOldest_11 (by decide) (fun cc => absurd cc (by decide)) (fun cc => ?_)
  refine lv_aload_n hx hb dX2_dropOldest_14 rfl (lv_at hl 2 rfl) ?_
  refine va_get (D := D) (ci := 1) (v := .ref (ap 1)) (C := RX2) (T := TX2) (N := 4) hx hb hts hinX2 hown hK hP 0 rfl rfl 0 (by decide) fl11 (fun _ h9 => h9) rfl dX2_dropOldest_15 ?_
  refine lv_iload_n hx hb dX2_dropOldest_18 rfl (lv_at hl 0 rfl) ?_
  refine lv_iconst (v := 1) hx hb dX2_dropOldest_19 (by decide) ?_
  refine lv_isub hx hb dX2_dropOldest_20 ?_
  refine lv_aload_n hx hb dX2_dropOldest_21 rfl (lv_at hl 2 rfl) ?_
  refine va_get (D := D) (ci := 1) (v := .ref (ap 1)) (C := RX2) (T := TX2) (N := 4) hx hb hts hinX2 hown hK hP 0 rfl rfl 0 (by decide) fl11 (fun _ h9 => h9) rfl dX2_dropOldest_22 ?_
  refine lv_iload_n hx hb dX2_dropOldest_25 rfl (lv_at hl 0 rfl) ?_
  refine k_qald hx hb hK hP 1 3 rfl rfl kq_4 kv_4 dX2_dropOldest_26 ?_
  refine k_qast (v := q 4) hx hb hK hP hD hS 1 3 7 0 rfl rfl rfl rfl (j := 3) (by decide +kernel) (show ¬ (_ ∨ _) by decide +kernel) dX2_dropOldest_27 (fun H locs hP hD hS => ?_)
  have hP : va_P D vwCl (wPr cG ap q (va_up (va_up (va_up (va_up (fun i => some (q i)) 0 (some (q 1))) 1 (some (q 2))) 2 (some (q 3))) 3 (some (q 4))) hn hasS 5 snp G c_mover c_phase c_dice c_stake c_cube c_pieces0 c_pieces1 c_score0 c_score1 c_hits0 c_hits1 c_stopped c_stopPart) H := hP
  have hD : va_D A (wPr cG ap q (va_up (va_up (va_up (va_up (fun i => some (q i)) 0 (some (q 1))) 1 (some (q 2))) 2 (some (q 3))) 3 (some (q 4))) hn hasS 5 snp G c_mover c_phase c_dice c_stake c_cube c_pieces0 c_pieces1 c_score0 c_score1 c_hits0 c_hits1 c_stopped c_stopPart) := hD
  refine lv_iinc (v := 5) (lv' := [(2, .int 5), (1, .ref (q 0)), (0, .ref (ap 0))]) hx hb dX2_dropOldest_28 hl (k := 0) rfl (by decide) (by decide) rfl (fun ls hl => ?_)
  refine lv_goto (tgt := 9) hx hb dX2_dropOldest_31 (by decide) ?_
  refine lv_iload_n hx hb dX2_dropOldest_9 rfl (lv_at hl 0 rfl) ?_
  refine lv_iconst (v := 5) hx hb dX2_dropOldest_10 (by decide) ?_
  refine lv_icmp_ge (tgt := 34) hx hb dX2_dropOldest_11 (by decide) (fun cc => ?_) (fun cc => absurd (by decide) cc)
  refine lv_aload_n hx hb dX2_dropOldest_34 rfl (lv_at hl 2 rfl) ?_
  refine va_get (D := D) (ci := 1) (v := .ref (ap 1)) (C := RX2) (T := TX2) (N := 4) hx hb hts hinX2 hown hK hP 0 rfl rfl 0 (by decide) fl11 (fun _ h9 => h9) rfl dX2_dropOldest_35 ?_
  refine lv_iconst (v := 4) hx hb dX2_dropOldest_38 (by decide) ?_
  refine lv_aload_n hx hb dX2_dropOldest_39 rfl (lv_at hl 1 rfl) ?_
  refine k_qast (v := q 0) hx hb hK hP hD hS 1 3 3 0 rfl rfl rfl rfl (j := 4) kq_4 kv_4 dX2_dropOldest_40 (fun H locs hP hD hS => ?_)
  have hP : va_P D vwCl (wPr cG ap q (va_up (va_up (va_up (va_up (va_up (fun i => some (q i)) 0 (some (q 1))) 1 (some (q 2))) 2 (some (q 3))) 3 (some (q 4))) 4 (some (q 0))) hn hasS 5 snp G c_mover c_phase c_dice c_stake c_cube c_pieces0 c_pieces1 c_score0 c_score1 c_hits0 c_hits1 c_stopped c_stopPart) H := hP
  have hD : va_D A (wPr cG ap q (va_up (va_up (va_up (va_up (va_up (fun i => some (q i)) 0 (some (q 1))) 1 (some (q 2))) 2 (some (q 3))) 3 (some (q 4))) 4 (some (q 0))) hn hasS 5 snp G c_mover c_phase c_dice c_stake c_cube c_pieces0 c_pieces1 c_score0 c_score1 c_hits0 c_hits1 c_stopped c_stopPart) := hD
  rw [p_rot_up q] at hP hD
  refine lv_aload_n hx hb dX2_dropOldest_41 rfl (lv_at hl 2 rfl) ?_
  refine lv_dup hx hb dX2_dropOldest_42 rfl ?_
  refine va_get (D := D) (ci := 1) (v := .int 5) (C := RX2) (T := TX2) (N := 4) hx hb hts hinX2 hown hK hP 0 rfl rfl 3 (by decide) fl24 (fun _ h9 => h9) rfl dX2_dropOldest_43 ?_
  refine lv_iconst (v := 1) hx hb dX2_dropOldest_46 (by decide) ?_
  refine lv_isub hx hb dX2_dropOldest_47 ?_
  refine W.eq (g2 := F0 m 48 _ (.int 4 :: .ref (ap 0) :: [])) (by rw [show (5 : Int32) - 1 = 4 by decide]) ?_
  refine va_put (D := D) (ci := 1) (v := .int 4) (ty := .int) (C := RX2) (T := TX2) (N := 4) hx hb hts hinX2 tyX2 tyX2_ok nmX2 hown hK hP hD hS 0 rfl rfl 3 (by decide) fl24 (fun _ h9 => h9) rfl (by decide +kernel) rfl rfl (Nat.le_of_ble_eq_true rfl) dX2_dropOldest_48 (fun H locs hP hD hS => ?_)
  have hP : va_P D vwCl (wPr cG ap q (fun i => some (p_rot q i)) hn hasS 4 snp G c_mover c_phase c_dice c_stake c_cube c_pieces0 c_pieces1 c_score0 c_score1 c_hits0 c_hits1 c_stopped c_stopPart) H := hP
  have hD : va_D A (wPr cG ap q (fun i => some (p_rot q i)) hn hasS 4 snp G c_mover c_phase c_dice c_stake c_cube c_pieces0 c_pieces1 c_score0 c_score1 c_hits0 c_hits1 c_stopped c_stopPart) := hD
  have hP : va_P D vwCl (wPa cG ap (p_rot q) hn hasS 4 snp (p_rot G) c_mover c_phase c_dice c_stake c_cube c_pieces0 c_pieces1 c_score0 c_score1 c_hits0 c_hits1 c_stopped c_stopPart) H := k_Psub hP [0, 1, 2, 4, 5, 6, 7, 3, 8] rfl
  have hD : va_D A (wPa cG ap (p_rot q) hn hasS 4 snp (p_rot G) c_mover c_phase c_dice c_stake c_cube c_pieces0 c_pieces1 c_score0 c_score1 c_hits0 c_hits1 c_stopped c_stopPart) := hD.sub [0, 1, 2, 4, 5, 6, 7, 3, 8] (by decide) rfl
  exact k_end_v hx hb hr hlocks hK hP hD hS dX2_dropOldest_51
def p_up {α : Type} (f : Nat → α) (k : Nat) (v : α) : Nat → α := fun i => if i = k then v else f i
abbrev rmX2_save : Room := { frames := 2, cells := 0, slots := 0, locals := 60 }
def mX2_save (cnt : Int32) (G : Nat → GT) (c_mover : Int32) (c_phase : Int32) (c_dice : Int32) (c_stake : Int32) (c_cube : Int32) (c_pieces0 : Int64) (c_pieces1 : Int64) (c_score0 : Int32) (c_score1 : Int32) (c_hits0 : Int32) (c_hits1 : Int32) (c_stopped : Bool) (c_stopPart : Int32) : Option (Int32 × (Nat → GT)) :=
  if cnt = 0 then some (1, p_up G 0 (c_mover, c_phase, c_dice, c_stake, c_cube, c_pieces0, c_pieces1, c_score0, c_score1, c_hits0, c_hits1, c_stopped, c_stopPart)) else if cnt = 1 then some (2, p_up G 1 (c_mover, c_phase, c_dice, c_stake, c_cube, c_pieces0, c_pieces1, c_score0, c_score1, c_hits0, c_hits1, c_stopped, c_stopPart)) else if cnt = 2 then some (3, p_up G 2 (c_mover, c_phase, c_dice, c_stake, c_cube, c_pieces0, c_pieces1, c_score0, c_score1, c_hits0, c_hits1, c_stopped, c_stopPart)) else if cnt = 3 then some (4, p_up G 3 (c_mover, c_phase, c_dice, c_stake, c_cube, c_pieces0, c_pieces1, c_score0, c_score1, c_hits0, c_hits1, c_stopped, c_stopPart)) else if cnt = 4 then some (5, p_up G 4 (c_mover, c_phase, c_dice, c_stake, c_cube, c_pieces0, c_pieces1, c_score0, c_score1, c_hits0, c_hits1, c_stopped, c_stopPart)) else if cnt = 5 then some (5, p_up (p_rot G) 4 (c_mover, c_phase, c_dice, c_stake, c_cube, c_pieces0, c_pieces1, c_score0, c_score1, c_hits0, c_hits1, c_stopped, c_stopPart)) else none
set_option maxHeartbeats 4000000 in
set_option maxRecDepth 100000 in
theorem zX2_save0 {l : Launch} {D : va_G} {cI cJ cC cG : ClassId} {sz : Nat} {ap q : Nat → Nat} {hn : Nat} {hasS : Bool} {snp : GT} {G : Nat → GT} {c_mover : Int32} {c_phase : Int32} {c_dice : Int32} {c_stake : Int32} {c_cube : Int32} {c_pieces0 : Int64} {c_pieces1 : Int64} {c_score0 : Int32} {c_score1 : Int32} {c_hits0 : Int32} {c_hits1 : Int32} {c_stopped : Bool} {c_stopPart : Int32} : k_MvE l yX2_save wsX2_save rmX2_save D (kT cI cJ cC cG) sz ([.ref (ap 0), .ref hn] : List Value) (wPa cG ap q hn hasS 0 snp G c_mover c_phase c_dice c_stake c_cube c_pieces0 c_pieces1 c_score0 c_score1 c_hits0 c_hits1 c_stopped c_stopPart) (fun u : (Nat → Nat) => (wPa cG ap u hn hasS 1 snp (p_up G 0 (c_mover, c_phase, c_dice, c_stake, c_cube, c_pieces0, c_pieces1, c_score0, c_score1, c_hits0, c_hits1, c_stopped, c_stopPart)) c_mover c_phase c_dice c_stake c_cube c_pieces0 c_pieces1 c_score0 c_score1 c_hits0 c_hits1 c_stopped c_stopPart)) := by
  refine k_st_vE (cc := cX2_save) (maxL := 3) (by decide) rfl (Nat.le_of_ble_eq_true rfl) ?_
  intro p e z m below meth c A hx hb hr hml hts hown hlocks hsz hN hA hK hP hD hS ls hl
  have hown : z.vm.findClass RX2 = some m.cls := hown
  have hinX2 : ∀ w ∈ wsX20, w ∈ wsX2_save := by decide +kernel
  have fl24 := hts (.fieldLink RX2 24 "MagpieRuns$Past" "count" "I") (by decide +kernel)
  have hl : lv_has ls 3 [(0, .ref (ap 0)), (1, .ref hn)] := hl
  refine lv_aload_n hx hb dX2_save_0 rfl (lv_at hl 0 rfl) ?_
  refine va_get (D := D) (ci := 1) (v := .int 0) (C := RX2) (T := TX2) (N := 4) hx hb hts hinX2 hown hK hP 0 rfl rfl 3 (by decide) fl24 (fun _ h9 => h9) rfl dX2_save_1 ?_
  refine lv_iconst (v := 5) hx hb dX2_save_4 (by decide) ?_
  refine lv_icmp_lt (tgt := 12) hx hb dX2_save_5 (by decide) (fun cc => ?_) (fun cc => absurd (by decide) cc)
  refine lv_aload_n hx hb dX2_save_12 rfl (lv_at hl 0 rfl) ?_
  refine lv_aload_n hx hb dX2_save_13 rfl (lv_at hl 0 rfl) ?_
  refine va_get (D := D) (ci := 1) (v := .int 0) (C := RX2) (T := TX2) (N := 4) hx hb hts hinX2 hown hK hP 0 rfl rfl 3 (by decide) fl24 (fun _ h9 => h9) rfl dX2_save_14 ?_
  refine k_q_s (k_rV (As := [.int 0]) (rest := []) ⟨hx, hb, hml, hown, hts⟩ hK hN hP hD zX2_gameAt0 (cwV 1 hts gX2_save_X2_gameAt rfl rfl rfl (by decide +kernel) ⟨Nat.le_of_ble_eq_true rfl, Nat.le_of_ble_eq_true rfl⟩) rfl rfl rfl hl.1 rfl (Nat.le_of_ble_eq_true rfl) dX2_save_17 ⟨Nat.zero_le _, Nat.zero_le _⟩) hD hS hA (fun H locs hP hD hS => ?_)
  refine lv_astore_n (lv' := [(2, .ref (q 0)), (0, .ref (ap 0)), (1, .ref hn)]) hx hb dX2_save_20 rfl hl (by decide) rfl (fun ls hl => ?_)
  refine lv_aload_n hx hb dX2_save_21 rfl (lv_at hl 0 rfl) ?_
  refine lv_ifnull hx hb dX2_save_22 ?_
  refine lv_aload_n hx hb dX2_save_25 rfl (lv_at hl 0 rfl) ?_
  refine lv_aload_n hx hb dX2_save_26 rfl (lv_at hl 2 rfl) ?_
  have hPc : va_P D vwCl (wG2 (q 0) hn ((G 0).1) ((G 0).2.1) ((G 0).2.2.1) ((G 0).2.2.2.1) ((G 0).2.2.2.2.1) ((G 0).2.2.2.2.2.1) ((G 0).2.2.2.2.2.2.1) ((G 0).2.2.2.2.2.2.2.1) ((G 0).2.2.2.2.2.2.2.2.1) ((G 0).2.2.2.2.2.2.2.2.2.1) ((G 0).2.2.2.2.2.2.2.2.2.2.1) ((G 0).2.2.2.2.2.2.2.2.2.2.2.1) ((G 0).2.2.2.2.2.2.2.2.2.2.2.2) c_mover c_phase c_dice c_stake c_cube c_pieces0 c_pieces1 c_score0 c_score1 c_hits0 c_hits1 c_stopped c_stopPart) _ := k_Psub hP [3, 8] rfl
  have hDc : va_D A (wG2 (q 0) hn ((G 0).1) ((G 0).2.1) ((G 0).2.2.1) ((G 0).2.2.2.1) ((G 0).2.2.2.2.1) ((G 0).2.2.2.2.2.1) ((G 0).2.2.2.2.2.2.1) ((G 0).2.2.2.2.2.2.2.1) ((G 0).2.2.2.2.2.2.2.2.1) ((G 0).2.2.2.2.2.2.2.2.2.1) ((G 0).2.2.2.2.2.2.2.2.2.2.1) ((G 0).2.2.2.2.2.2.2.2.2.2.2.1) ((G 0).2.2.2.2.2.2.2.2.2.2.2.2) c_mover c_phase c_dice c_stake c_cube c_pieces0 c_pieces1 c_score0 c_score1 c_hits0 c_hits1 c_stopped c_stopPart) := hD.sub [3, 8] (by decide) rfl
  refine k_v_c (Wf := (wPa cG ap q hn hasS 0 snp (p_up G 0 (c_mover, c_phase, c_dice, c_stake, c_cube, c_pieces0, c_pieces1, c_score0, c_score1, c_hits0, c_hits1, c_stopped, c_stopPart)) c_mover c_phase c_dice c_stake c_cube c_pieces0 c_pieces1 c_score0 c_score1 c_hits0 c_hits1 c_stopped c_stopPart)) [3, 8] [0, 1, 2, 4, 5, 6, 7] [0, 1, 2, 7, 3, 4, 5, 6, 8] (k_rV (As := [.ref hn]) (rest := []) ⟨hx, hb, hml, hown, hts⟩ hK hN hPc hDc (zX1_copyFrom rfl) (cwV 1 hts gX2_save_X1_copyFrom rfl rfl rfl (by decide +kernel) ⟨Nat.le_of_ble_eq_true rfl, Nat.le_of_ble_eq_true rfl⟩) rfl rfl rfl hl.1 rfl (Nat.le_of_ble_eq_true rfl) dX2_save_27 ⟨Nat.zero_le _, Nat.zero_le _⟩) hP hD hS hA rfl rfl (by decide) (by decide) rfl (by decide) (fun H locs hP hD hS => ?_)
  refine lv_aload_n hx hb dX2_save_30 rfl (lv_at hl 1 rfl) ?_
  refine lv_dup hx hb dX2_save_31 rfl ?_
  refine va_get (D := D) (ci := 1) (v := .int 0) (C := RX2) (T := TX2) (N := 4) hx hb hts hinX2 hown hK hP 0 rfl rfl 3 (by decide) fl24 (fun _ h9 => h9) rfl dX2_save_32 ?_
  refine lv_iconst (v := 1) hx hb dX2_save_35 (by decide) ?_
  refine lv_iadd hx hb dX2_save_36 ?_
  refine W.eq (g2 := F0 m 37 _ (.int 1 :: .ref (ap 0) :: [])) (by rw [show (0 : Int32) + 1 = 1 by decide]) ?_
  refine va_put (D := D) (ci := 1) (v := .int 1) (ty := .int) (C := RX2) (T := TX2) (N := 4) hx hb hts hinX2 tyX2 tyX2_ok nmX2 hown hK hP hD hS 0 rfl rfl 3 (by decide) fl24 (fun _ h9 => h9) rfl (by decide +kernel) rfl rfl (Nat.le_of_ble_eq_true rfl) dX2_save_37 (fun H locs hP hD hS => ?_)
  have hP : va_P D vwCl (wPa cG ap q hn hasS 1 snp (p_up G 0 (c_mover, c_phase, c_dice, c_stake, c_cube, c_pieces0, c_pieces1, c_score0, c_score1, c_hits0, c_hits1, c_stopped, c_stopPart)) c_mover c_phase c_dice c_stake c_cube c_pieces0 c_pieces1 c_score0 c_score1 c_hits0 c_hits1 c_stopped c_stopPart) H := hP
  have hD : va_D A (wPa cG ap q hn hasS 1 snp (p_up G 0 (c_mover, c_phase, c_dice, c_stake, c_cube, c_pieces0, c_pieces1, c_score0, c_score1, c_hits0, c_hits1, c_stopped, c_stopPart)) c_mover c_phase c_dice c_stake c_cube c_pieces0 c_pieces1 c_score0 c_score1 c_hits0 c_hits1 c_stopped c_stopPart) := hD
  exact k_end_vE q hx hb hr hlocks hK hP hD hS dX2_save_40
set_option maxHeartbeats 4000000 in
set_option maxRecDepth 100000 in
theorem zX2_save1 {l : Launch} {D : va_G} {cI cJ cC cG : ClassId} {sz : Nat} {ap q : Nat → Nat} {hn : Nat} {hasS : Bool} {snp : GT} {G : Nat → GT} {c_mover : Int32} {c_phase : Int32} {c_dice : Int32} {c_stake : Int32} {c_cube : Int32} {c_pieces0 : Int64} {c_pieces1 : Int64} {c_score0 : Int32} {c_score1 : Int32} {c_hits0 : Int32} {c_hits1 : Int32} {c_stopped : Bool} {c_stopPart : Int32} : k_MvE l yX2_save wsX2_save rmX2_save D (kT cI cJ cC cG) sz ([.ref (ap 0), .ref hn] : List Value) (wPa cG ap q hn hasS 1 snp G c_mover c_phase c_dice c_stake c_cube c_pieces0 c_pieces1 c_score0 c_score1 c_hits0 c_hits1 c_stopped c_stopPart) (fun u : (Nat → Nat) => (wPa cG ap u hn hasS 2 snp (p_up G 1 (c_mover, c_phase, c_dice, c_stake, c_cube, c_pieces0, c_pieces1, c_score0, c_score1, c_hits0, c_hits1, c_stopped, c_stopPart)) c_mover c_phase c_dice c_stake c_cube c_pieces0 c_pieces1 c_score0 c_score1 c_hits0 c_hits1 c_stopped c_stopPart)) := by
  refine k_st_vE (cc := cX2_save) (maxL := 3) (by decide) rfl (Nat.le_of_ble_eq_true rfl) ?_
  intro p e z m below meth c A hx hb hr hml hts hown hlocks hsz hN hA hK hP hD hS ls hl
  have hown : z.vm.findClass RX2 = some m.cls := hown
  have hinX2 : ∀ w ∈ wsX20, w ∈ wsX2_save := by decide +kernel
  have fl24 := hts (.fieldLink RX2 24 "MagpieRuns$Past" "count" "I") (by decide +kernel)
  have hl : lv_has ls 3 [(0, .ref (ap 0)), (1, .ref hn)] := hl
  refine lv_aload_n hx hb dX2_save_0 rfl (lv_at hl 0 rfl) ?_
  refine va_get (D := D) (ci := 1) (v := .int 1) (C := RX2) (T := TX2) (N := 4) hx hb hts hinX2 hown hK hP 0 rfl rfl 3 (by decide) fl24 (fun _ h9 => h9) rfl dX2_save_1 ?_
  refine lv_iconst (v := 5) hx hb dX2_save_4 (by decide) ?_
  refine lv_icmp_lt (tgt := 12) hx hb dX2_save_5 (by decide) (fun cc => ?_) (fun cc => absurd (by decide) cc)
  refine lv_aload_n hx hb dX2_save_12 rfl (lv_at hl 0 rfl) ?_
  refine lv_aload_n hx hb dX2_save_13 rfl (lv_at hl 0 rfl) ?_
  refine va_get (D := D) (ci := 1) (v := .int 1) (C := RX2) (T := TX2) (N := 4) hx hb hts hinX2 hown hK hP 0 rfl rfl 3 (by decide) fl24 (fun _ h9 => h9) rfl dX2_save_14 ?_
  refine k_q_s (k_rV (As := [.int 1]) (rest := []) ⟨hx, hb, hml, hown, hts⟩ hK hN hP hD zX2_gameAt1 (cwV 1 hts gX2_save_X2_gameAt rfl rfl rfl (by decide +kernel) ⟨Nat.le_of_ble_eq_true rfl, Nat.le_of_ble_eq_true rfl⟩) rfl rfl rfl hl.1 rfl (Nat.le_of_ble_eq_true rfl) dX2_save_17 ⟨Nat.zero_le _, Nat.zero_le _⟩) hD hS hA (fun H locs hP hD hS => ?_)
  refine lv_astore_n (lv' := [(2, .ref (q 1)), (0, .ref (ap 0)), (1, .ref hn)]) hx hb dX2_save_20 rfl hl (by decide) rfl (fun ls hl => ?_)
  refine lv_aload_n hx hb dX2_save_21 rfl (lv_at hl 0 rfl) ?_
  refine lv_ifnull hx hb dX2_save_22 ?_
  refine lv_aload_n hx hb dX2_save_25 rfl (lv_at hl 0 rfl) ?_
  refine lv_aload_n hx hb dX2_save_26 rfl (lv_at hl 2 rfl) ?_
  have hPc : va_P D vwCl (wG2 (q 1) hn ((G 1).1) ((G 1).2.1) ((G 1).2.2.1) ((G 1).2.2.2.1) ((G 1).2.2.2.2.1) ((G 1).2.2.2.2.2.1) ((G 1).2.2.2.2.2.2.1) ((G 1).2.2.2.2.2.2.2.1) ((G 1).2.2.2.2.2.2.2.2.1) ((G 1).2.2.2.2.2.2.2.2.2.1) ((G 1).2.2.2.2.2.2.2.2.2.2.1) ((G 1).2.2.2.2.2.2.2.2.2.2.2.1) ((G 1).2.2.2.2.2.2.2.2.2.2.2.2) c_mover c_phase c_dice c_stake c_cube c_pieces0 c_pieces1 c_score0 c_score1 c_hits0 c_hits1 c_stopped c_stopPart) _ := k_Psub hP [4, 8] rfl
  have hDc : va_D A (wG2 (q 1) hn ((G 1).1) ((G 1).2.1) ((G 1).2.2.1) ((G 1).2.2.2.1) ((G 1).2.2.2.2.1) ((G 1).2.2.2.2.2.1) ((G 1).2.2.2.2.2.2.1) ((G 1).2.2.2.2.2.2.2.1) ((G 1).2.2.2.2.2.2.2.2.1) ((G 1).2.2.2.2.2.2.2.2.2.1) ((G 1).2.2.2.2.2.2.2.2.2.2.1) ((G 1).2.2.2.2.2.2.2.2.2.2.2.1) ((G 1).2.2.2.2.2.2.2.2.2.2.2.2) c_mover c_phase c_dice c_stake c_cube c_pieces0 c_pieces1 c_score0 c_score1 c_hits0 c_hits1 c_stopped c_stopPart) := hD.sub [4, 8] (by decide) rfl
  refine k_v_c (Wf := (wPa cG ap q hn hasS 1 snp (p_up G 1 (c_mover, c_phase, c_dice, c_stake, c_cube, c_pieces0, c_pieces1, c_score0, c_score1, c_hits0, c_hits1, c_stopped, c_stopPart)) c_mover c_phase c_dice c_stake c_cube c_pieces0 c_pieces1 c_score0 c_score1 c_hits0 c_hits1 c_stopped c_stopPart)) [4, 8] [0, 1, 2, 3, 5, 6, 7] [0, 1, 2, 3, 7, 4, 5, 6, 8] (k_rV (As := [.ref hn]) (rest := []) ⟨hx, hb, hml, hown, hts⟩ hK hN hPc hDc (zX1_copyFrom rfl) (cwV 1 hts gX2_save_X1_copyFrom rfl rfl rfl (by decide +kernel) ⟨Nat.le_of_ble_eq_true rfl, Nat.le_of_ble_eq_true rfl⟩) rfl rfl rfl hl.1 rfl (Nat.le_of_ble_eq_true rfl) dX2_save_27 ⟨Nat.zero_le _, Nat.zero_le _⟩) hP hD hS hA rfl rfl (by decide) (by decide) rfl (by decide) (fun H locs hP hD hS => ?_)
  refine lv_aload_n hx hb dX2_save_30 rfl (lv_at hl 1 rfl) ?_
  refine lv_dup hx hb dX2_save_31 rfl ?_
  refine va_get (D := D) (ci := 1) (v := .int 1) (C := RX2) (T := TX2) (N := 4) hx hb hts hinX2 hown hK hP 0 rfl rfl 3 (by decide) fl24 (fun _ h9 => h9) rfl dX2_save_32 ?_
  refine lv_iconst (v := 1) hx hb dX2_save_35 (by decide) ?_
  refine lv_iadd hx hb dX2_save_36 ?_
  refine W.eq (g2 := F0 m 37 _ (.int 2 :: .ref (ap 0) :: [])) (by rw [show (1 : Int32) + 1 = 2 by decide]) ?_
  refine va_put (D := D) (ci := 1) (v := .int 2) (ty := .int) (C := RX2) (T := TX2) (N := 4) hx hb hts hinX2 tyX2 tyX2_ok nmX2 hown hK hP hD hS 0 rfl rfl 3 (by decide) fl24 (fun _ h9 => h9) rfl (by decide +kernel) rfl rfl (Nat.le_of_ble_eq_true rfl) dX2_save_37 (fun H locs hP hD hS => ?_)
  have hP : va_P D vwCl (wPa cG ap q hn hasS 2 snp (p_up G 1 (c_mover, c_phase, c_dice, c_stake, c_cube, c_pieces0, c_pieces1, c_score0, c_score1, c_hits0, c_hits1, c_stopped, c_stopPart)) c_mover c_phase c_dice c_stake c_cube c_pieces0 c_pieces1 c_score0 c_score1 c_hits0 c_hits1 c_stopped c_stopPart) H := hP
  have hD : va_D A (wPa cG ap q hn hasS 2 snp (p_up G 1 (c_mover, c_phase, c_dice, c_stake, c_cube, c_pieces0, c_pieces1, c_score0, c_score1, c_hits0, c_hits1, c_stopped, c_stopPart)) c_mover c_phase c_dice c_stake c_cube c_pieces0 c_pieces1 c_score0 c_score1 c_hits0 c_hits1 c_stopped c_stopPart) := hD
  exact k_end_vE q hx hb hr hlocks hK hP hD hS dX2_save_40
set_option maxHeartbeats 4000000 in
set_option maxRecDepth 100000 in
theorem zX2_save2 {l : Launch} {D : va_G} {cI cJ cC cG : ClassId} {sz : Nat} {ap q : Nat → Nat} {hn : Nat} {hasS : Bool} {snp : GT} {G : Nat → GT} {c_mover : Int32} {c_phase : Int32} {c_dice : Int32} {c_stake : Int32} {c_cube : Int32} {c_pieces0 : Int64} {c_pieces1 : Int64} {c_score0 : Int32} {c_score1 : Int32} {c_hits0 : Int32} {c_hits1 : Int32} {c_stopped : Bool} {c_stopPart : Int32} : k_MvE l yX2_save wsX2_save rmX2_save D (kT cI cJ cC cG) sz ([.ref (ap 0), .ref hn] : List Value) (wPa cG ap q hn hasS 2 snp G c_mover c_phase c_dice c_stake c_cube c_pieces0 c_pieces1 c_score0 c_score1 c_hits0 c_hits1 c_stopped c_stopPart) (fun u : (Nat → Nat) => (wPa cG ap u hn hasS 3 snp (p_up G 2 (c_mover, c_phase, c_dice, c_stake, c_cube, c_pieces0, c_pieces1, c_score0, c_score1, c_hits0, c_hits1, c_stopped, c_stopPart)) c_mover c_phase c_dice c_stake c_cube c_pieces0 c_pieces1 c_score0 c_score1 c_hits0 c_hits1 c_stopped c_stopPart)) := by
  refine k_st_vE (cc := cX2_save) (maxL := 3) (by decide) rfl (Nat.le_of_ble_eq_true rfl) ?_
  intro p e z m below meth c A hx hb hr hml hts hown hlocks hsz hN hA hK hP hD hS ls hl
  have hown : z.vm.findClass RX2 = some m.cls := hown
  have hinX2 : ∀ w ∈ wsX20, w ∈ wsX2_save := by decide +kernel
  have fl24 := hts (.fieldLink RX2 24 "MagpieRuns$Past" "count" "I") (by decide +kernel)
  have hl : lv_has ls 3 [(0, .ref (ap 0)), (1, .ref hn)] := hl
  refine lv_aload_n hx hb dX2_save_0 rfl (lv_at hl 0 rfl) ?_
  refine va_get (D := D) (ci := 1) (v := .int 2) (C := RX2) (T := TX2) (N := 4) hx hb hts hinX2 hown hK hP 0 rfl rfl 3 (by decide) fl24 (fun _ h9 => h9) rfl dX2_save_1 ?_
  refine lv_iconst (v := 5) hx hb dX2_save_4 (by decide) ?_
  refine lv_icmp_lt (tgt := 12) hx hb dX2_save_5 (by decide) (fun cc => ?_) (fun cc => absurd (by decide) cc)
  refine lv_aload_n hx hb dX2_save_12 rfl (lv_at hl 0 rfl) ?_
  refine lv_aload_n hx hb dX2_save_13 rfl (lv_at hl 0 rfl) ?_
  refine va_get (D := D) (ci := 1) (v := .int 2) (C := RX2) (T := TX2) (N := 4) hx hb hts hinX2 hown hK hP 0 rfl rfl 3 (by decide) fl24 (fun _ h9 => h9) rfl dX2_save_14 ?_
  refine k_q_s (k_rV (As := [.int 2]) (rest := []) ⟨hx, hb, hml, hown, hts⟩ hK hN hP hD zX2_gameAt2 (cwV 1 hts gX2_save_X2_gameAt rfl rfl rfl (by decide +kernel) ⟨Nat.le_of_ble_eq_true rfl, Nat.le_of_ble_eq_true rfl⟩) rfl rfl rfl hl.1 rfl (Nat.le_of_ble_eq_true rfl) dX2_save_17 ⟨Nat.zero_le _, Nat.zero_le _⟩) hD hS hA (fun H locs hP hD hS => ?_)
  refine lv_astore_n (lv' := [(2, .ref (q 2)), (0, .ref (ap 0)), (1, .ref hn)]) hx hb dX2_save_20 rfl hl (by decide) rfl (fun ls hl => ?_)
  refine lv_aload_n hx hb dX2_save_21 rfl (lv_at hl 0 rfl) ?_
  refine lv_ifnull hx hb dX2_save_22 ?_
  refine lv_aload_n hx hb dX2_save_25 rfl (lv_at hl 0 rfl) ?_
  refine lv_aload_n hx hb dX2_save_26 rfl (lv_at hl 2 rfl) ?_
  have hPc : va_P D vwCl (wG2 (q 2) hn ((G 2).1) ((G 2).2.1) ((G 2).2.2.1) ((G 2).2.2.2.1) ((G 2).2.2.2.2.1) ((G 2).2.2.2.2.2.1) ((G 2).2.2.2.2.2.2.1) ((G 2).2.2.2.2.2.2.2.1) ((G 2).2.2.2.2.2.2.2.2.1) ((G 2).2.2.2.2.2.2.2.2.2.1) ((G 2).2.2.2.2.2.2.2.2.2.2.1) ((G 2).2.2.2.2.2.2.2.2.2.2.2.1) ((G 2).2.2.2.2.2.2.2.2.2.2.2.2) c_mover c_phase c_dice c_stake c_cube c_pieces0 c_pieces1 c_score0 c_score1 c_hits0 c_hits1 c_stopped c_stopPart) _ := k_Psub hP [5, 8] rfl
  have hDc : va_D A (wG2 (q 2) hn ((G 2).1) ((G 2).2.1) ((G 2).2.2.1) ((G 2).2.2.2.1) ((G 2).2.2.2.2.1) ((G 2).2.2.2.2.2.1) ((G 2).2.2.2.2.2.2.1) ((G 2).2.2.2.2.2.2.2.1) ((G 2).2.2.2.2.2.2.2.2.1) ((G 2).2.2.2.2.2.2.2.2.2.1) ((G 2).2.2.2.2.2.2.2.2.2.2.1) ((G 2).2.2.2.2.2.2.2.2.2.2.2.1) ((G 2).2.2.2.2.2.2.2.2.2.2.2.2) c_mover c_phase c_dice c_stake c_cube c_pieces0 c_pieces1 c_score0 c_score1 c_hits0 c_hits1 c_stopped c_stopPart) := hD.sub [5, 8] (by decide) rfl
  refine k_v_c (Wf := (wPa cG ap q hn hasS 2 snp (p_up G 2 (c_mover, c_phase, c_dice, c_stake, c_cube, c_pieces0, c_pieces1, c_score0, c_score1, c_hits0, c_hits1, c_stopped, c_stopPart)) c_mover c_phase c_dice c_stake c_cube c_pieces0 c_pieces1 c_score0 c_score1 c_hits0 c_hits1 c_stopped c_stopPart)) [5, 8] [0, 1, 2, 3, 4, 6, 7] [0, 1, 2, 3, 4, 7, 5, 6, 8] (k_rV (As := [.ref hn]) (rest := []) ⟨hx, hb, hml, hown, hts⟩ hK hN hPc hDc (zX1_copyFrom rfl) (cwV 1 hts gX2_save_X1_copyFrom rfl rfl rfl (by decide +kernel) ⟨Nat.le_of_ble_eq_true rfl, Nat.le_of_ble_eq_true rfl⟩) rfl rfl rfl hl.1 rfl (Nat.le_of_ble_eq_true rfl) dX2_save_27 ⟨Nat.zero_le _, Nat.zero_le _⟩) hP hD hS hA rfl rfl (by decide) (by decide) rfl (by decide) (fun H locs hP hD hS => ?_)
  refine lv_aload_n hx hb dX2_save_30 rfl (lv_at hl 1 rfl) ?_
  refine lv_dup hx hb dX2_save_31 rfl ?_
  refine va_get (D := D) (ci := 1) (v := .int 2) (C := RX2) (T := TX2) (N := 4) hx hb hts hinX2 hown hK hP 0 rfl rfl 3 (by decide) fl24 (fun _ h9 => h9) rfl dX2_save_32 ?_
  refine lv_iconst (v := 1) hx hb dX2_save_35 (by decide) ?_
  refine lv_iadd hx hb dX2_save_36 ?_
  refine W.eq (g2 := F0 m 37 _ (.int 3 :: .ref (ap 0) :: [])) (by rw [show (2 : Int32) + 1 = 3 by decide]) ?_
  refine va_put (D := D) (ci := 1) (v := .int 3) (ty := .int) (C := RX2) (T := TX2) (N := 4) hx hb hts hinX2 tyX2 tyX2_ok nmX2 hown hK hP hD hS 0 rfl rfl 3 (by decide) fl24 (fun _ h9 => h9) rfl (by decide +kernel) rfl rfl (Nat.le_of_ble_eq_true rfl) dX2_save_37 (fun H locs hP hD hS => ?_)
  have hP : va_P D vwCl (wPa cG ap q hn hasS 3 snp (p_up G 2 (c_mover, c_phase, c_dice, c_stake, c_cube, c_pieces0, c_pieces1, c_score0, c_score1, c_hits0, c_hits1, c_stopped, c_stopPart)) c_mover c_phase c_dice c_stake c_cube c_pieces0 c_pieces1 c_score0 c_score1 c_hits0 c_hits1 c_stopped c_stopPart) H := hP
  have hD : va_D A (wPa cG ap q hn hasS 3 snp (p_up G 2 (c_mover, c_phase, c_dice, c_stake, c_cube, c_pieces0, c_pieces1, c_score0, c_score1, c_hits0, c_hits1, c_stopped, c_stopPart)) c_mover c_phase c_dice c_stake c_cube c_pieces0 c_pieces1 c_score0 c_score1 c_hits0 c_hits1 c_stopped c_stopPart) := hD
  exact k_end_vE q hx hb hr hlocks hK hP hD hS dX2_save_40
set_option maxHeartbeats 4000000 in
set_option maxRecDepth 100000 in
theorem zX2_save3 {l : Launch} {D : va_G} {cI cJ cC cG : ClassId} {sz : Nat} {ap q : Nat → Nat} {hn : Nat} {hasS : Bool} {snp : GT} {G : Nat → GT} {c_mover : Int32} {c_phase : Int32} {c_dice : Int32} {c_stake : Int32} {c_cube : Int32} {c_pieces0 : Int64} {c_pieces1 : Int64} {c_score0 : Int32} {c_score1 : Int32} {c_hits0 : Int32} {c_hits1 : Int32} {c_stopped : Bool} {c_stopPart : Int32} : k_MvE l yX2_save wsX2_save rmX2_save D (kT cI cJ cC cG) sz ([.ref (ap 0), .ref hn] : List Value) (wPa cG ap q hn hasS 3 snp G c_mover c_phase c_dice c_stake c_cube c_pieces0 c_pieces1 c_score0 c_score1 c_hits0 c_hits1 c_stopped c_stopPart) (fun u : (Nat → Nat) => (wPa cG ap u hn hasS 4 snp (p_up G 3 (c_mover, c_phase, c_dice, c_stake, c_cube, c_pieces0, c_pieces1, c_score0, c_score1, c_hits0, c_hits1, c_stopped, c_stopPart)) c_mover c_phase c_dice c_stake c_cube c_pieces0 c_pieces1 c_score0 c_score1 c_hits0 c_hits1 c_stopped c_stopPart)) := by
  refine k_st_vE (cc := cX2_save) (maxL := 3) (by decide) rfl (Nat.le_of_ble_eq_true rfl) ?_
  intro p e z m below meth c A hx hb hr hml hts hown hlocks hsz hN hA hK hP hD hS ls hl
  have hown : z.vm.findClass RX2 = some m.cls := hown
  have hinX2 : ∀ w ∈ wsX20, w ∈ wsX2_save := by decide +kernel
  have fl24 := hts (.fieldLink RX2 24 "MagpieRuns$Past" "count" "I") (by decide +kernel)
  have hl : lv_has ls 3 [(0, .ref (ap 0)), (1, .ref hn)] := hl
  refine lv_aload_n hx hb dX2_save_0 rfl (lv_at hl 0 rfl) ?_
  refine va_get (D := D) (ci := 1) (v := .int 3) (C := RX2) (T := TX2) (N := 4) hx hb hts hinX2 hown hK hP 0 rfl rfl 3 (by decide) fl24 (fun _ h9 => h9) rfl dX2_save_1 ?_
  refine lv_iconst (v := 5) hx hb dX2_save_4 (by decide) ?_
  refine lv_icmp_lt (tgt := 12) hx hb dX2_save_5 (by decide) (fun cc => ?_) (fun cc => absurd (by decide) cc)
  refine lv_aload_n hx hb dX2_save_12 rfl (lv_at hl 0 rfl) ?_
  refine lv_aload_n hx hb dX2_save_13 rfl (lv_at hl 0 rfl) ?_
  refine va_get (D := D) (ci := 1) (v := .int 3) (C := RX2) (T := TX2) (N := 4) hx hb hts hinX2 hown hK hP 0 rfl rfl 3 (by decide) fl24 (fun _ h9 => h9) rfl dX2_save_14 ?_
  refine k_q_s (k_rV (As := [.int 3]) (rest := []) ⟨hx, hb, hml, hown, hts⟩ hK hN hP hD zX2_gameAt3 (cwV 1 hts gX2_save_X2_gameAt rfl rfl rfl (by decide +kernel) ⟨Nat.le_of_ble_eq_true rfl, Nat.le_of_ble_eq_true rfl⟩) rfl rfl rfl hl.1 rfl (Nat.le_of_ble_eq_true rfl) dX2_save_17 ⟨Nat.zero_le _, Nat.zero_le _⟩) hD hS hA (fun H locs hP hD hS => ?_)
  refine lv_astore_n (lv' := [(2, .ref (q 3)), (0, .ref (ap 0)), (1, .ref hn)]) hx hb dX2_save_20 rfl hl (by decide) rfl (fun ls hl => ?_)
  refine lv_aload_n hx hb dX2_save_21 rfl (lv_at hl 0 rfl) ?_
  refine lv_ifnull hx hb dX2_save_22 ?_
  refine lv_aload_n hx hb dX2_save_25 rfl (lv_at hl 0 rfl) ?_
  refine lv_aload_n hx hb dX2_save_26 rfl (lv_at hl 2 rfl) ?_
  have hPc : va_P D vwCl (wG2 (q 3) hn ((G 3).1) ((G 3).2.1) ((G 3).2.2.1) ((G 3).2.2.2.1) ((G 3).2.2.2.2.1) ((G 3).2.2.2.2.2.1) ((G 3).2.2.2.2.2.2.1) ((G 3).2.2.2.2.2.2.2.1) ((G 3).2.2.2.2.2.2.2.2.1) ((G 3).2.2.2.2.2.2.2.2.2.1) ((G 3).2.2.2.2.2.2.2.2.2.2.1) ((G 3).2.2.2.2.2.2.2.2.2.2.2.1) ((G 3).2.2.2.2.2.2.2.2.2.2.2.2) c_mover c_phase c_dice c_stake c_cube c_pieces0 c_pieces1 c_score0 c_score1 c_hits0 c_hits1 c_stopped c_stopPart) _ := k_Psub hP [6, 8] rfl
  have hDc : va_D A (wG2 (q 3) hn ((G 3).1) ((G 3).2.1) ((G 3).2.2.1) ((G 3).2.2.2.1) ((G 3).2.2.2.2.1) ((G 3).2.2.2.2.2.1) ((G 3).2.2.2.2.2.2.1) ((G 3).2.2.2.2.2.2.2.1) ((G 3).2.2.2.2.2.2.2.2.1) ((G 3).2.2.2.2.2.2.2.2.2.1) ((G 3).2.2.2.2.2.2.2.2.2.2.1) ((G 3).2.2.2.2.2.2.2.2.2.2.2.1) ((G 3).2.2.2.2.2.2.2.2.2.2.2.2) c_mover c_phase c_dice c_stake c_cube c_pieces0 c_pieces1 c_score0 c_score1 c_hits0 c_hits1 c_stopped c_stopPart) := hD.sub [6, 8] (by decide) rfl
  refine k_v_c (Wf := (wPa cG ap q hn hasS 3 snp (p_up G 3 (c_mover, c_phase, c_dice, c_stake, c_cube, c_pieces0, c_pieces1, c_score0, c_score1, c_hits0, c_hits1, c_stopped, c_stopPart)) c_mover c_phase c_dice c_stake c_cube c_pieces0 c_pieces1 c_score0 c_score1 c_hits0 c_hits1 c_stopped c_stopPart)) [6, 8] [0, 1, 2, 3, 4, 5, 7] [0, 1, 2, 3, 4, 5, 7, 6, 8] (k_rV (As := [.ref hn]) (rest := []) ⟨hx, hb, hml, hown, hts⟩ hK hN hPc hDc (zX1_copyFrom rfl) (cwV 1 hts gX2_save_X1_copyFrom rfl rfl rfl (by decide +kernel) ⟨Nat.le_of_ble_eq_true rfl, Nat.le_of_ble_eq_true rfl⟩) rfl rfl rfl hl.1 rfl (Nat.le_of_ble_eq_true rfl) dX2_save_27 ⟨Nat.zero_le _, Nat.zero_le _⟩) hP hD hS hA rfl rfl (by decide) (by decide) rfl (by decide) (fun H locs hP hD hS => ?_)
  refine lv_aload_n hx hb dX2_save_30 rfl (lv_at hl 1 rfl) ?_
  refine lv_dup hx hb dX2_save_31 rfl ?_
  refine va_get (D := D) (ci := 1) (v := .int 3) (C := RX2) (T := TX2) (N := 4) hx hb hts hinX2 hown hK hP 0 rfl rfl 3 (by decide) fl24 (fun _ h9 => h9) rfl dX2_save_32 ?_
  refine lv_iconst (v := 1) hx hb dX2_save_35 (by decide) ?_
  refine lv_iadd hx hb dX2_save_36 ?_
  refine W.eq (g2 := F0 m 37 _ (.int 4 :: .ref (ap 0) :: [])) (by rw [show (3 : Int32) + 1 = 4 by decide]) ?_
  refine va_put (D := D) (ci := 1) (v := .int 4) (ty := .int) (C := RX2) (T := TX2) (N := 4) hx hb hts hinX2 tyX2 tyX2_ok nmX2 hown hK hP hD hS 0 rfl rfl 3 (by decide) fl24 (fun _ h9 => h9) rfl (by decide +kernel) rfl rfl (Nat.le_of_ble_eq_true rfl) dX2_save_37 (fun H locs hP hD hS => ?_)
  have hP : va_P D vwCl (wPa cG ap q hn hasS 4 snp (p_up G 3 (c_mover, c_phase, c_dice, c_stake, c_cube, c_pieces0, c_pieces1, c_score0, c_score1, c_hits0, c_hits1, c_stopped, c_stopPart)) c_mover c_phase c_dice c_stake c_cube c_pieces0 c_pieces1 c_score0 c_score1 c_hits0 c_hits1 c_stopped c_stopPart) H := hP
  have hD : va_D A (wPa cG ap q hn hasS 4 snp (p_up G 3 (c_mover, c_phase, c_dice, c_stake, c_cube, c_pieces0, c_pieces1, c_score0, c_score1, c_hits0, c_hits1, c_stopped, c_stopPart)) c_mover c_phase c_dice c_stake c_cube c_pieces0 c_pieces1 c_score0 c_score1 c_hits0 c_hits1 c_stopped c_stopPart) := hD
  exact k_end_vE q hx hb hr hlocks hK hP hD hS dX2_save_40
set_option maxHeartbeats 4000000 in
set_option maxRecDepth 100000 in
theorem zX2_save4 {l : Launch} {D : va_G} {cI cJ cC cG : ClassId} {sz : Nat} {ap q : Nat → Nat} {hn : Nat} {hasS : Bool} {snp : GT} {G : Nat → GT} {c_mover : Int32} {c_phase : Int32} {c_dice : Int32} {c_stake : Int32} {c_cube : Int32} {c_pieces0 : Int64} {c_pieces1 : Int64} {c_score0 : Int32} {c_score1 : Int32} {c_hits0 : Int32} {c_hits1 : Int32} {c_stopped : Bool} {c_stopPart : Int32} : k_MvE l yX2_save wsX2_save rmX2_save D (kT cI cJ cC cG) sz ([.ref (ap 0), .ref hn] : List Value) (wPa cG ap q hn hasS 4 snp G c_mover c_phase c_dice c_stake c_cube c_pieces0 c_pieces1 c_score0 c_score1 c_hits0 c_hits1 c_stopped c_stopPart) (fun u : (Nat → Nat) => (wPa cG ap u hn hasS 5 snp (p_up G 4 (c_mover, c_phase, c_dice, c_stake, c_cube, c_pieces0, c_pieces1, c_score0, c_score1, c_hits0, c_hits1, c_stopped, c_stopPart)) c_mover c_phase c_dice c_stake c_cube c_pieces0 c_pieces1 c_score0 c_score1 c_hits0 c_hits1 c_stopped c_stopPart)) := by
  refine k_st_vE (cc := cX2_save) (maxL := 3) (by decide) rfl (Nat.le_of_ble_eq_true rfl) ?_
  intro p e z m below meth c A hx hb hr hml hts hown hlocks hsz hN hA hK hP hD hS ls hl
  have hown : z.vm.findClass RX2 = some m.cls := hown
  have hinX2 : ∀ w ∈ wsX20, w ∈ wsX2_save := by decide +kernel
  have fl24 := hts (.fieldLink RX2 24 "MagpieRuns$Past" "count" "I") (by decide +kernel)
  have hl : lv_has ls 3 [(0, .ref (ap 0)), (1, .ref hn)] := hl
  refine lv_aload_n hx hb dX2_save_0 rfl (lv_at hl 0 rfl) ?_
  refine va_get (D := D) (ci := 1) (v := .int 4) (C := RX2) (T := TX2) (N := 4) hx hb hts hinX2 hown hK hP 0 rfl rfl 3 (by decide) fl24 (fun _ h9 => h9) rfl dX2_save_1 ?_
  refine lv_iconst (v := 5) hx hb dX2_save_4 (by decide) ?_
  refine lv_icmp_lt (tgt := 12) hx hb dX2_save_5 (by decide) (fun cc => ?_) (fun cc => absurd (by decide) cc)
  refine lv_aload_n hx hb dX2_save_12 rfl (lv_at hl 0 rfl) ?_
  refine lv_aload_n hx hb dX2_save_13 rfl (lv_at hl 0 rfl) ?_
  refine va_get (D := D) (ci := 1) (v := .int 4) (C := RX2) (T := TX2) (N := 4) hx hb hts hinX2 hown hK hP 0 rfl rfl 3 (by decide) fl24 (fun _ h9 => h9) rfl dX2_save_14 ?_
  refine k_q_s (k_rV (As := [.int 4]) (rest := []) ⟨hx, hb, hml, hown, hts⟩ hK hN hP hD zX2_gameAt4 (cwV 1 hts gX2_save_X2_gameAt rfl rfl rfl (by decide +kernel) ⟨Nat.le_of_ble_eq_true rfl, Nat.le_of_ble_eq_true rfl⟩) rfl rfl rfl hl.1 rfl (Nat.le_of_ble_eq_true rfl) dX2_save_17 ⟨Nat.zero_le _, Nat.zero_le _⟩) hD hS hA (fun H locs hP hD hS => ?_)
  refine lv_astore_n (lv' := [(2, .ref (q 4)), (0, .ref (ap 0)), (1, .ref hn)]) hx hb dX2_save_20 rfl hl (by decide) rfl (fun ls hl => ?_)
  refine lv_aload_n hx hb dX2_save_21 rfl (lv_at hl 0 rfl) ?_
  refine lv_ifnull hx hb dX2_save_22 ?_
  refine lv_aload_n hx hb dX2_save_25 rfl (lv_at hl 0 rfl) ?_
  refine lv_aload_n hx hb dX2_save_26 rfl (lv_at hl 2 rfl) ?_
  have hPc : va_P D vwCl (wG2 (q 4) hn ((G 4).1) ((G 4).2.1) ((G 4).2.2.1) ((G 4).2.2.2.1) ((G 4).2.2.2.2.1) ((G 4).2.2.2.2.2.1) ((G 4).2.2.2.2.2.2.1) ((G 4).2.2.2.2.2.2.2.1) ((G 4).2.2.2.2.2.2.2.2.1) ((G 4).2.2.2.2.2.2.2.2.2.1) ((G 4).2.2.2.2.2.2.2.2.2.2.1) ((G 4).2.2.2.2.2.2.2.2.2.2.2.1) ((G 4).2.2.2.2.2.2.2.2.2.2.2.2) c_mover c_phase c_dice c_stake c_cube c_pieces0 c_pieces1 c_score0 c_score1 c_hits0 c_hits1 c_stopped c_stopPart) _ := k_Psub hP [7, 8] rfl
  have hDc : va_D A (wG2 (q 4) hn ((G 4).1) ((G 4).2.1) ((G 4).2.2.1) ((G 4).2.2.2.1) ((G 4).2.2.2.2.1) ((G 4).2.2.2.2.2.1) ((G 4).2.2.2.2.2.2.1) ((G 4).2.2.2.2.2.2.2.1) ((G 4).2.2.2.2.2.2.2.2.1) ((G 4).2.2.2.2.2.2.2.2.2.1) ((G 4).2.2.2.2.2.2.2.2.2.2.1) ((G 4).2.2.2.2.2.2.2.2.2.2.2.1) ((G 4).2.2.2.2.2.2.2.2.2.2.2.2) c_mover c_phase c_dice c_stake c_cube c_pieces0 c_pieces1 c_score0 c_score1 c_hits0 c_hits1 c_stopped c_stopPart) := hD.sub [7, 8] (by decide) rfl
  refine k_v_c (Wf := (wPa cG ap q hn hasS 4 snp (p_up G 4 (c_mover, c_phase, c_dice, c_stake, c_cube, c_pieces0, c_pieces1, c_score0, c_score1, c_hits0, c_hits1, c_stopped, c_stopPart)) c_mover c_phase c_dice c_stake c_cube c_pieces0 c_pieces1 c_score0 c_score1 c_hits0 c_hits1 c_stopped c_stopPart)) [7, 8] [0, 1, 2, 3, 4, 5, 6] [0, 1, 2, 3, 4, 5, 6, 7, 8] (k_rV (As := [.ref hn]) (rest := []) ⟨hx, hb, hml, hown, hts⟩ hK hN hPc hDc (zX1_copyFrom rfl) (cwV 1 hts gX2_save_X1_copyFrom rfl rfl rfl (by decide +kernel) ⟨Nat.le_of_ble_eq_true rfl, Nat.le_of_ble_eq_true rfl⟩) rfl rfl rfl hl.1 rfl (Nat.le_of_ble_eq_true rfl) dX2_save_27 ⟨Nat.zero_le _, Nat.zero_le _⟩) hP hD hS hA rfl rfl (by decide) (by decide) rfl (by decide) (fun H locs hP hD hS => ?_)
  refine lv_aload_n hx hb dX2_save_30 rfl (lv_at hl 1 rfl) ?_
  refine lv_dup hx hb dX2_save_31 rfl ?_
  refine va_get (D := D) (ci := 1) (v := .int 4) (C := RX2) (T := TX2) (N := 4) hx hb hts hinX2 hown hK hP 0 rfl rfl 3 (by decide) fl24 (fun _ h9 => h9) rfl dX2_save_32 ?_
  refine lv_iconst (v := 1) hx hb dX2_save_35 (by decide) ?_
  refine lv_iadd hx hb dX2_save_36 ?_
  refine W.eq (g2 := F0 m 37 _ (.int 5 :: .ref (ap 0) :: [])) (by rw [show (4 : Int32) + 1 = 5 by decide]) ?_
  refine va_put (D := D) (ci := 1) (v := .int 5) (ty := .int) (C := RX2) (T := TX2) (N := 4) hx hb hts hinX2 tyX2 tyX2_ok nmX2 hown hK hP hD hS 0 rfl rfl 3 (by decide) fl24 (fun _ h9 => h9) rfl (by decide +kernel) rfl rfl (Nat.le_of_ble_eq_true rfl) dX2_save_37 (fun H locs hP hD hS => ?_)
  have hP : va_P D vwCl (wPa cG ap q hn hasS 5 snp (p_up G 4 (c_mover, c_phase, c_dice, c_stake, c_cube, c_pieces0, c_pieces1, c_score0, c_score1, c_hits0, c_hits1, c_stopped, c_stopPart)) c_mover c_phase c_dice c_stake c_cube c_pieces0 c_pieces1 c_score0 c_score1 c_hits0 c_hits1 c_stopped c_stopPart) H := hP
  have hD : va_D A (wPa cG ap q hn hasS 5 snp (p_up G 4 (c_mover, c_phase, c_dice, c_stake, c_cube, c_pieces0, c_pieces1, c_score0, c_score1, c_hits0, c_hits1, c_stopped, c_stopPart)) c_mover c_phase c_dice c_stake c_cube c_pieces0 c_pieces1 c_score0 c_score1 c_hits0 c_hits1 c_stopped c_stopPart) := hD
  exact k_end_vE q hx hb hr hlocks hK hP hD hS dX2_save_40
set_option maxHeartbeats 4000000 in
set_option maxRecDepth 100000 in
theorem zX2_save5 {l : Launch} {D : va_G} {cI cJ cC cG : ClassId} {sz : Nat} {ap q : Nat → Nat} {hn : Nat} {hasS : Bool} {snp : GT} {G : Nat → GT} {c_mover : Int32} {c_phase : Int32} {c_dice : Int32} {c_stake : Int32} {c_cube : Int32} {c_pieces0 : Int64} {c_pieces1 : Int64} {c_score0 : Int32} {c_score1 : Int32} {c_hits0 : Int32} {c_hits1 : Int32} {c_stopped : Bool} {c_stopPart : Int32} : k_MvE l yX2_save wsX2_save rmX2_save D (kT cI cJ cC cG) sz ([.ref (ap 0), .ref hn] : List Value) (wPa cG ap q hn hasS 5 snp G c_mover c_phase c_dice c_stake c_cube c_pieces0 c_pieces1 c_score0 c_score1 c_hits0 c_hits1 c_stopped c_stopPart) (fun u : (Nat → Nat) => (wPa cG ap u hn hasS 5 snp (p_up (p_rot G) 4 (c_mover, c_phase, c_dice, c_stake, c_cube, c_pieces0, c_pieces1, c_score0, c_score1, c_hits0, c_hits1, c_stopped, c_stopPart)) c_mover c_phase c_dice c_stake c_cube c_pieces0 c_pieces1 c_score0 c_score1 c_hits0 c_hits1 c_stopped c_stopPart)) := by
  refine k_st_vE (cc := cX2_save) (maxL := 3) (by decide) rfl (Nat.le_of_ble_eq_true rfl) ?_
  intro p e z m below meth c A hx hb hr hml hts hown hlocks hsz hN hA hK hP hD hS ls hl
  have hown : z.vm.findClass RX2 = some m.cls := hown
  have hinX2 : ∀ w ∈ wsX20, w ∈ wsX2_save := by decide +kernel
  have fl24 := hts (.fieldLink RX2 24 "MagpieRuns$Past" "count" "I") (by decide +kernel)
  have hl : lv_has ls 3 [(0, .ref (ap 0)), (1, .ref hn)] := hl
  refine lv_aload_n hx hb dX2_save_0 rfl (lv_at hl 0 rfl) ?_
  refine va_get (D := D) (ci := 1) (v := .int 5) (C := RX2) (T := TX2) (N := 4) hx hb hts hinX2 hown hK hP 0 rfl rfl 3 (by decide) fl24 (fun _ h9 => h9) rfl dX2_save_1 ?_
  refine lv_iconst (v := 5) hx hb dX2_save_4 (by decide) ?_
  refine lv_icmp_lt (tgt := 12) hx hb dX2_save_5 (by decide) (fun cc => absurd cc (by decide)) (fun cc => ?_)
  refine lv_aload_n hx hb dX2_save_8 rfl (lv_at hl 0 rfl) ?_
  refine k_v_s (k_rV (As := []) (rest := []) ⟨hx, hb, hml, hown, hts⟩ hK hN hP hD zX2_dropOldest (cwV 0 hts gX2_save_X2_dropOldest rfl rfl rfl (by decide +kernel) ⟨Nat.le_of_ble_eq_true rfl, Nat.le_of_ble_eq_true rfl⟩) rfl rfl rfl hl.1 rfl (Nat.le_of_ble_eq_true rfl) dX2_save_9 ⟨Nat.zero_le _, Nat.zero_le _⟩) hD hS hA (fun H locs hP hD hS => ?_)
  refine lv_aload_n hx hb dX2_save_12 rfl (lv_at hl 0 rfl) ?_
  refine lv_aload_n hx hb dX2_save_13 rfl (lv_at hl 0 rfl) ?_
  refine va_get (D := D) (ci := 1) (v := .int 4) (C := RX2) (T := TX2) (N := 4) hx hb hts hinX2 hown hK hP 0 rfl rfl 3 (by decide) fl24 (fun _ h9 => h9) rfl dX2_save_14 ?_
  refine k_q_s (k_rV (As := [.int 4]) (rest := []) ⟨hx, hb, hml, hown, hts⟩ hK hN hP hD zX2_gameAt4 (cwV 1 hts gX2_save_X2_gameAt rfl rfl rfl (by decide +kernel) ⟨Nat.le_of_ble_eq_true rfl, Nat.le_of_ble_eq_true rfl⟩) rfl rfl rfl hl.1 rfl (Nat.le_of_ble_eq_true rfl) dX2_save_17 ⟨Nat.zero_le _, Nat.zero_le _⟩) hD hS hA (fun H locs hP hD hS => ?_)
  refine lv_astore_n (lv' := [(2, .ref ((p_rot q) 4)), (0, .ref (ap 0)), (1, .ref hn)]) hx hb dX2_save_20 rfl hl (by decide) rfl (fun ls hl => ?_)
  refine lv_aload_n hx hb dX2_save_21 rfl (lv_at hl 0 rfl) ?_
  refine lv_ifnull hx hb dX2_save_22 ?_
  refine lv_aload_n hx hb dX2_save_25 rfl (lv_at hl 0 rfl) ?_
  refine lv_aload_n hx hb dX2_save_26 rfl (lv_at hl 2 rfl) ?_
  have hPc : va_P D vwCl (wG2 ((p_rot q) 4) hn (((p_rot G) 4).1) (((p_rot G) 4).2.1) (((p_rot G) 4).2.2.1) (((p_rot G) 4).2.2.2.1) (((p_rot G) 4).2.2.2.2.1) (((p_rot G) 4).2.2.2.2.2.1) (((p_rot G) 4).2.2.2.2.2.2.1) (((p_rot G) 4).2.2.2.2.2.2.2.1) (((p_rot G) 4).2.2.2.2.2.2.2.2.1) (((p_rot G) 4).2.2.2.2.2.2.2.2.2.1) (((p_rot G) 4).2.2.2.2.2.2.2.2.2.2.1) (((p_rot G) 4).2.2.2.2.2.2.2.2.2.2.2.1) (((p_rot G) 4).2.2.2.2.2.2.2.2.2.2.2.2) c_mover c_phase c_dice c_stake c_cube c_pieces0 c_pieces1 c_score0 c_score1 c_hits0 c_hits1 c_stopped c_stopPart) _ := k_Psub hP [7, 8] rfl
  have hDc : va_D A (wG2 ((p_rot q) 4) hn (((p_rot G) 4).1) (((p_rot G) 4).2.1) (((p_rot G) 4).2.2.1) (((p_rot G) 4).2.2.2.1) (((p_rot G) 4).2.2.2.2.1) (((p_rot G) 4).2.2.2.2.2.1) (((p_rot G) 4).2.2.2.2.2.2.1) (((p_rot G) 4).2.2.2.2.2.2.2.1) (((p_rot G) 4).2.2.2.2.2.2.2.2.1) (((p_rot G) 4).2.2.2.2.2.2.2.2.2.1) (((p_rot G) 4).2.2.2.2.2.2.2.2.2.2.1) (((p_rot G) 4).2.2.2.2.2.2.2.2.2.2.2.1) (((p_rot G) 4).2.2.2.2.2.2.2.2.2.2.2.2) c_mover c_phase c_dice c_stake c_cube c_pieces0 c_pieces1 c_score0 c_score1 c_hits0 c_hits1 c_stopped c_stopPart) := hD.sub [7, 8] (by decide) rfl
  refine k_v_c (Wf := (wPa cG ap (p_rot q) hn hasS 4 snp (p_up (p_rot G) 4 (c_mover, c_phase, c_dice, c_stake, c_cube, c_pieces0, c_pieces1, c_score0, c_score1, c_hits0, c_hits1, c_stopped, c_stopPart)) c_mover c_phase c_dice c_stake c_cube c_pieces0 c_pieces1 c_score0 c_score1 c_hits0 c_hits1 c_stopped c_stopPart)) [7, 8] [0, 1, 2, 3, 4, 5, 6] [0, 1, 2, 3, 4, 5, 6, 7, 8] (k_rV (As := [.ref hn]) (rest := []) ⟨hx, hb, hml, hown, hts⟩ hK hN hPc hDc (zX1_copyFrom rfl) (cwV 1 hts gX2_save_X1_copyFrom rfl rfl rfl (by decide +kernel) ⟨Nat.le_of_ble_eq_true rfl, Nat.le_of_ble_eq_true rfl⟩) rfl rfl rfl hl.1 rfl (Nat.le_of_ble_eq_true rfl) dX2_save_27 ⟨Nat.zero_le _, Nat.zero_le _⟩) hP hD hS hA rfl rfl (by decide) (by decide) rfl (by decide) (fun H locs hP hD hS => ?_)
  refine lv_aload_n hx hb dX2_save_30 rfl (lv_at hl 1 rfl) ?_
  refine lv_dup hx hb dX2_save_31 rfl ?_
  refine va_get (D := D) (ci := 1) (v := .int 4) (C := RX2) (T := TX2) (N := 4) hx hb hts hinX2 hown hK hP 0 rfl rfl 3 (by decide) fl24 (fun _ h9 => h9) rfl dX2_save_32 ?_
  refine lv_iconst (v := 1) hx hb dX2_save_35 (by decide) ?_
  refine lv_iadd hx hb dX2_save_36 ?_
  refine W.eq (g2 := F0 m 37 _ (.int 5 :: .ref (ap 0) :: [])) (by rw [show (4 : Int32) + 1 = 5 by decide]) ?_
  refine va_put (D := D) (ci := 1) (v := .int 5) (ty := .int) (C := RX2) (T := TX2) (N := 4) hx hb hts hinX2 tyX2 tyX2_ok nmX2 hown hK hP hD hS 0 rfl rfl 3 (by decide) fl24 (fun _ h9 => h9) rfl (by decide +kernel) rfl rfl (Nat.le_of_ble_eq_true rfl) dX2_save_37 (fun H locs hP hD hS => ?_)
  have hP : va_P D vwCl (wPa cG ap (p_rot q) hn hasS 5 snp (p_up (p_rot G) 4 (c_mover, c_phase, c_dice, c_stake, c_cube, c_pieces0, c_pieces1, c_score0, c_score1, c_hits0, c_hits1, c_stopped, c_stopPart)) c_mover c_phase c_dice c_stake c_cube c_pieces0 c_pieces1 c_score0 c_score1 c_hits0 c_hits1 c_stopped c_stopPart) H := hP
  have hD : va_D A (wPa cG ap (p_rot q) hn hasS 5 snp (p_up (p_rot G) 4 (c_mover, c_phase, c_dice, c_stake, c_cube, c_pieces0, c_pieces1, c_score0, c_score1, c_hits0, c_hits1, c_stopped, c_stopPart)) c_mover c_phase c_dice c_stake c_cube c_pieces0 c_pieces1 c_score0 c_score1 c_hits0 c_hits1 c_stopped c_stopPart) := hD
  exact k_end_vE (p_rot q) hx hb hr hlocks hK hP hD hS dX2_save_40
theorem zX2_save {l : Launch} {D : va_G} {cI cJ cC cG : ClassId} {sz : Nat} {ap q : Nat → Nat} {hn : Nat} {hasS : Bool} {cnt : Int32} {snp : GT} {G : Nat → GT} {c_mover : Int32} {c_phase : Int32} {c_dice : Int32} {c_stake : Int32} {c_cube : Int32} {c_pieces0 : Int64} {c_pieces1 : Int64} {c_score0 : Int32} {c_score1 : Int32} {c_hits0 : Int32} {c_hits1 : Int32} {c_stopped : Bool} {c_stopPart : Int32} {cnt' : Int32} {G' : Nat → GT} (hm : mX2_save cnt G c_mover c_phase c_dice c_stake c_cube c_pieces0 c_pieces1 c_score0 c_score1 c_hits0 c_hits1 c_stopped c_stopPart = some (cnt', G')) : k_MvE l yX2_save wsX2_save rmX2_save D (kT cI cJ cC cG) sz ([.ref (ap 0), .ref hn] : List Value) (wPa cG ap q hn hasS cnt snp G c_mover c_phase c_dice c_stake c_cube c_pieces0 c_pieces1 c_score0 c_score1 c_hits0 c_hits1 c_stopped c_stopPart) (fun u : (Nat → Nat) => (wPa cG ap u hn hasS cnt' snp G' c_mover c_phase c_dice c_stake c_cube c_pieces0 c_pieces1 c_score0 c_score1 c_hits0 c_hits1 c_stopped c_stopPart)) := by
  unfold mX2_save at hm
  by_cases h0 : cnt = 0
  · subst h0; have hm := k_ip rfl hm; cases hm; exact zX2_save0
  have hm := k_in h0 hm
  by_cases h1 : cnt = 1
  · subst h1; have hm := k_ip rfl hm; cases hm; exact zX2_save1
  have hm := k_in h1 hm
  by_cases h2 : cnt = 2
  · subst h2; have hm := k_ip rfl hm; cases hm; exact zX2_save2
  have hm := k_in h2 hm
  by_cases h3 : cnt = 3
  · subst h3; have hm := k_ip rfl hm; cases hm; exact zX2_save3
  have hm := k_in h3 hm
  by_cases h4 : cnt = 4
  · subst h4; have hm := k_ip rfl hm; cases hm; exact zX2_save4
  have hm := k_in h4 hm
  by_cases h5 : cnt = 5
  · subst h5; have hm := k_ip rfl hm; cases hm; exact zX2_save5
  have hm := k_in h5 hm
  cases hm
