/-! the script's places; what stands at the law's start -/
def s_cl (L : Nat) (xs : Nat → Int32) (k : Int32) : Int32 := if Int32.ofNat L ≤ k then (7919 * (k + 3)) * (k + 11) else xs k.toNatClampNeg
def k_preX (D : va_G) (tys : k_TY) (sz b L : Nat) (xs : Nat → Int32) (U : State) : Prop := k_pre D tys sz ([] : va_W) U ∧ va_X b L xs U U.heap ∧ b < sz
theorem k_blindX {D : va_G} {tys : k_TY} {sz b L : Nat} {xs : Nat → Int32} {av : List Value} : FrameBlind (va_Pc av (k_preX D tys sz b L xs)) := fun a U g mk q => ⟨q.1, ⟨q.2.1.1, q.2.1.2.1, va_K.moved (u := U) (U := U.calling g mk a) (Vm.Alike.refl U.vm) q.2.1.2.2.1, q.2.1.2.2.2.1, k_N.same rfl q.2.1.2.2.2.2⟩, va_X.moved (u := U) (U := U.calling g mk a) (Vm.Alike.refl U.vm) q.2.2.1, q.2.2.2⟩
section KX
variable {p : Program} {l : Launch} {e : Env} {R : Room} {s : State} {m : MethodId} {args : Array Value} {below : List Frame} {meth : Method} {c : Code} {H : Heap} {locs : List Loc} {cells slots : Nat} {Q : State → Prop}
variable {y : MethodName} {bytes cc : ByteArray} {maxL nL mc ms n index pc b L : Nat} {xs : Nat → Int32} {ret : Option FieldType} {ws : List Cond} {rm : Room} {Qc : Array Value → State → Outcome → State → Prop} {free : Addr → Prop} {Ts : List Cond} {own : String} {As rest st : List Value} {ls : Array Slot}
variable {D : va_G} {tys : k_TY} {W0 : va_W} {A : Nat → Prop} {H0 : Heap} {a : Array Value}
theorem k_rX (S : CallFix p m c cc nL s args Ts own) (hK : va_K D vwCl tys s) (hN : k_N s) (hX : va_X b L xs s s.heap) (hbl : b < s.heap.size) (hbA : ¬ A b) (hS : va_S A s.heap H locs) (hM : Met l y ws rm (va_Pc As (k_preX D tys H.size b L xs)) Qc mc ms free) (cw : CallB R s args own index y bytes maxL ret ws rm mc ms n ∧ (Cond.static y).before args s = true)
    (hn : As.length = n) (hsize : ls.size = nL) (hst : st = As.reverse ++ rest) (hW : (rest.map fun v => v.category).sum ≤ 8) (hdg : decode cc pc = .ok (.invokestatic index, 3)) (hf : cells + mc ≤ R.cells ∧ slots + ms ≤ R.slots) :
    va_Run p l e R s m args below meth c H locs cells slots mc ms (F0 m pc ls st) rest (Qc As.toArray) free :=
  va_runS (As := As) (rest := rest) S hM cw ⟨k_blindX, fun U hU hWm => ⟨rfl, ⟨by rw [hU], k_P0, va_K.moved hWm.alike hK, k_D0, hN.moved hWm⟩, va_X.moved hWm.alike (by rw [hU]; exact hX.kept (hS.2.1 b hbl hbA)), Nat.lt_of_lt_of_le hbl hS.1⟩⟩ rfl hn hsize hst (lv_room hW) hdg hf
theorem k_n_s {S : Type} {V1 : S → va_W} (hr : va_Run p l e R s m args below meth c H locs cells slots mc ms (F0 m pc ls st) rest (va_Qv (fun (_ : S) => True) (fun u t => k_post D tys (va_A W0 H.size) (V1 u) t) (va_A W0 H.size) a) (va_A W0 H.size)) (hD : va_D A W0) (hS : va_S A H0 H locs) (hA : ∀ q, H0.size ≤ q → A q)
    (kk : ∀ (u : S) (H1 : Heap) (locs1 : List Loc), va_P D vwCl (V1 u) H1 → va_D A (V1 u) → va_S A H0 H1 locs1 → W p l e R s m args below meth c H1 locs1 (cells + mc) (slots + ms) Q (F0 m (pc + 3) ls rest)) : W p l e R s m args below meth c H locs cells slots Q (F0 m pc ls st) :=
  va_callv hr hS (fun q _ h => k_fr hD hS hA q h) (k_fr hD hS hA) (fun u t H1 locs1 ht hvm hp hB hz hk hS1 => by exact kk u H1 locs1 (by rw [← ht]; exact hB.1) (hB.2.2.weaken (fun k q _ h => k_fr hD hS hA q.1 h)) hS1)
end KX
abbrev rmL_cell : Room := { frames := 0, cells := 0, slots := 0, locals := 0 }
set_option maxRecDepth 100000 in
theorem zL_cell {l : Launch} {D : va_G} {cI cJ cC cG : ClassId} {sz b L j : Nat} {xs : Nat → Int32} (hj : j < 64) (hL : L ≤ 260) : Met l yL_cell wsL_cell rmL_cell (va_Pc ([.ref b, .int (nI j)] : List Value) (k_preX D (kT cI cJ cC cG) sz b L xs)) (va_Qi (fun (r' : Int32) (_ : Unit) => r' = s_cl L xs (nI j)) (fun _ t => k_post D (kT cI cJ cC cG) (va_A ([] : va_W) sz) ([] : va_W) t) (va_A ([] : va_W) sz)) 0 0 (va_A ([] : va_W) sz) := by
  refine Met.ofW (cc := cL_cell) (maxL := 2) (ret := some .int) (by decide) rfl ?_
  intro p e s m args' below meth c s₁ B hml hv
  obtain ⟨rfl, ⟨hsz, hP, hK, hD0, hN⟩, hX, hbl⟩ := hv
  subst hsz
  have hl := lv_entry ([.ref b, .int (nI j)] : List Value) (n := 2) (Nat.le_of_ble_eq_true rfl)
  rw [lg_entry_eq]
  generalize (lg_sl ([.ref b, .int (nI j)] : List Value) ++ List.replicate (2 - (lg_sl ([.ref b, .int (nI j)] : List Value)).length) Slot.unset).toArray = ls at hl
  have hl : lv_has ls 2 [(0, .ref b), (1, .int (nI j))] := hl
  have hx := B.exec
  have hb := B.bytes
  have hr := B.returns
  have hlocks := B.notSynchronized
  have hD : va_D (va_A ([] : va_W) s.heap.size) ([] : va_W) := k_D0
  have hS : va_S (va_A ([] : va_W) s.heap.size) s.heap s.heap [] := va_S.rf
  have hbA : ¬ va_A ([] : va_W) s.heap.size b := fun h => h.elim (fun ⟨k, e, h⟩ => by simp at h) (fun h => absurd hbl (Nat.not_lt.mpr h))
  show W p l e rmL_cell s m ([.ref b, .int (nI j)] : List Value).toArray below meth c s.heap [] 0 0 (k_Qi below ([.ref b, .int (nI j)] : List Value) D (kT cI cJ cC cG) s (va_A ([] : va_W) s.heap.size) ([] : va_W) (s_cl L xs (nI j))) (F0 m 0 ls [])
  refine lv_iload_n hx hb dL_cell_0 rfl (lv_at hl 1 rfl) ?_
  refine lv_aload_n hx hb dL_cell_1 rfl (lv_at hl 0 rfl) ?_
  refine va_slen hx hb hX hbl hbA hS dL_cell_2 ?_
  refine lv_icmp_ge (tgt := 12) hx hb dL_cell_3 (by decide) (fun cc => ?_) (fun cc => ?_)
  · refine lv_sipush (v := 7919) hx hb dL_cell_12 (by decide) ?_
    refine lv_iload_n hx hb dL_cell_15 rfl (lv_at hl 1 rfl) ?_
    refine lv_iconst (v := 3) hx hb dL_cell_16 (by decide) ?_
    refine lv_iadd hx hb dL_cell_17 ?_
    refine lv_imul hx hb dL_cell_18 ?_
    refine lv_iload_n hx hb dL_cell_19 rfl (lv_at hl 1 rfl) ?_
    refine lv_bipush (v := 11) hx hb dL_cell_20 (by decide) ?_
    refine lv_iadd hx hb dL_cell_22 ?_
    refine lv_imul hx hb dL_cell_23 ?_
    rw [show s_cl L xs (nI j) = (7919 * (nI j + 3)) * (nI j + 11) from if_pos cc]
    exact k_end_i hx hb hr hlocks hK hP hD hS dL_cell_24
  · have hlt : j < L := Nat.not_le.mp (fun h => cc (nI_le h (by omega)))
    refine lv_aload_n hx hb dL_cell_6 rfl (lv_at hl 0 rfl) ?_
    refine lv_iload_n hx hb dL_cell_7 rfl (lv_at hl 1 rfl) ?_
    refine va_sld hx hb hX hbl hbA hS (nI_in hlt (by omega)) dL_cell_8 ?_
    refine lv_goto (tgt := 24) hx hb dL_cell_9 (by decide) ?_
    rw [show s_cl L xs (nI j) = xs (nI j).toNatClampNeg from if_neg cc]
    exact k_end_i hx hb hr hlocks hK hP hD hS dL_cell_24
theorem lw_N {args : Array Value} {s : State} (hw : ∀ w ∈ lw_tbl, w.before args s = true) : k_N s := ⟨va_Nw.of rfl (hw (.methodLinkNest RX1 84 yX7_reachOf RX9) (by decide +kernel)), va_Nw.of rfl (hw (.methodLinkNest RX4 53 yX7_reachOf RX9) (by decide +kernel))⟩
theorem lw_G {args : Array Value} {s : State} (hw : ∀ w ∈ lw_tbl, w.before args s = true) : k_G s := by
  refine ⟨va_AO.of (hw (.arrayOver (.object RX1)) (by decide +kernel)), ?_⟩
  intro q hq
  simp only [k_nil, List.mem_cons, List.not_mem_nil, or_false] at hq
  rcases hq with rfl | rfl | rfl | rfl | rfl
  · exact va_Nw.of rfl (hw (.methodLinkNest RX9 9 yX1_init RX9) (by decide +kernel))
  · exact va_Nw.of rfl (hw (.methodLinkNest RX2 15 yX1_init RX9) (by decide +kernel))
  · exact va_Nw.of rfl (hw (.methodLinkNest RX9 25 yX8_init RX9) (by decide +kernel))
  · exact va_Nw.of rfl (hw (.methodLinkNest RX9 32 yX4_init RX9) (by decide +kernel))
  · exact va_Nw.of rfl (hw (.methodLinkNest RX4 9 yX5_init RX9) (by decide +kernel))
theorem lw_arr {args : Array Value} {s : State} {ty : FieldType} (h : (Cond.arrayClass ty).before args s = true) : ∃ cA : ClassId, ArrOfT s cA ty ∧ s.vm.findClass ("[" ++ ty.toString) = some cA := by
  obtain ⟨c, k, comp, h1, h2, h3⟩ := Cond.arrayClass_spec h
  exact ⟨c, fun n z => ⟨fun k h => (by cases h), k, h2, comp, h3⟩, h1⟩
theorem lw_K0 {args : Array Value} {s : State} (hw : ∀ w ∈ lw_tbl, w.before args s = true) : ∃ (D : va_G) (cI cJ cC cG : ClassId), va_K D vwCl (kT cI cJ cC cG) s := by
  have hts : ∀ w ∈ wsL_law, w.before args s = true := fun w h => hw w (wsL_law_in w h)
  obtain ⟨cX1, sX1, kX1⟩ := u_known (C := RX1) (T := TX1) (N := 13) (n := 13) hts inlX1 (hw (.instantiable RX1 13) (by decide +kernel))
  obtain ⟨cX2, sX2, kX2⟩ := u_known (C := RX2) (T := TX2) (N := 4) (n := 4) hts inlX2 (hw (.instantiable RX2 4) (by decide +kernel))
  obtain ⟨cX4, sX4, kX4⟩ := u_known (C := RX4) (T := TX4) (N := 3) (n := 3) hts inlX4 (hw (.instantiable RX4 3) (by decide +kernel))
  obtain ⟨cX5, sX5, kX5⟩ := u_known (C := RX5) (T := TX5) (N := 4) (n := 4) hts inlX5 (hw (.instantiable RX5 4) (by decide +kernel))
  obtain ⟨cX8, sX8, kX8⟩ := u_known (C := RX8) (T := TX8) (N := 2) (n := 2) hts inlX8 (hw (.instantiable RX8 2) (by decide +kernel))
  obtain ⟨cX9, sX9, kX9⟩ := u_known (C := RX9) (T := TX9) (N := 4) (n := 4) hts inlX9 (hw (.instantiable RX9 4) (by decide +kernel))
  obtain ⟨cI, aI, bI⟩ := lw_arr (hw (.arrayClass .int) (by decide +kernel))
  obtain ⟨cJ, aJ, bJ⟩ := lw_arr (hw (.arrayClass .long) (by decide +kernel))
  obtain ⟨cC, aC, bC⟩ := lw_arr (hw (.arrayClass .char) (by decide +kernel))
  obtain ⟨comp, cG, kG, g1, g2, g3, g4, g5⟩ := Cond.arrayOver_spec (hw (.arrayOver (.object RX1)) (by decide +kernel))
  have aG : ArrOfT s cG (.object RX1) := fun N z => ⟨(fun k h => by cases h), kG, g3, comp, g4⟩
  refine ⟨(fun c => match c with | 0 => cX1 | 1 => cX2 | 2 => cX4 | 3 => cX5 | 4 => cX8 | _ => cX9, fun c => match c with | 0 => sX1 | 1 => sX2 | 2 => sX4 | 3 => sX5 | 4 => sX8 | _ => sX9), cI, cJ, cC, cG, fun c q hq => ?_, fun k q hk => ?_⟩
  · match c, hq with
    | 0, hq => cases hq; exact kX1
    | 1, hq => cases hq; exact kX2
    | 2, hq => cases hq; exact kX4
    | 3, hq => cases hq; exact kX5
    | 4, hq => cases hq; exact kX8
    | 5, hq => cases hq; exact kX9
    | n + 6, hq => exact absurd hq (by simp)
  · match k, hk with
    | 0, hk => cases hk; exact ⟨aI, bI⟩
    | 1, hk => cases hk; exact ⟨aJ, bJ⟩
    | 2, hk => cases hk; exact ⟨aC, bC⟩
    | 3, hk => cases hk; exact ⟨aG, kG, comp, g3, g4, g1, g5⟩
    | n + 4, hk => exact absurd hk (by simp)
