/-! the law's loop, and its way from the entry to it -/
abbrev p_ad (l : List Nat) : Nat → Nat := fun i => l.getD i 0
abbrev gt0 : GT := (0, 0, 0, 1, -1, 563087660810240, 563087660810240, 0, 0, 0, 0, false, 0)
abbrev lw_x0 : XT := (false, 0, gt0, fun _ => gt0, gt0, fun _ => 0, 0)
abbrev jk0 : JT := (fun _ => 0, fun _ => 0, fun _ => 0, 0, fun _ => 0, fun _ => 0, fun _ => 0, 0, fun _ => 0, fun _ => 0, fun _ => 0, 0)
theorem x_inv0 : x_inv lw_x0 := ⟨0, fun _ => g_F0, [], 0, ⟨⟨by omega, by omega, d_nil, fun _ => rfl⟩, ⟨g_ok0, g_ok0⟩, fun w h1 h2 => g_F0f w (by omega) h1, ⟨nI_0.symm, nI_0.symm, (by decide +kernel)⟩, Or.inl rfl, ⟨b_L0.symm, b_L0.symm⟩, fun _ => ⟨by decide, by decide⟩, 0, by omega, nI_0.symm⟩, by omega⟩
theorem l_64 {j : Nat} (hj : j < 56) : (nI j + 9) - (nI j + 9) / 64 * 64 = nI ((j + 9) % 64) := by
  rw [show nI j + (9 : Int32) = nI (j + 9) from nI_add j 9]
  exact l_rem (a := j + 9) (d := 64) (by omega) (by omega) (by omega)
set_option maxRecDepth 100000 in
set_option maxHeartbeats 16000000 in
theorem lw_loop {p : Program} {l : Launch} {e : Env} {s : State} {m : MethodId} {b L : Nat} {xs : Nat → Int32} {below : List Frame} {meth : Method} {c : Code} {A : Nat → Prop} {D : va_G} {cI cJ cC cG : ClassId} {h9 hn h0 : Nat} {ap ht pc : Nat → Nat} {Q : State → Prop} {C S : Nat} (hx : p.tables.exec = Jvm.exec) (hb : c.code = cL_law) (hml : c.maxLocals = 5) (hown : s.vm.findClass RL = some m.cls) (hts : ∀ w ∈ wsL_law, w.before #[Value.ref b] s = true) (hN : k_N s) (hK : va_K D vwCl (kT cI cJ cC cG) s) (hX : va_X b L xs s s.heap) (hbl : b < s.heap.size) (hbA : ¬ A b) (hA : ∀ q, s.heap.size ≤ q → A q) (hL : L ≤ 260) (hf : C + 0 ≤ room_1.cells ∧ S + 0 ≤ room_1.slots)
    (hend : ∀ (H : Heap) (locs : List Loc) (ls : Array Slot), va_S A s.heap H locs → W p l e room_1 s m #[Value.ref b] below meth c H locs C S Q (F0 m 90 ls [])) :
    ∀ (n j : Nat), n + j = 56 → ∀ (q pa pb : Nat → Nat) (jk : JT) (x : XT) (H : Heap) (locs : List Loc) (ls : Array Slot), x_inv x → va_P D vwCl (wXt cI cJ cC cG h9 hn ap q ht h0 pa pb pc jk x) H → va_D A (wXt cI cJ cC cG h9 hn ap q ht h0 pa pb pc jk x) → va_S A s.heap H locs → lv_has ls 5 [(2, .int (nI j)), (1, .ref h9), (0, .ref b)] → W p l e room_1 s m #[Value.ref b] below meth c H locs C S Q (F0 m 10 ls [])
  | 0, j, hj, q, pa, pb, jk, x, H, locs, ls, hI, hP, hD, hS, hl => by
    obtain rfl : j = 56 := by omega
    refine lv_iload_n hx hb dL_law_10 rfl (lv_at hl 0 rfl) ?_
    refine lv_bipush (v := 56) hx hb dL_law_11 (by decide) ?_
    refine lv_icmp_ge (tgt := 90) hx hb dL_law_13 (by decide) (fun cc => ?_) (fun cc => ?_)
    · exact hend H locs ls hS
    · exact absurd (nI_le (Nat.le_refl 56) (by omega)) cc
  | n + 1, j, hj, q, pa, pb, jk, x, H, locs, ls, hI, hP, hD, hS, hl => by
    have ih := lw_loop (h9 := h9) (hn := hn) (h0 := h0) (ap := ap) (ht := ht) (pc := pc) hx hb hml hown hts hN hK hX hbl hbA hA hL hf hend n (j + 1) (by omega)
    have hj56 : j < 56 := by omega
    have J84 : ∀ (q pa pb : Nat → Nat) (jk : JT) (x : XT) (H : Heap) (locs : List Loc) (ls : Array Slot), x_inv x → va_P D vwCl (wXt cI cJ cC cG h9 hn ap q ht h0 pa pb pc jk x) H → va_D A (wXt cI cJ cC cG h9 hn ap q ht h0 pa pb pc jk x) → va_S A s.heap H locs → lv_has ls 5 [(2, .int (nI j)), (1, .ref h9), (0, .ref b)] → W p l e room_1 s m #[Value.ref b] below meth c H locs C S Q (F0 m 84 ls []) := by
      intro q pa pb jk x H locs ls hI hP hD hS hl
      refine lv_iinc (k := 0) (v := nI (j + 1)) (lv' := [(2, .int (nI (j + 1))), (1, .ref h9), (0, .ref b)]) hx hb dL_law_84 hl rfl (nI_1 j) (by decide) rfl (fun ls hl => ?_)
      refine lv_goto (tgt := 10) hx hb dL_law_87 (by decide) ?_
      exact ih q pa pb jk x H locs ls hI hP hD hS hl
    refine lv_iload_n hx hb dL_law_10 rfl (lv_at hl 0 rfl) ?_
    refine lv_bipush (v := 56) hx hb dL_law_11 (by decide) ?_
    refine lv_icmp_ge (tgt := 90) hx hb dL_law_13 (by decide) (fun cc => hend H locs ls hS) (fun cc => ?_)
    refine lv_aload_n hx hb dL_law_16 rfl (lv_at hl 2 rfl) ?_
    refine lv_iload_n hx hb dL_law_17 rfl (lv_at hl 0 rfl) ?_
    refine k_i_0 (k_rX (As := [.ref b, .int (nI j)]) (rest := []) ⟨hx, hb, hml, hown, hts⟩ hK hN hX hbl hbA hS (zL_cell (by omega) hL) (va_cwS 2 hts gL_law_L_cell rfl rfl rfl (by decide +kernel) ⟨Nat.le_of_ble_eq_true rfl, Nat.le_of_ble_eq_true rfl⟩) rfl hl.1 rfl (Nat.le_of_ble_eq_true rfl) dL_law_18 hf) hP hS hA (fun H locs hP hS => ?_)
    generalize s_cl L xs (nI j) = v
    refine lv_istore_n (lv' := [(3, .int v), (2, .int (nI j)), (1, .ref h9), (0, .ref b)]) hx hb dL_law_21 rfl hl (by decide) rfl (fun ls hl => ?_)
    refine lv_aload_n hx hb dL_law_22 rfl (lv_at hl 3 rfl) ?_
    refine lv_iload_n hx hb dL_law_23 rfl (lv_at hl 1 rfl) ?_
    refine lv_bipush (v := 9) hx hb dL_law_24 (by decide) ?_
    refine lv_iadd hx hb dL_law_26 ?_
    refine lv_bipush (v := 64) hx hb dL_law_27 (by decide) ?_
    refine lv_irem hx hb dL_law_29 (by decide) ?_
    rw [l_64 hj56]
    refine k_i_0 (k_rX (As := [.ref b, .int (nI ((j + 9) % 64))]) (rest := []) ⟨hx, hb, hml, hown, hts⟩ hK hN hX hbl hbA hS (zL_cell (Nat.mod_lt _ (by omega)) hL) (va_cwS 2 hts gL_law_L_cell rfl rfl rfl (by decide +kernel) ⟨Nat.le_of_ble_eq_true rfl, Nat.le_of_ble_eq_true rfl⟩) rfl hl.1 rfl (Nat.le_of_ble_eq_true rfl) dL_law_30 hf) hP hS hA (fun H locs hP hS => ?_)
    generalize s_cl L xs (nI ((j + 9) % 64)) = w
    refine lv_istore (lv' := [(4, .int w), (3, .int v), (2, .int (nI j)), (1, .ref h9), (0, .ref b)]) hx hb dL_law_33 hl (by decide) rfl (fun ls hl => ?_)
    refine lv_aload_n hx hb dL_law_35 rfl (lv_at hl 3 rfl) ?_
    refine lv_iload_n hx hb dL_law_36 rfl (lv_at hl 1 rfl) ?_
    refine lv_iload hx hb dL_law_37 (lv_at hl 0 rfl) ?_
    obtain ⟨x', hm, hI'⟩ := t_does hI v w
    refine k_i_sE (k_rS (As := [.ref h9, .int v, .int w]) (rest := []) ⟨hx, hb, hml, hown, hts⟩ hK hN hP hD (zL_does hm) (va_cwS 3 hts gL_law_L_does rfl rfl rfl (by decide +kernel) ⟨Nat.le_of_ble_eq_true rfl, Nat.le_of_ble_eq_true rfl⟩) rfl hl.1 rfl (Nat.le_of_ble_eq_true rfl) dL_law_39 hf) hD hS hA (fun u9 H locs hP hD hS => ?_)
    obtain ⟨u1, u2, u3, u4⟩ := u9
    have hP : va_P D vwCl (wXt cI cJ cC cG h9 hn ap u1 ht h0 u2 u3 pc u4 x') H := hP
    have hD : va_D A (wXt cI cJ cC cG h9 hn ap u1 ht h0 u2 u3 pc u4 x') := hD
    refine lv_if_eq (tgt := 82) hx hb dL_law_42 (by decide) (fun cc => absurd cc (by decide)) (fun cc => ?_)
    refine lv_aload_n hx hb dL_law_45 rfl (lv_at hl 3 rfl) ?_
    refine lv_iconst (v := 0) hx hb dL_law_46 (by decide) ?_
    have hm0 : mL_isPlayerSo x' 0 = some true := by
      have h := t_player hI' (q := 0) (by omega)
      rw [nI_0] at h
      exact h
    refine k_i_sE (k_rS (As := [.ref h9, .int 0]) (rest := []) ⟨hx, hb, hml, hown, hts⟩ hK hN hP hD (zL_isPlayerSo hm0) (va_cwS 2 hts gL_law_L_isPlayerSo rfl rfl rfl (by decide +kernel) ⟨Nat.le_of_ble_eq_true rfl, Nat.le_of_ble_eq_true rfl⟩) rfl hl.1 rfl (Nat.le_of_ble_eq_true rfl) dL_law_47 hf) hD hS hA (fun u9 H locs hP hD hS => ?_)
    obtain ⟨u5, u6, u7, u8⟩ := u9
    have hP : va_P D vwCl (wXt cI cJ cC cG h9 hn ap u5 ht h0 u6 u7 pc u8 x') H := hP
    have hD : va_D A (wXt cI cJ cC cG h9 hn ap u5 ht h0 u6 u7 pc u8 x') := hD
    refine lv_if_eq (tgt := 82) hx hb dL_law_50 (by decide) (fun cc => absurd cc (by decide)) (fun cc => ?_)
    refine lv_aload_n hx hb dL_law_53 rfl (lv_at hl 3 rfl) ?_
    refine lv_iconst (v := 1) hx hb dL_law_54 (by decide) ?_
    have hm1 : mL_isPlayerSo x' 1 = some true := t_player hI' (q := 1) (by omega)
    refine k_i_sE (k_rS (As := [.ref h9, .int 1]) (rest := []) ⟨hx, hb, hml, hown, hts⟩ hK hN hP hD (zL_isPlayerSo hm1) (va_cwS 2 hts gL_law_L_isPlayerSo rfl rfl rfl (by decide +kernel) ⟨Nat.le_of_ble_eq_true rfl, Nat.le_of_ble_eq_true rfl⟩) rfl hl.1 rfl (Nat.le_of_ble_eq_true rfl) dL_law_55 hf) hD hS hA (fun u9 H locs hP hD hS => ?_)
    obtain ⟨u9, u10, u11, u12⟩ := u9
    have hP : va_P D vwCl (wXt cI cJ cC cG h9 hn ap u9 ht h0 u10 u11 pc u12 x') H := hP
    have hD : va_D A (wXt cI cJ cC cG h9 hn ap u9 ht h0 u10 u11 pc u12 x') := hD
    refine lv_if_eq (tgt := 82) hx hb dL_law_58 (by decide) (fun cc => absurd cc (by decide)) (fun cc => ?_)
    have hl3 : lv_has ls 5 [(2, .int (nI j)), (1, .ref h9), (0, .ref b)] := lv_sub hl [2, 3, 4] rfl
    refine lv_iload_n hx hb dL_law_61 rfl (lv_at hl 2 rfl) ?_
    refine lv_iconst (v := 2) hx hb dL_law_62 (by decide) ?_
    refine lv_irem hx hb dL_law_63 (by decide) ?_
    refine lv_if_ne (tgt := 84) hx hb dL_law_64 (by decide) (fun cc => J84 u9 u10 u11 u12 x' H locs ls hI' hP hD hS hl3) (fun cc => ?_)
    refine lv_aload_n hx hb dL_law_67 rfl (lv_at hl 3 rfl) ?_
    refine lv_iload_n hx hb dL_law_68 rfl (lv_at hl 1 rfl) ?_
    refine lv_iconst (v := 3) hx hb dL_law_69 (by decide) ?_
    refine lv_ishr hx hb dL_law_70 ?_
    refine lv_bipush (v := 16) hx hb dL_law_71 (by decide) ?_
    obtain ⟨y, hy, hmy⟩ := l_low16 (v >>> ((3 : Int32) &&& 31))
    refine k_i_0 (k_rS (As := [.int (v >>> ((3 : Int32) &&& 31)), .int 16]) (rest := [.ref h9]) ⟨hx, hb, hml, hown, hts⟩ hK hN k_P0 (k_D0 (A := A)) (zL_low hmy) (va_cwS 2 hts gL_law_L_low rfl rfl rfl (by decide +kernel) ⟨Nat.le_of_ble_eq_true rfl, Nat.le_of_ble_eq_true rfl⟩) rfl hl.1 rfl (Nat.le_of_ble_eq_true rfl) dL_law_73 hf) hP hS hA (fun H locs hP hS => ?_)
    refine k_i_sE (k_rS (As := [.ref h9, .int (nI y)]) (rest := []) ⟨hx, hb, hml, hown, hts⟩ hK hN hP hD (zL_areLooksSo (t_looks hI' hy)) (va_cwS 2 hts gL_law_L_areLooksSo rfl rfl rfl (by decide +kernel) ⟨Nat.le_of_ble_eq_true rfl, Nat.le_of_ble_eq_true rfl⟩) rfl hl.1 rfl (Nat.le_of_ble_eq_true rfl) dL_law_76 hf) hD hS hA (fun u9 H locs hP hD hS => ?_)
    obtain ⟨u13, u14, u15, u16⟩ := u9
    have hP : va_P D vwCl (wXt cI cJ cC cG h9 hn ap u13 ht h0 u14 u15 pc u16 x') H := hP
    have hD : va_D A (wXt cI cJ cC cG h9 hn ap u13 ht h0 u14 u15 pc u16 x') := hD
    exact lv_if_ne (tgt := 84) hx hb dL_law_79 (by decide) (fun cc => J84 u13 u14 u15 u16 x' H locs ls hI' hP hD hS hl3) (fun cc => absurd cc (by decide))
theorem lw_set {D : va_G} {W : va_W} {H : Heap} {k : Nat} {c : Nat × va_E} (h : va_P D vwCl W H) (h2 : va_at D vwCl c H) : va_P D vwCl (W.set k c) H := by
  intro i q hi
  rw [List.getElem?_set] at hi
  split at hi
  · split at hi
    · cases hi; exact h2
    · cases hi
  · exact h i q hi
theorem lw_setD {A0 : Nat → Prop} {W : va_W} {k : Nat} {c c' : Nat × va_E} (h : va_D A0 W) (hk : W[k]? = some c') (e : c'.1 = c.1) : va_D A0 (W.set k c) := by
  have H : ∀ (i : Nat) (p : Nat × va_E), (W.set k c)[i]? = some p → ∃ p', W[i]? = some p' ∧ p'.1 = p.1 := by
    intro i p hi
    rw [List.getElem?_set] at hi
    split at hi
    · rename_i hki
      split at hi
      · cases hi; exact ⟨c', by rw [← hki]; exact hk, e⟩
      · cases hi
    · exact ⟨p, hi, rfl⟩
  refine ⟨fun i j p q hi hj hpq => ?_, fun i p hi => ?_⟩
  · obtain ⟨p', h1, e1⟩ := H i p hi
    obtain ⟨q', h2, e2⟩ := H j q hj
    exact h.1 i j p' q' h1 h2 (by rw [e1, e2]; exact hpq)
  · obtain ⟨p', h1, e1⟩ := H i p hi
    rw [← e1]; exact h.2 i p' h1
theorem lw_cell {cA : ClassId} {f g : Nat → Option Nat} (h : ∀ i, i < 5 → f i = g i) : vp_cell cA (5, .inr (.inr (.inr (.inr f)))) = vp_cell cA (5, .inr (.inr (.inr (.inr g)))) := by
  have e : ∀ F : Nat → Option Nat, vp_cell cA (5, .inr (.inr (.inr (.inr F)))) = arrV cA 5 (fun j => va_rf (F j)) := fun F => rfl
  rw [e, e]
  unfold arrV
  have h2 : (Array.ofFn (n := 5) fun j : Fin 5 => va_rf (f j.val)) = Array.ofFn (n := 5) fun j : Fin 5 => va_rf (g j.val) := congrArg Array.ofFn (funext fun j => by rw [h j.val j.isLt])
  rw [h2]
set_option maxRecDepth 100000 in
set_option maxHeartbeats 16000000 in
theorem lw_go {p : Program} {l : Launch} {e : Env} {s : State} {m : MethodId} {b L : Nat} {xs : Nat → Int32} {below : List Frame} {meth : Method} {c : Code} {Q : State → Prop} (hL : L ≤ 260) (hx : p.tables.exec = Jvm.exec) (hb : c.code = cL_law) (hml : c.maxLocals = 5) (hown : s.vm.findClass RL = some m.cls) (hw : ∀ w ∈ lw_tbl, w.before #[Value.ref b] s = true) (hX : va_X b L xs s s.heap) (hbl : b < s.heap.size) (hend : ∀ (H : Heap) (locs : List Loc) (ls : Array Slot), (∀ q ∈ locs, s.heap.size ≤ q.base) → W p l e room_1 s m #[Value.ref b] below meth c H locs 600130 7301080 Q (F0 m 90 ls [])) : W p l e room_1 s m #[Value.ref b] below meth c s.heap [] 0 0 Q (entryFrame m ([Value.ref b] : List Value).toArray 5) := by
  obtain ⟨D, cI, cJ, cC, cG, hK⟩ := lw_K0 hw
  have hts : ∀ w ∈ wsL_law, w.before #[Value.ref b] s = true := fun w h => hw w (wsL_law_in w h)
  have hN := lw_N hw
  have hG := lw_G hw
  obtain ⟨A, hAe⟩ : ∃ A : Nat → Prop, A = (fun q => s.heap.size ≤ q) := ⟨_, rfl⟩
  have hA : ∀ q, s.heap.size ≤ q → A q := fun q h => by rw [hAe]; exact h
  have hA2 : ∀ q, A q → s.heap.size ≤ q := fun q h => by rw [hAe] at h; exact h
  have hbA : ¬ A b := fun h => absurd (hA2 b h) (Nat.not_le.mpr hbl)
  clear hAe
  have hl := lv_entry [Value.ref b] (n := 5) (Nat.le_of_ble_eq_true rfl)
  rw [lg_entry_eq]
  generalize (lg_sl [Value.ref b] ++ List.replicate (5 - (lg_sl [Value.ref b]).length) Slot.unset).toArray = ls at hl
  have hl : lv_has ls 5 [(0, .ref b)] := hl
  have hP : va_P D vwCl ([] : va_W) s.heap := k_P0
  have hD : va_D A ([] : va_W) := k_D0
  have hS : va_S A s.heap s.heap [] := va_S.rf
  refine va_new (ci := 5) (fs := [.null, .null, .null, .null]) (C := RX9) (T := TX9) (N := 4) hx hb hts inlX9 tyX9 tyX9_ok hown (hts (.classLink RL 15 RX9) (by decide +kernel)) (hts (.instantiable RX9 4) (by decide +kernel)) (hts (.initialized RX9) (by decide +kernel)) hK hP hD hS hA rfl (fun j hj => by rcases (show j = 0 ∨ j = 1 ∨ j = 2 ∨ j = 3 by omega) with rfl | rfl | rfl | rfl <;> rfl) (Nat.le_of_ble_eq_true rfl) (Nat.le_of_ble_eq_true rfl) dL_law_0 (fun h9 H hP hD hS => ?_)
  refine lv_dup hx hb dL_law_3 rfl ?_
  have hP : va_P D vwCl ([(h9, .inr (5, [.null, .null, .null, .null]))] : va_W) H := hP
  have hD : va_D A ([(h9, .inr (5, [.null, .null, .null, .null]))] : va_W) := hD
  refine k_n_s (k_rI (As := []) (rest := [.ref h9]) ⟨hx, hb, hml, hown, hts⟩ hK hN hG hP hD zCX9 (cwI 0 hts gL_law_X9_init rfl rfl rfl (hts (.initialized RX9) (by decide +kernel)) (hts (.methodLink RL 154 yX9_init) (by decide +kernel)) (hts (.instanceMethod yX9_init) (by decide +kernel)) rfl (by decide +kernel) ⟨Nat.le_of_ble_eq_true rfl, Nat.le_of_ble_eq_true rfl⟩) rfl hl.1 rfl (Nat.le_of_ble_eq_true rfl) dL_law_4 ⟨Nat.le_of_ble_eq_true rfl, Nat.le_of_ble_eq_true rfl⟩) hD hS hA (fun uX9 H locs hP hD hS => ?_)
  obtain ⟨hn, ap0, ap1, ap2, q0, q1, q2, q3, q4, ht0, ht1, h0, pa0, pa1, pa2, pa3, pb0, pb1, pb2, pb3, pc0, pc1, pc2, pc3⟩ := uX9
  refine lv_astore_n (lv' := [(1, .ref h9), (0, .ref b)]) hx hb dL_law_7 rfl hl (by decide) rfl (fun ls hl => ?_)
  have hat := lw_cell (cA := cG) (f := va_up (va_up (va_up (va_up (va_up (fun _ => none) 0 (some q0)) 1 (some q1)) 2 (some q2)) 3 (some q3)) 4 (some q4)) (g := fun i => some (p_ad [q0, q1, q2, q3, q4] i)) (by intro i hi; rcases (show i = 0 ∨ i = 1 ∨ i = 2 ∨ i = 3 ∨ i = 4 by omega) with rfl | rfl | rfl | rfl | rfl <;> rfl)
  have hc3 : va_at D vwCl (ap1, .inl (cG, 5, .inr (.inr (.inr (.inr (fun i => some (p_ad [q0, q1, q2, q3, q4] i))))))) H := by
    have h3 := hP 3 _ rfl
    show H[ap1]? = some (vp_cell _ _)
    rw [← hat]
    exact h3
  have hP : va_P D vwCl (wXt cI cJ cC cG h9 hn (p_ad [ap0, ap1, ap2]) (p_ad [q0, q1, q2, q3, q4]) (p_ad [ht0, ht1]) h0 (p_ad [pa0, pa1, pa2, pa3]) (p_ad [pb0, pb1, pb2, pb3]) (p_ad [pc0, pc1, pc2, pc3]) jk0 lw_x0) H := lw_set (k := 3) hP hc3
  have hD : va_D A (wXt cI cJ cC cG h9 hn (p_ad [ap0, ap1, ap2]) (p_ad [q0, q1, q2, q3, q4]) (p_ad [ht0, ht1]) h0 (p_ad [pa0, pa1, pa2, pa3]) (p_ad [pb0, pb1, pb2, pb3]) (p_ad [pc0, pc1, pc2, pc3]) jk0 lw_x0) := lw_setD (k := 3) (c := (ap1, .inl (cG, 5, .inr (.inr (.inr (.inr (fun i => some (p_ad [q0, q1, q2, q3, q4] i)))))))) hD rfl rfl
  clear hc3 hat
  refine lv_iconst (v := 0) hx hb dL_law_8 (by decide) ?_
  refine lv_istore_n (lv' := [(2, .int 0), (1, .ref h9), (0, .ref b)]) hx hb dL_law_9 rfl hl (by decide) rfl (fun ls hl => ?_)
  have hl : lv_has ls 5 [(2, .int (nI 0)), (1, .ref h9), (0, .ref b)] := by rw [nI_0]; exact hl
  exact lw_loop hx hb hml hown hts hN hK hX hbl hbA hA hL ⟨Nat.le_of_ble_eq_true rfl, Nat.le_of_ble_eq_true rfl⟩ (fun H locs ls hS => W.widen (Nat.le_of_ble_eq_true rfl) (Nat.le_of_ble_eq_true rfl) (hend H locs ls (fun q hq => hA2 _ (hS.2.2 q hq)))) 56 0 (by omega) _ _ _ _ lw_x0 H _ ls x_inv0 hP hD hS hl
