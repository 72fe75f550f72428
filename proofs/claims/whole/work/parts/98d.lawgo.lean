/-! the law from its entry to its loop -/
theorem kd_x {A0 : Nat → Prop} {A B : va_W} (h : va_D A0 (A ++ B)) : ∀ p ∈ A, ∀ q ∈ B, p.1 ≠ q.1 := by
  intro p hp q hq e
  obtain ⟨i, hi⟩ := List.mem_iff_getElem?.mp hp
  obtain ⟨j, hj⟩ := List.mem_iff_getElem?.mp hq
  have hil := (List.getElem?_eq_some_iff.mp hi).1
  have h1 : (A ++ B)[i]? = some p := by rw [List.getElem?_append_left hil]; exact hi
  have h2 : (A ++ B)[A.length + j]? = some q := by rw [List.getElem?_append_right (Nat.le_add_right _ _), Nat.add_sub_cancel_left]; exact hj
  have := h.1 _ _ _ _ h1 h2 e
  omega
theorem kd_app {A0 : Nat → Prop} {A B : va_W} (h1 : va_D A0 A) (h2 : va_D A0 B) (h : ∀ p ∈ A, ∀ q ∈ B, p.1 ≠ q.1) : va_D A0 (A ++ B) := h1.app h2 (fun i j p q hi hj => h p (List.mem_of_getElem? hi) q (List.mem_of_getElem? hj))
theorem kp_3 {D : va_G} {A B C : va_W} {H : Heap} (h : va_P D vwCl (A ++ B ++ C) H) : va_P D vwCl (A ++ C ++ B) H := ((kp_l (kp_l h)).app (kp_r h)).app (kp_r (kp_l h))
theorem kd_3 {A0 : Nat → Prop} {A B C : va_W} (h : va_D A0 (A ++ B ++ C)) : va_D A0 (A ++ C ++ B) :=
  kd_app (kd_app (kd_l (kd_l h)) (kd_r h) (fun p hp q hq => kd_x h p (List.mem_append_left _ hp) q hq)) (kd_r (kd_l h)) (fun p hp q hq => (List.mem_append.mp hp).elim (fun hp => kd_x (kd_l h) p hp q hq) (fun hp => (kd_x h q (List.mem_append_right _ hq) p hp).symm))
theorem lw_set {D : va_G} {W : va_W} {H : Heap} {k : Nat} {c : Nat × va_E} (h : va_P D vwCl W H) (h2 : va_at D vwCl c H) : va_P D vwCl (W.set k c) H := by
  intro i q hi
  rw [List.getElem?_set] at hi
  split at hi
  · split at hi
    · cases hi; exact h2
    · cases hi
  · exact h i q hi
theorem lw_setD {A0 : Nat → Prop} {W : va_W} {k : Nat} {c c' : Nat × va_E} (h : va_D A0 W) (hk : W[k]? = some c') (e : c'.1 = c.1) : va_D A0 (W.set k c) := by
  have H : ∀ (i : Nat) (p : Nat × va_E), (W.set k c)[i]? = some p → ∃ p', W[i]? = some p' ∧ p'.1 = p.1 := by
    intro i p hi
    rw [List.getElem?_set] at hi
    split at hi
    · rename_i hki
      split at hi
      · cases hi; exact ⟨c', by rw [← hki]; exact hk, e⟩
      · cases hi
    · exact ⟨p, hi, rfl⟩
  refine ⟨fun i j p q hi hj hpq => ?_, fun i p hi => ?_⟩
  · obtain ⟨p', h1, e1⟩ := H i p hi
    obtain ⟨q', h2, e2⟩ := H j q hj
    exact h.1 i j p' q' h1 h2 (by rw [e1, e2]; exact hpq)
  · obtain ⟨p', h1, e1⟩ := H i p hi
    rw [← e1]; exact h.2 i p' h1
theorem lw_cell {cA : ClassId} {f g : Nat → Option Nat} (h : ∀ i, i < 5 → f i = g i) : vp_cell cA (5, .inr (.inr (.inr (.inr f)))) = vp_cell cA (5, .inr (.inr (.inr (.inr g)))) := by
  have e : ∀ F : Nat → Option Nat, vp_cell cA (5, .inr (.inr (.inr (.inr F)))) = arrV cA 5 (fun j => va_rf (F j)) := fun F => rfl
  rw [e, e]
  unfold arrV
  have h2 : (Array.ofFn (n := 5) fun j : Fin 5 => va_rf (f j.val)) = Array.ofFn (n := 5) fun j : Fin 5 => va_rf (g j.val) := congrArg Array.ofFn (funext fun j => by rw [h j.val j.isLt])
  rw [h2]
abbrev gt0 : GT := (0, 0, 0, 1, -1, 563087660810240, 563087660810240, 0, 0, 0, 0, false, 0)
abbrev lw_x0 : XT := (false, 0, gt0, fun _ => gt0, gt0, fun _ => 0, 0)
abbrev lw_m0 (s0 : Nat → Int32) : MT := (s0, fun _ => 0, 0, fun _ => 0, false, fun _ => 0, fun _ => 0, 0, 0, fun _ => 0, 0, false, false, fun _ => 0, fun _ => 0, 0, fun _ => 0, fun _ => 0, fun _ => 0, 0)
section KV
variable {p : Program} {l : Launch} {e : Env} {R : Room} {s : State} {m : MethodId} {args : Array Value} {below : List Frame} {meth : Method} {c : Code} {H : Heap} {locs : List Loc} {cells slots mc ms pc : Nat} {Q : State → Prop} {rest st : List Value} {ls : Array Slot} {D : va_G} {tys : k_TY} {Wa Wb : va_W} {A : Nat → Prop} {H0 : Heap} {a : Array Value}
theorem kj_n2 {S : Type} {V1 : S → va_W} (hr : va_Run p l e R s m args below meth c H locs cells slots mc ms (F0 m pc ls st) rest (va_Qv (fun (_ : S) => True) (fun u t => k_post D tys (va_A Wb H.size) (V1 u) t) (va_A Wb H.size) a) (va_A Wb H.size)) (hP : va_P D vwCl (Wa ++ Wb) H) (hD : va_D A (Wa ++ Wb)) (hS : va_S A H0 H locs) (hA : ∀ q, H0.size ≤ q → A q)
    (kk : ∀ (u : S) (H1 : Heap) (locs1 : List Loc), va_P D vwCl (Wa ++ V1 u) H1 → va_D A (Wa ++ V1 u) → va_S A H0 H1 locs1 → W p l e R s m args below meth c H1 locs1 (cells + mc) (slots + ms) Q (F0 m (pc + 3) ls rest)) : W p l e R s m args below meth c H locs cells slots Q (F0 m pc ls st) :=
  va_callv hr hS (fun q _ h => kj_F2 hD hS hA q h) (kj_F2 hD hS hA) (fun u t H1 locs1 ht hvm hp hB hz hk hS1 => by
    obtain ⟨hP1, hK1, hD1⟩ := hB
    rw [ht] at hP1
    obtain ⟨hP2, hD2⟩ := kj_R2 hP hD hk (kj_F2 hD hS hA) hP1 hD1
    exact kk u H1 locs1 hP2 hD2 hS1)
end KV
abbrev jk0 : JT := (fun _ => 0, fun _ => 0, fun _ => 0, 0, fun _ => 0, fun _ => 0, fun _ => 0, 0, fun _ => 0, fun _ => 0, fun _ => 0, 0)
set_option maxRecDepth 100000 in
set_option maxHeartbeats 16000000 in
theorem lw_go {p : Program} {l : Launch} {e : Env} {s : State} {m : MethodId} {b L : Nat} {xs : Nat → Int32} {below : List Frame} {meth : Method} {c : Code} {R : XT → MT → Prop} {s0 : Nat → Int32} {Q : State → Prop} (hst : l.stackTraces = false) (hL : L ≤ 2048) (hx : p.tables.exec = Jvm.exec) (hb : c.code = cL_law) (hml : c.maxLocals = 9) (hown : s.vm.findClass RL = some m.cls) (hw : ∀ w ∈ lw_tbl, w.before #[Value.ref b] s = true) (hX : va_X b L xs s s.heap) (hbl : b < s.heap.size) (hg : (Jvm.Cond.and given_1 narrow_1).before #[Value.ref b] s = true) (hs0 : mX10_begins (fun _ => 0) 0 = some s0) (hok : lwAll R) (hR0 : R lw_x0 (lw_m0 s0)) (hend : ∀ (H : Heap) (locs : List Loc) (ls : Array Slot), (∀ q ∈ locs, s.heap.size ≤ q.base) → W p l e room_1 s m #[Value.ref b] below meth c H locs 601024 7293034 Q (F0 m 2034 ls [])) : W p l e room_1 s m #[Value.ref b] below meth c s.heap [] 0 0 Q (entryFrame m ([Value.ref b] : List Value).toArray 9) := by
  obtain ⟨D, cI, cJ, cC, cG, hK⟩ := lw_K0 hw
  have hts : ∀ w ∈ wsL_law, w.before #[Value.ref b] s = true := fun w h => hw w (lw_sub w h)
  have hN := lw_N hw
  have hG := lw_G hw
  obtain ⟨A, hAe⟩ : ∃ A : Nat → Prop, A = (fun q => s.heap.size ≤ q) := ⟨_, rfl⟩
  have hA : ∀ q, s.heap.size ≤ q → A q := fun q h => by rw [hAe]; exact h
  have hA2 : ∀ q, A q → s.heap.size ≤ q := fun q h => by rw [hAe] at h; exact h
  have hq : k_stt A s := lw_st hw hg (fun a h h2 => absurd (hA2 a h2) (Nat.not_le.mpr h))
  have hbA : ¬ A b := fun h => absurd (hA2 b h) (Nat.not_le.mpr hbl)
  clear hAe
  have K : lwK p l s m b L xs meth c A D cI cJ cC cG := ⟨hx, hb, hml, hts, hown, hN, hK, hst, hX, hbl, hbA, hA, hq⟩
  have hl := lv_entry [Value.ref b] (n := 9) (Nat.le_of_ble_eq_true rfl)
  rw [lg_entry_eq]
  generalize (lg_sl [Value.ref b] ++ List.replicate (9 - (lg_sl [Value.ref b]).length) Slot.unset).toArray = ls at hl
  have hl : lv_has ls 9 [(0, .ref b)] := hl
  have hP : va_P D vwCl ([] : va_W) s.heap := k_P0
  have hD : va_D A ([] : va_W) := k_D0
  have hS : va_S A s.heap s.heap [] := va_S.rf
  refine va_new (ci := 5) (fs := [.null, .null, .null, .null]) (C := RX9) (T := TX9) (N := 4) hx hb hts (fun w h => (List.mem_append_left _ (List.mem_append_left _ (List.mem_append_left _ (List.mem_append_left _ (List.mem_append_left _ (List.mem_append_left _ (List.mem_append_left _ (List.mem_append_left _ (List.mem_append_left _ (List.mem_append_left _ (List.mem_append_right _ h)))))))))))) tyX9 tyX9_ok hown (hts (.classLink RL 8 RX9) (by decide +kernel)) (hts (.instantiable RX9 4) (by decide +kernel)) (hts (.initialized RX9) (by decide +kernel)) hK hP hD hS hA rfl (fun j hj => by rcases (show j = 0 ∨ j = 1 ∨ j = 2 ∨ j = 3 by omega) with rfl | rfl | rfl | rfl <;> rfl) (Nat.le_of_ble_eq_true rfl) (Nat.le_of_ble_eq_true rfl) dL_law_0 (fun h9 H hP hD hS => ?_)
  refine lv_dup hx hb dL_law_3 rfl ?_
  have hP : va_P D vwCl (([] : va_W) ++ ([(h9, .inr (5, [.null, .null, .null, .null]))] : va_W)) H := hP
  have hD : va_D A (([] : va_W) ++ ([(h9, .inr (5, [.null, .null, .null, .null]))] : va_W)) := hD
  have hPc : va_P D vwCl ([(h9, .inr (5, [.null, .null, .null, .null]))] : va_W) _ := kp_r hP
  have hDc : va_D A ([(h9, .inr (5, [.null, .null, .null, .null]))] : va_W) := kd_r hD
  refine kj_n2 (k_rI (As := []) (rest := [.ref h9]) ⟨hx, hb, hml, hown, hts⟩ hK hN hG hPc hDc zCX9 (cwI 0 hts gL_law_X9_init rfl rfl rfl (hts (.initialized RX9) (by decide +kernel)) (hts (.methodLink RL 104 yX9_init) (by decide +kernel)) (hts (.instanceMethod yX9_init) (by decide +kernel)) rfl (by decide +kernel) ⟨Nat.le_of_ble_eq_true rfl, Nat.le_of_ble_eq_true rfl⟩) rfl hl.1 rfl (Nat.le_of_ble_eq_true rfl) dL_law_4 ⟨Nat.le_of_ble_eq_true rfl, Nat.le_of_ble_eq_true rfl⟩) hP hD hS hA (fun uX9 H locs hP hD hS => ?_)
  obtain ⟨hn, ap0, ap1, ap2, q0, q1, q2, q3, q4, ht0, ht1, h0, pa0, pa1, pa2, pa3, pb0, pb1, pb2, pb3, pc0, pc1, pc2, pc3⟩ := uX9
  refine lv_astore_n (lv' := [(1, .ref h9), (0, .ref b)]) hx hb dL_law_7 rfl hl (by decide) rfl (fun ls hl => ?_)
  have hat := lw_cell (cA := cG) (f := va_up (va_up (va_up (va_up (va_up (fun _ => none) 0 (some q0)) 1 (some q1)) 2 (some q2)) 3 (some q3)) 4 (some q4)) (g := fun i => some (p_ad [q0, q1, q2, q3, q4] i)) (by intro i hi; rcases (show i = 0 ∨ i = 1 ∨ i = 2 ∨ i = 3 ∨ i = 4 by omega) with rfl | rfl | rfl | rfl | rfl <;> rfl)
  have hc3 : va_at D vwCl (ap1, .inl (cG, 5, .inr (.inr (.inr (.inr (fun i => some (p_ad [q0, q1, q2, q3, q4] i))))))) H := by
    have h3 := hP 3 _ rfl
    show H[ap1]? = some (vp_cell _ _)
    rw [← hat]
    exact h3
  have hP : va_P D vwCl (wXt cI cJ cC cG h9 hn (p_ad [ap0, ap1, ap2]) (p_ad [q0, q1, q2, q3, q4]) (p_ad [ht0, ht1]) h0 (p_ad [pa0, pa1, pa2, pa3]) (p_ad [pb0, pb1, pb2, pb3]) (p_ad [pc0, pc1, pc2, pc3]) jk0 lw_x0) H := lw_set (k := 3) hP hc3
  have hD : va_D A (wXt cI cJ cC cG h9 hn (p_ad [ap0, ap1, ap2]) (p_ad [q0, q1, q2, q3, q4]) (p_ad [ht0, ht1]) h0 (p_ad [pa0, pa1, pa2, pa3]) (p_ad [pb0, pb1, pb2, pb3]) (p_ad [pc0, pc1, pc2, pc3]) jk0 lw_x0) := lw_setD (k := 3) (c := (ap1, .inl (cG, 5, .inr (.inr (.inr (.inr (fun i => some (p_ad [q0, q1, q2, q3, q4] i)))))))) hD rfl rfl
  clear hc3 hat
  obtain ⟨WX, hWX⟩ : ∃ WX : va_W, WX = (wXt cI cJ cC cG h9 hn (p_ad [ap0, ap1, ap2]) (p_ad [q0, q1, q2, q3, q4]) (p_ad [ht0, ht1]) h0 (p_ad [pa0, pa1, pa2, pa3]) (p_ad [pb0, pb1, pb2, pb3]) (p_ad [pc0, pc1, pc2, pc3]) jk0 lw_x0) := ⟨_, rfl⟩
  rw [← hWX] at hP hD
  refine va_new (ci := 6) (fs := [.null, .null, .int 0, .null, .int 0, .null, .null, .int 0, .int 0, .null, .int 0, .int 0, .int 0, .null, .null, .int 0, .null, .null, .null, .long 0]) (C := RX10) (T := TX10) (N := 20) hx hb hts (fun w h => (List.mem_append_left _ (List.mem_append_left _ (List.mem_append_left _ (List.mem_append_left _ (List.mem_append_left _ (List.mem_append_left _ (List.mem_append_left _ (List.mem_append_left _ (List.mem_append_left _ (List.mem_append_right _ h))))))))))) tyX10 tyX10_ok hown (hts (.classLink RL 105 RX10) (by decide +kernel)) (hts (.instantiable RX10 20) (by decide +kernel)) (hts (.initialized RX10) (by decide +kernel)) hK hP hD hS hA rfl (fun j hj => by rcases (show j = 0 ∨ j = 1 ∨ j = 2 ∨ j = 3 ∨ j = 4 ∨ j = 5 ∨ j = 6 ∨ j = 7 ∨ j = 8 ∨ j = 9 ∨ j = 10 ∨ j = 11 ∨ j = 12 ∨ j = 13 ∨ j = 14 ∨ j = 15 ∨ j = 16 ∨ j = 17 ∨ j = 18 ∨ j = 19 by omega) with rfl | rfl | rfl | rfl | rfl | rfl | rfl | rfl | rfl | rfl | rfl | rfl | rfl | rfl | rfl | rfl | rfl | rfl | rfl | rfl <;> rfl) (Nat.le_of_ble_eq_true rfl) (Nat.le_of_ble_eq_true rfl) dL_law_8 (fun a0 H hP hD hS => ?_)
  refine lv_dup hx hb dL_law_11 rfl ?_
  have hP : va_P D vwCl (WX ++ ([(a0, .inr (6, [.null, .null, .int 0, .null, .int 0, .null, .null, .int 0, .int 0, .null, .int 0, .int 0, .int 0, .null, .null, .int 0, .null, .null, .null, .long 0]))] : va_W)) H := hP
  have hD : va_D A (WX ++ ([(a0, .inr (6, [.null, .null, .int 0, .null, .int 0, .null, .null, .int 0, .int 0, .null, .int 0, .int 0, .int 0, .null, .null, .int 0, .null, .null, .null, .long 0]))] : va_W)) := hD
  have hPc : va_P D vwCl ([(a0, .inr (6, [.null, .null, .int 0, .null, .int 0, .null, .null, .int 0, .int 0, .null, .int 0, .int 0, .int 0, .null, .null, .int 0, .null, .null, .null, .long 0]))] : va_W) _ := kp_r hP
  have hDc : va_D A ([(a0, .inr (6, [.null, .null, .int 0, .null, .int 0, .null, .null, .int 0, .int 0, .null, .int 0, .int 0, .int 0, .null, .null, .int 0, .null, .null, .null, .long 0]))] : va_W) := kd_r hD
  refine kj_n2 (k_rI (As := []) (rest := [.ref a0]) ⟨hx, hb, hml, hown, hts⟩ hK hN hG hPc hDc (zCX10 hs0) (cwI 0 hts gL_law_X10_init rfl rfl rfl (hts (.initialized RX10) (by decide +kernel)) (hts (.methodLink RL 107 yX10_init) (by decide +kernel)) (hts (.instanceMethod yX10_init) (by decide +kernel)) rfl (by decide +kernel) ⟨Nat.le_of_ble_eq_true rfl, Nat.le_of_ble_eq_true rfl⟩) rfl hl.1 rfl (Nat.le_of_ble_eq_true rfl) dL_law_12 ⟨Nat.le_of_ble_eq_true rfl, Nat.le_of_ble_eq_true rfl⟩) hP hD hS hA (fun uX10 H locs hP hD hS => ?_)
  obtain ⟨a1, a2, a3, a4, a5, a6, a7, a8, a9, a10, a11⟩ := uX10
  refine lv_astore_n (lv' := [(2, .ref a0), (1, .ref h9), (0, .ref b)]) hx hb dL_law_15 rfl hl (by decide) rfl (fun ls hl => ?_)
  have hP : va_P D vwCl (WX ++ (wMt cI cJ (p_ad [a0, a1, a2, a3, a4, a5, a6, a7, a8, a9, a10, a11]) (lw_m0 s0))) H := hP
  have hD : va_D A (WX ++ (wMt cI cJ (p_ad [a0, a1, a2, a3, a4, a5, a6, a7, a8, a9, a10, a11]) (lw_m0 s0))) := hD
  refine lv_iconst (v := 1) hx hb dL_law_16 (by decide) ?_
  refine va_newa (ty := .long) (atype := .long) (a0 := (1, .inr (.inl (fun _ => 0)))) hx hb (hts (.arrayClass .long) (by decide +kernel)) rfl hK hP hD hS hA (fun _ => rfl) (by decide) (by decide) (Nat.le_of_ble_eq_true rfl) (Nat.le_of_ble_eq_true rfl) (Nat.le_of_ble_eq_true rfl) dL_law_17 (fun oa cA H hK2 hP hD hS => ?_)
  obtain rfl : cJ = cA := k_Ku_long hK hK2
  refine lv_astore_n (lv' := [(3, .ref oa), (2, .ref a0), (1, .ref h9), (0, .ref b)]) hx hb dL_law_19 rfl hl (by decide) rfl (fun ls hl => ?_)
  refine lv_iconst (v := 0) hx hb dL_law_20 (by decide) ?_
  refine lv_istore (lv' := [(4, .int 0), (3, .ref oa), (2, .ref a0), (1, .ref h9), (0, .ref b)]) hx hb dL_law_21 hl (by decide) rfl (fun ls hl => ?_)
  have hP := kp_3 (A := WX) (B := (wMt cI cJ (p_ad [a0, a1, a2, a3, a4, a5, a6, a7, a8, a9, a10, a11]) (lw_m0 s0))) (C := wO cJ oa (fun _ => 0)) hP
  have hD := kd_3 (A := WX) (B := (wMt cI cJ (p_ad [a0, a1, a2, a3, a4, a5, a6, a7, a8, a9, a10, a11]) (lw_m0 s0))) (C := wO cJ oa (fun _ => 0)) hD
  subst hWX
  exact lw_loop (h9 := h9) (hn := hn) (h0 := h0) (ap := p_ad [ap0, ap1, ap2]) (ht := p_ad [ht0, ht1]) (pc := p_ad [pc0, pc1, pc2, pc3]) (ad := p_ad [a0, a1, a2, a3, a4, a5, a6, a7, a8, a9, a10, a11]) (oa := oa) K hL hok (fun H locs ls hS => hend H locs ls (fun q hq => hA2 _ (hS.2.2 q hq))) 512 0 _ _ (p_ad [q0, q1, q2, q3, q4], p_ad [pa0, pa1, pa2, pa3], p_ad [pb0, pb1, pb2, pb3], jk0) lw_x0 (lw_m0 s0) (fun _ => 0) H _ ls (by omega) (by omega) (Nat.le_of_ble_eq_true rfl) (Nat.le_of_ble_eq_true rfl) hR0 hP hD hS hl
