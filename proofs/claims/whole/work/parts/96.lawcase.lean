set_option maxHeartbeats 8000000 in
set_option maxRecDepth 100000 in
theorem wl_roll {p : Program} {l : Launch} {e : Env} {s : State} {m : MethodId} {b L : Nat} {xs : Nat → Int32} {below : List Frame} {meth : Method} {c : Code} {A : Nat → Prop} {D : va_G} {cI cJ cC cG : ClassId} {h9 hn h0 : Nat} {ap ht pc : Nat → Nat} {u : lwH} {x : XT} {m1 : MT} {ad : Nat → Nat} {oa : Nat} {out : Nat → Int64} {H : Heap} {locs : List Loc} {ls : Array Slot} {Q : State → Prop} {C S j : Nat} (K : lwK p l s m b L xs meth c A D cI cJ cC cG) (hP : va_P D vwCl (wLw cI cJ cC cG h9 hn ap ht h0 pc u x ad oa out m1) H) (hD : va_D A (wLw cI cJ cC cG h9 hn ap ht h0 pc u x ad oa out m1)) (hS : va_S A s.heap H locs) (hl : lv_has ls 9 (lw_lv b h9 (ad 0) oa j)) (hj : j + 4 ≤ L) (hL : L ≤ 2048) {r : Int32} {x' : XT} {r' : Int32} {m' : MT} (hf : C + 0 ≤ room_1.cells ∧ S + 0 ≤ room_1.slots) (h1 : XN_roll x (xs (j + 1)) (xs (j + 2)) = some (r, x')) (h2 : MN_roll m1 (xs (j + 1)) (xs (j + 2)) = some (r', m')) (h3 : thr m' = 0) (h4 : (Int32.toInt64 r) = Int32.toInt64 r') (kk : ∀ (u : lwH) (H : Heap) (locs : List Loc) (ls : Array Slot), va_P D vwCl (wLw cI cJ cC cG h9 hn ap ht h0 pc u x' ad oa (vp_updL out (Int32.toNatClampNeg 0) (Int32.toInt64 r)) m') H → va_D A (wLw cI cJ cC cG h9 hn ap ht h0 pc u x' ad oa (vp_updL out (Int32.toNatClampNeg 0) (Int32.toInt64 r)) m') → va_S A s.heap H locs → lv_has ls 9 (lw_lv b h9 (ad 0) oa j) → W p l e room_1 s m #[Value.ref b] below meth c H locs C S Q (F0 m 2028 ls [])) : W p l e room_1 s m #[Value.ref b] below meth c H locs C S Q (F0 m 228 ls []) := by
  have hl : lv_has ls 9 [(4, .int (lw_i j)), (3, .ref oa), (2, .ref (ad 0)), (1, .ref h9), (0, .ref b)] := hl
  refine lv_aload_n K.hx K.hb dL_law_228 rfl (lv_at hl 3 rfl) ?_
  refine lw_arg1 K hS (lv_at hl 4 rfl) (lv_at hl 0 rfl) hj hL dL_law_229 dL_law_230 dL_law_232 dL_law_233 dL_law_234 ?_
  refine lw_arg2 K hS (lv_at hl 4 rfl) (lv_at hl 0 rfl) hj hL dL_law_235 dL_law_236 dL_law_238 dL_law_239 dL_law_240 ?_
  refine lv_aload_n K.hx K.hb dL_law_241 rfl (lv_at hl 1 rfl) ?_
  have hPc : va_P D vwCl (wX1 cI cJ cC cG h9 hn ap ht h0 pc u x oa out) _ := kp_l hP
  have hDc : va_D A (wX1 cI cJ cC cG h9 hn ap ht h0 pc u x oa out) := kd_l hD
  refine kj_i1 (k_rSW (As := [.ref h9, .int (xs (j + 1)), .int (xs (j + 2)), .ref oa]) (rest := []) ⟨K.hx, K.hb, K.hml, K.hown, K.hts⟩ K.hK K.hN hPc hDc (zB_roll h1) (vx_cwSW (hh := [(0, 10, 13, 13), (0, 10, 17, 15)]) 4 K.hts gL_law_L_roll rfl rfl rfl (by decide +kernel) ⟨Nat.le_of_ble_eq_true rfl, Nat.le_of_ble_eq_true rfl⟩) rfl hl.1 rfl (Nat.le_of_ble_eq_true rfl) dL_law_242 hf) hP hD hS K.hA (fun u H locs hP hD hS => ?_)
  have hP : va_P D vwCl (wLw cI cJ cC cG h9 hn ap ht h0 pc u x' ad oa (vp_updL out (Int32.toNatClampNeg 0) (Int32.toInt64 r)) m1) H := hP
  have hD : va_D A (wLw cI cJ cC cG h9 hn ap ht h0 pc u x' ad oa (vp_updL out (Int32.toNatClampNeg 0) (Int32.toInt64 r)) m1) := hD
  refine lv_istore (lv' := [(5, .int 0), (4, .int (lw_i j)), (3, .ref oa), (2, .ref (ad 0)), (1, .ref h9), (0, .ref b)]) K.hx K.hb dL_law_245 hl (by decide) rfl (fun ls hl => ?_)
  refine lv_aload_n K.hx K.hb dL_law_247 rfl (lv_at hl 3 rfl) ?_
  refine lw_arg1 K hS (lv_at hl 5 rfl) (lv_at hl 1 rfl) hj hL dL_law_248 dL_law_249 dL_law_251 dL_law_252 dL_law_253 ?_
  refine lw_arg2 K hS (lv_at hl 5 rfl) (lv_at hl 1 rfl) hj hL dL_law_254 dL_law_255 dL_law_257 dL_law_258 dL_law_259 ?_
  have hPc : va_P D vwCl (wMt cI cJ ad m1) _ := kp_r hP
  have hDc : va_D A (wMt cI cJ ad m1) := kd_r hD
  refine kj_i2 (k_rV (As := [.int (xs (j + 1)), .int (xs (j + 2))]) (rest := []) ⟨K.hx, K.hb, K.hml, K.hown, K.hts⟩ K.hK K.hN hPc hDc (zM_roll h2) (cwV 2 K.hts gL_law_X10_roll rfl rfl rfl (by decide +kernel) ⟨Nat.le_of_ble_eq_true rfl, Nat.le_of_ble_eq_true rfl⟩) rfl rfl rfl hl.1 rfl (Nat.le_of_ble_eq_true rfl) dL_law_260 hf) hP hD hS K.hA (fun H locs hP hD hS => ?_)
  have hP : va_P D vwCl (wLw cI cJ cC cG h9 hn ap ht h0 pc u x' ad oa (vp_updL out (Int32.toNatClampNeg 0) (Int32.toInt64 r)) m') H := hP
  have hD : va_D A (wLw cI cJ cC cG h9 hn ap ht h0 pc u x' ad oa (vp_updL out (Int32.toNatClampNeg 0) (Int32.toInt64 r)) m') := hD
  refine lv_istore (lv' := [(6, .int r'), (5, .int 0), (4, .int (lw_i j)), (3, .ref oa), (2, .ref (ad 0)), (1, .ref h9), (0, .ref b)]) K.hx K.hb dL_law_263 hl (by decide) rfl (fun ls hl => ?_)
  refine lv_aload_n K.hx K.hb dL_law_265 rfl (lv_at hl 4 rfl) ?_
  have hPc : va_P D vwCl (wMt cI cJ ad m') _ := kp_r hP
  have hDc : va_D A (wMt cI cJ ad m') := kd_r hD
  refine kj_i2 (k_rV (As := []) (rest := []) ⟨K.hx, K.hb, K.hml, K.hown, K.hts⟩ K.hK K.hN hPc hDc zM_thrown (cwV 0 K.hts gL_law_X10_thrown rfl rfl rfl (by decide +kernel) ⟨Nat.le_of_ble_eq_true rfl, Nat.le_of_ble_eq_true rfl⟩) rfl rfl rfl hl.1 rfl (Nat.le_of_ble_eq_true rfl) dL_law_266 hf) hP hD hS K.hA (fun H locs hP hD hS => ?_)
  have hP : va_P D vwCl (wLw cI cJ cC cG h9 hn ap ht h0 pc u x' ad oa (vp_updL out (Int32.toNatClampNeg 0) (Int32.toInt64 r)) m') H := hP
  have hD : va_D A (wLw cI cJ cC cG h9 hn ap ht h0 pc u x' ad oa (vp_updL out (Int32.toNatClampNeg 0) (Int32.toInt64 r)) m') := hD
  refine lv_iload K.hx K.hb dL_law_269 (lv_at hl 1 rfl) ?_
  refine lv_icmp_eq (tgt := 276) K.hx K.hb dL_law_271 (by decide) (fun cc => ?_) (fun cc => absurd h3 cc)
  refine lv_iload K.hx K.hb dL_law_276 (lv_at hl 1 rfl) ?_
  refine lv_if_ne (tgt := 293) K.hx K.hb dL_law_278 (by decide) (fun cc => absurd rfl cc) (fun cc => ?_)
  refine lv_aload_n K.hx K.hb dL_law_281 rfl (lv_at hl 3 rfl) ?_
  refine lv_iconst (v := 0) K.hx K.hb dL_law_282 (by decide) ?_
  refine va_lald K.hx K.hb K.hK hP 25 1 rfl rfl kv_01 dL_law_283 ?_
  refine W.eq (g2 := F0 m 284 _ (.long (Int32.toInt64 r) :: [])) (by rw [lw_out]) ?_
  refine lv_iload K.hx K.hb dL_law_284 (lv_at hl 0 rfl) ?_
  refine lv_i2l (v := Int32.toInt64 r') K.hx K.hb dL_law_286 rfl ?_
  refine W.lcmp K.hx K.hb dL_law_287 ?_
  refine lv_if_eq (tgt := 293) K.hx K.hb dL_law_288 (by decide) (fun cc => ?_) (fun cc => absurd (lw_ceq h4) cc)
  refine lv_goto (tgt := 2028) K.hx K.hb dL_law_293 (by decide) ?_
  exact kk u H locs ls hP hD hS (lv_sub hl [2, 3, 4, 5, 6] rfl)
set_option maxHeartbeats 8000000 in
set_option maxRecDepth 100000 in
theorem wlT_roll_1 {p : Program} {l : Launch} {e : Env} {s : State} {m : MethodId} {b L : Nat} {xs : Nat → Int32} {below : List Frame} {meth : Method} {c : Code} {A : Nat → Prop} {D : va_G} {cI cJ cC cG : ClassId} {h9 hn h0 : Nat} {ap ht pc : Nat → Nat} {u : lwH} {x : XT} {m1 : MT} {ad : Nat → Nat} {oa : Nat} {out : Nat → Int64} {H : Heap} {locs : List Loc} {ls : Array Slot} {Q : State → Prop} {C S j : Nat} (K : lwK p l s m b L xs meth c A D cI cJ cC cG) (hP : va_P D vwCl (wLw cI cJ cC cG h9 hn ap ht h0 pc u x ad oa out m1) H) (hD : va_D A (wLw cI cJ cC cG h9 hn ap ht h0 pc u x ad oa out m1)) (hS : va_S A s.heap H locs) (hl : lv_has ls 9 (lw_lv b h9 (ad 0) oa j)) (hj : j + 4 ≤ L) (hL : L ≤ 2048) {r' : Int32} {m' : MT} (hf : C + 1 ≤ room_1.cells ∧ S + 6 ≤ room_1.slots) (h1 : XT_roll x (xs (j + 1)) (xs (j + 2)) = some "java/lang/IllegalArgumentException") (h2 : MN_roll m1 (xs (j + 1)) (xs (j + 2)) = some (r', m')) (h3 : thr m' = 1) (kk : ∀ (H : Heap) (locs : List Loc) (ls : Array Slot), va_P D vwCl (wLw cI cJ cC cG h9 hn ap ht h0 pc u x ad oa out m') H → va_D A (wLw cI cJ cC cG h9 hn ap ht h0 pc u x ad oa out m') → va_S A s.heap H locs → lv_has ls 9 (lw_lv b h9 (ad 0) oa j) → W p l e room_1 s m #[Value.ref b] below meth c H locs (C + 1) (S + 6) Q (F0 m 2028 ls [])) : W p l e room_1 s m #[Value.ref b] below meth c H locs C S Q (F0 m 228 ls []) := by
  have hl : lv_has ls 9 [(4, .int (lw_i j)), (3, .ref oa), (2, .ref (ad 0)), (1, .ref h9), (0, .ref b)] := hl
  refine lv_aload_n K.hx K.hb dL_law_228 rfl (lv_at hl 3 rfl) ?_
  refine lw_arg1 K hS (lv_at hl 4 rfl) (lv_at hl 0 rfl) hj hL dL_law_229 dL_law_230 dL_law_232 dL_law_233 dL_law_234 ?_
  refine lw_arg2 K hS (lv_at hl 4 rfl) (lv_at hl 0 rfl) hj hL dL_law_235 dL_law_236 dL_law_238 dL_law_239 dL_law_240 ?_
  refine lv_aload_n K.hx K.hb dL_law_241 rfl (lv_at hl 1 rfl) ?_
  have hPc : va_P D vwCl (wX1 cI cJ cC cG h9 hn ap ht h0 pc u x oa out) _ := kp_l hP
  have hDc : va_D A (wX1 cI cJ cC cG h9 hn ap ht h0 pc u x oa out) := kd_l hD
  refine kj_x1 (k_rSWT (As := [.ref h9, .int (xs (j + 1)), .int (xs (j + 2)), .ref oa]) (rest := []) ⟨K.hx, K.hb, K.hml, K.hown, K.hts⟩ K.hK K.hN K.hq hS (kj_F hD hS K.hA) hPc hDc (zBT_roll_1 K.hst h1) (vx_cwSW (hh := [(0, 10, 13, 13), (0, 10, 17, 15)]) 4 K.hts gL_law_L_roll rfl rfl rfl (by decide +kernel) ⟨Nat.le_of_ble_eq_true rfl, Nat.le_of_ble_eq_true rfl⟩) rfl hl.1 rfl (Nat.le_of_ble_eq_true rfl) dL_law_242 hf) hP hD hS K.hA (fun H locs hP hD hS => ?_)
  have hP : va_P D vwCl (wLw cI cJ cC cG h9 hn ap ht h0 pc u x ad oa out m1) H := hP
  have hD : va_D A (wLw cI cJ cC cG h9 hn ap ht h0 pc u x ad oa out m1) := hD
  refine lv_istore (lv' := [(5, .int 1), (4, .int (lw_i j)), (3, .ref oa), (2, .ref (ad 0)), (1, .ref h9), (0, .ref b)]) K.hx K.hb dL_law_245 hl (by decide) rfl (fun ls hl => ?_)
  refine lv_aload_n K.hx K.hb dL_law_247 rfl (lv_at hl 3 rfl) ?_
  refine lw_arg1 K hS (lv_at hl 5 rfl) (lv_at hl 1 rfl) hj hL dL_law_248 dL_law_249 dL_law_251 dL_law_252 dL_law_253 ?_
  refine lw_arg2 K hS (lv_at hl 5 rfl) (lv_at hl 1 rfl) hj hL dL_law_254 dL_law_255 dL_law_257 dL_law_258 dL_law_259 ?_
  have hPc : va_P D vwCl (wMt cI cJ ad m1) _ := kp_r hP
  have hDc : va_D A (wMt cI cJ ad m1) := kd_r hD
  refine kj_i2 (k_rV (As := [.int (xs (j + 1)), .int (xs (j + 2))]) (rest := []) ⟨K.hx, K.hb, K.hml, K.hown, K.hts⟩ K.hK K.hN hPc hDc (zM_roll h2) (cwV 2 K.hts gL_law_X10_roll rfl rfl rfl (by decide +kernel) ⟨Nat.le_of_ble_eq_true rfl, Nat.le_of_ble_eq_true rfl⟩) rfl rfl rfl hl.1 rfl (Nat.le_of_ble_eq_true rfl) dL_law_260 (lw_fit hf)) hP hD hS K.hA (fun H locs hP hD hS => ?_)
  have hP : va_P D vwCl (wLw cI cJ cC cG h9 hn ap ht h0 pc u x ad oa out m') H := hP
  have hD : va_D A (wLw cI cJ cC cG h9 hn ap ht h0 pc u x ad oa out m') := hD
  refine lv_istore (lv' := [(6, .int r'), (5, .int 1), (4, .int (lw_i j)), (3, .ref oa), (2, .ref (ad 0)), (1, .ref h9), (0, .ref b)]) K.hx K.hb dL_law_263 hl (by decide) rfl (fun ls hl => ?_)
  refine lv_aload_n K.hx K.hb dL_law_265 rfl (lv_at hl 4 rfl) ?_
  have hPc : va_P D vwCl (wMt cI cJ ad m') _ := kp_r hP
  have hDc : va_D A (wMt cI cJ ad m') := kd_r hD
  refine kj_i2 (k_rV (As := []) (rest := []) ⟨K.hx, K.hb, K.hml, K.hown, K.hts⟩ K.hK K.hN hPc hDc zM_thrown (cwV 0 K.hts gL_law_X10_thrown rfl rfl rfl (by decide +kernel) ⟨Nat.le_of_ble_eq_true rfl, Nat.le_of_ble_eq_true rfl⟩) rfl rfl rfl hl.1 rfl (Nat.le_of_ble_eq_true rfl) dL_law_266 (lw_fit hf)) hP hD hS K.hA (fun H locs hP hD hS => ?_)
  have hP : va_P D vwCl (wLw cI cJ cC cG h9 hn ap ht h0 pc u x ad oa out m') H := hP
  have hD : va_D A (wLw cI cJ cC cG h9 hn ap ht h0 pc u x ad oa out m') := hD
  refine lv_iload K.hx K.hb dL_law_269 (lv_at hl 1 rfl) ?_
  refine lv_icmp_eq (tgt := 276) K.hx K.hb dL_law_271 (by decide) (fun cc => ?_) (fun cc => absurd h3 cc)
  refine lv_iload K.hx K.hb dL_law_276 (lv_at hl 1 rfl) ?_
  refine lv_if_ne (tgt := 293) K.hx K.hb dL_law_278 (by decide) (fun cc => ?_) (fun cc => absurd cc (by decide))
  refine lv_goto (tgt := 2028) K.hx K.hb dL_law_293 (by decide) ?_
  exact kk H locs ls hP hD hS (lv_sub hl [2, 3, 4, 5, 6] rfl)
set_option maxHeartbeats 8000000 in
set_option maxRecDepth 100000 in
theorem wlT_roll_2 {p : Program} {l : Launch} {e : Env} {s : State} {m : MethodId} {b L : Nat} {xs : Nat → Int32} {below : List Frame} {meth : Method} {c : Code} {A : Nat → Prop} {D : va_G} {cI cJ cC cG : ClassId} {h9 hn h0 : Nat} {ap ht pc : Nat → Nat} {u : lwH} {x : XT} {m1 : MT} {ad : Nat → Nat} {oa : Nat} {out : Nat → Int64} {H : Heap} {locs : List Loc} {ls : Array Slot} {Q : State → Prop} {C S j : Nat} (K : lwK p l s m b L xs meth c A D cI cJ cC cG) (hP : va_P D vwCl (wLw cI cJ cC cG h9 hn ap ht h0 pc u x ad oa out m1) H) (hD : va_D A (wLw cI cJ cC cG h9 hn ap ht h0 pc u x ad oa out m1)) (hS : va_S A s.heap H locs) (hl : lv_has ls 9 (lw_lv b h9 (ad 0) oa j)) (hj : j + 4 ≤ L) (hL : L ≤ 2048) {r' : Int32} {m' : MT} (hf : C + 1 ≤ room_1.cells ∧ S + 6 ≤ room_1.slots) (h1 : XT_roll x (xs (j + 1)) (xs (j + 2)) = some "java/lang/IllegalStateException") (h2 : MN_roll m1 (xs (j + 1)) (xs (j + 2)) = some (r', m')) (h3 : thr m' = 2) (kk : ∀ (H : Heap) (locs : List Loc) (ls : Array Slot), va_P D vwCl (wLw cI cJ cC cG h9 hn ap ht h0 pc u x ad oa out m') H → va_D A (wLw cI cJ cC cG h9 hn ap ht h0 pc u x ad oa out m') → va_S A s.heap H locs → lv_has ls 9 (lw_lv b h9 (ad 0) oa j) → W p l e room_1 s m #[Value.ref b] below meth c H locs (C + 1) (S + 6) Q (F0 m 2028 ls [])) : W p l e room_1 s m #[Value.ref b] below meth c H locs C S Q (F0 m 228 ls []) := by
  have hl : lv_has ls 9 [(4, .int (lw_i j)), (3, .ref oa), (2, .ref (ad 0)), (1, .ref h9), (0, .ref b)] := hl
  refine lv_aload_n K.hx K.hb dL_law_228 rfl (lv_at hl 3 rfl) ?_
  refine lw_arg1 K hS (lv_at hl 4 rfl) (lv_at hl 0 rfl) hj hL dL_law_229 dL_law_230 dL_law_232 dL_law_233 dL_law_234 ?_
  refine lw_arg2 K hS (lv_at hl 4 rfl) (lv_at hl 0 rfl) hj hL dL_law_235 dL_law_236 dL_law_238 dL_law_239 dL_law_240 ?_
  refine lv_aload_n K.hx K.hb dL_law_241 rfl (lv_at hl 1 rfl) ?_
  have hPc : va_P D vwCl (wX1 cI cJ cC cG h9 hn ap ht h0 pc u x oa out) _ := kp_l hP
  have hDc : va_D A (wX1 cI cJ cC cG h9 hn ap ht h0 pc u x oa out) := kd_l hD
  refine kj_x1 (k_rSWT (As := [.ref h9, .int (xs (j + 1)), .int (xs (j + 2)), .ref oa]) (rest := []) ⟨K.hx, K.hb, K.hml, K.hown, K.hts⟩ K.hK K.hN K.hq hS (kj_F hD hS K.hA) hPc hDc (zBT_roll_2 K.hst h1) (vx_cwSW (hh := [(0, 10, 13, 13), (0, 10, 17, 15)]) 4 K.hts gL_law_L_roll rfl rfl rfl (by decide +kernel) ⟨Nat.le_of_ble_eq_true rfl, Nat.le_of_ble_eq_true rfl⟩) rfl hl.1 rfl (Nat.le_of_ble_eq_true rfl) dL_law_242 hf) hP hD hS K.hA (fun H locs hP hD hS => ?_)
  have hP : va_P D vwCl (wLw cI cJ cC cG h9 hn ap ht h0 pc u x ad oa out m1) H := hP
  have hD : va_D A (wLw cI cJ cC cG h9 hn ap ht h0 pc u x ad oa out m1) := hD
  refine lv_istore (lv' := [(5, .int 2), (4, .int (lw_i j)), (3, .ref oa), (2, .ref (ad 0)), (1, .ref h9), (0, .ref b)]) K.hx K.hb dL_law_245 hl (by decide) rfl (fun ls hl => ?_)
  refine lv_aload_n K.hx K.hb dL_law_247 rfl (lv_at hl 3 rfl) ?_
  refine lw_arg1 K hS (lv_at hl 5 rfl) (lv_at hl 1 rfl) hj hL dL_law_248 dL_law_249 dL_law_251 dL_law_252 dL_law_253 ?_
  refine lw_arg2 K hS (lv_at hl 5 rfl) (lv_at hl 1 rfl) hj hL dL_law_254 dL_law_255 dL_law_257 dL_law_258 dL_law_259 ?_
  have hPc : va_P D vwCl (wMt cI cJ ad m1) _ := kp_r hP
  have hDc : va_D A (wMt cI cJ ad m1) := kd_r hD
  refine kj_i2 (k_rV (As := [.int (xs (j + 1)), .int (xs (j + 2))]) (rest := []) ⟨K.hx, K.hb, K.hml, K.hown, K.hts⟩ K.hK K.hN hPc hDc (zM_roll h2) (cwV 2 K.hts gL_law_X10_roll rfl rfl rfl (by decide +kernel) ⟨Nat.le_of_ble_eq_true rfl, Nat.le_of_ble_eq_true rfl⟩) rfl rfl rfl hl.1 rfl (Nat.le_of_ble_eq_true rfl) dL_law_260 (lw_fit hf)) hP hD hS K.hA (fun H locs hP hD hS => ?_)
  have hP : va_P D vwCl (wLw cI cJ cC cG h9 hn ap ht h0 pc u x ad oa out m') H := hP
  have hD : va_D A (wLw cI cJ cC cG h9 hn ap ht h0 pc u x ad oa out m') := hD
  refine lv_istore (lv' := [(6, .int r'), (5, .int 2), (4, .int (lw_i j)), (3, .ref oa), (2, .ref (ad 0)), (1, .ref h9), (0, .ref b)]) K.hx K.hb dL_law_263 hl (by decide) rfl (fun ls hl => ?_)
  refine lv_aload_n K.hx K.hb dL_law_265 rfl (lv_at hl 4 rfl) ?_
  have hPc : va_P D vwCl (wMt cI cJ ad m') _ := kp_r hP
  have hDc : va_D A (wMt cI cJ ad m') := kd_r hD
  refine kj_i2 (k_rV (As := []) (rest := []) ⟨K.hx, K.hb, K.hml, K.hown, K.hts⟩ K.hK K.hN hPc hDc zM_thrown (cwV 0 K.hts gL_law_X10_thrown rfl rfl rfl (by decide +kernel) ⟨Nat.le_of_ble_eq_true rfl, Nat.le_of_ble_eq_true rfl⟩) rfl rfl rfl hl.1 rfl (Nat.le_of_ble_eq_true rfl) dL_law_266 (lw_fit hf)) hP hD hS K.hA (fun H locs hP hD hS => ?_)
  have hP : va_P D vwCl (wLw cI cJ cC cG h9 hn ap ht h0 pc u x ad oa out m') H := hP
  have hD : va_D A (wLw cI cJ cC cG h9 hn ap ht h0 pc u x ad oa out m') := hD
  refine lv_iload K.hx K.hb dL_law_269 (lv_at hl 1 rfl) ?_
  refine lv_icmp_eq (tgt := 276) K.hx K.hb dL_law_271 (by decide) (fun cc => ?_) (fun cc => absurd h3 cc)
  refine lv_iload K.hx K.hb dL_law_276 (lv_at hl 1 rfl) ?_
  refine lv_if_ne (tgt := 293) K.hx K.hb dL_law_278 (by decide) (fun cc => ?_) (fun cc => absurd cc (by decide))
  refine lv_goto (tgt := 2028) K.hx K.hb dL_law_293 (by decide) ?_
  exact kk H locs ls hP hD hS (lv_sub hl [2, 3, 4, 5, 6] rfl)
set_option maxHeartbeats 8000000 in
set_option maxRecDepth 100000 in
theorem wl_step {p : Program} {l : Launch} {e : Env} {s : State} {m : MethodId} {b L : Nat} {xs : Nat → Int32} {below : List Frame} {meth : Method} {c : Code} {A : Nat → Prop} {D : va_G} {cI cJ cC cG : ClassId} {h9 hn h0 : Nat} {ap ht pc : Nat → Nat} {u : lwH} {x : XT} {m1 : MT} {ad : Nat → Nat} {oa : Nat} {out : Nat → Int64} {H : Heap} {locs : List Loc} {ls : Array Slot} {Q : State → Prop} {C S j : Nat} (K : lwK p l s m b L xs meth c A D cI cJ cC cG) (hP : va_P D vwCl (wLw cI cJ cC cG h9 hn ap ht h0 pc u x ad oa out m1) H) (hD : va_D A (wLw cI cJ cC cG h9 hn ap ht h0 pc u x ad oa out m1)) (hS : va_S A s.heap H locs) (hl : lv_has ls 9 (lw_lv b h9 (ad 0) oa j)) (hj : j + 4 ≤ L) (hL : L ≤ 2048) {r : Bool} {x' : XT} {r' : Bool} {m' : MT} (hf : C + 0 ≤ room_1.cells ∧ S + 0 ≤ room_1.slots) (h1 : XN_step x (xs (j + 1)) (xs (j + 2)) = some (r, x')) (h2 : MN_step m1 (xs (j + 1)) (xs (j + 2)) = some (r', m')) (h3 : thr m' = 0) (h4 : (k_z1 r) = k_z1 r') (kk : ∀ (u : lwH) (H : Heap) (locs : List Loc) (ls : Array Slot), va_P D vwCl (wLw cI cJ cC cG h9 hn ap ht h0 pc u x' ad oa (vp_updL out (Int32.toNatClampNeg 0) (k_z1 r)) m') H → va_D A (wLw cI cJ cC cG h9 hn ap ht h0 pc u x' ad oa (vp_updL out (Int32.toNatClampNeg 0) (k_z1 r)) m') → va_S A s.heap H locs → lv_has ls 9 (lw_lv b h9 (ad 0) oa j) → W p l e room_1 s m #[Value.ref b] below meth c H locs C S Q (F0 m 2028 ls [])) : W p l e room_1 s m #[Value.ref b] below meth c H locs C S Q (F0 m 296 ls []) := by
  have hl : lv_has ls 9 [(4, .int (lw_i j)), (3, .ref oa), (2, .ref (ad 0)), (1, .ref h9), (0, .ref b)] := hl
  refine lv_aload_n K.hx K.hb dL_law_296 rfl (lv_at hl 3 rfl) ?_
  refine lw_arg1 K hS (lv_at hl 4 rfl) (lv_at hl 0 rfl) hj hL dL_law_297 dL_law_298 dL_law_300 dL_law_301 dL_law_302 ?_
  refine lw_arg2 K hS (lv_at hl 4 rfl) (lv_at hl 0 rfl) hj hL dL_law_303 dL_law_304 dL_law_306 dL_law_307 dL_law_308 ?_
  refine lv_aload_n K.hx K.hb dL_law_309 rfl (lv_at hl 1 rfl) ?_
  have hPc : va_P D vwCl (wX1 cI cJ cC cG h9 hn ap ht h0 pc u x oa out) _ := kp_l hP
  have hDc : va_D A (wX1 cI cJ cC cG h9 hn ap ht h0 pc u x oa out) := kd_l hD
  refine kj_i1 (k_rSW (As := [.ref h9, .int (xs (j + 1)), .int (xs (j + 2)), .ref oa]) (rest := []) ⟨K.hx, K.hb, K.hml, K.hown, K.hts⟩ K.hK K.hN hPc hDc (zB_step h1) (vx_cwSW (hh := [(0, 17, 20, 21), (0, 17, 24, 13), (0, 17, 28, 15)]) 4 K.hts gL_law_L_step rfl rfl rfl (by decide +kernel) ⟨Nat.le_of_ble_eq_true rfl, Nat.le_of_ble_eq_true rfl⟩) rfl hl.1 rfl (Nat.le_of_ble_eq_true rfl) dL_law_310 hf) hP hD hS K.hA (fun u H locs hP hD hS => ?_)
  have hP : va_P D vwCl (wLw cI cJ cC cG h9 hn ap ht h0 pc u x' ad oa (vp_updL out (Int32.toNatClampNeg 0) (k_z1 r)) m1) H := hP
  have hD : va_D A (wLw cI cJ cC cG h9 hn ap ht h0 pc u x' ad oa (vp_updL out (Int32.toNatClampNeg 0) (k_z1 r)) m1) := hD
  refine lv_istore (lv' := [(5, .int 0), (4, .int (lw_i j)), (3, .ref oa), (2, .ref (ad 0)), (1, .ref h9), (0, .ref b)]) K.hx K.hb dL_law_313 hl (by decide) rfl (fun ls hl => ?_)
  refine lv_aload_n K.hx K.hb dL_law_315 rfl (lv_at hl 3 rfl) ?_
  refine lw_arg1 K hS (lv_at hl 5 rfl) (lv_at hl 1 rfl) hj hL dL_law_316 dL_law_317 dL_law_319 dL_law_320 dL_law_321 ?_
  refine lw_arg2 K hS (lv_at hl 5 rfl) (lv_at hl 1 rfl) hj hL dL_law_322 dL_law_323 dL_law_325 dL_law_326 dL_law_327 ?_
  have hPc : va_P D vwCl (wMt cI cJ ad m1) _ := kp_r hP
  have hDc : va_D A (wMt cI cJ ad m1) := kd_r hD
  refine kj_i2 (k_rV (As := [.int (xs (j + 1)), .int (xs (j + 2))]) (rest := []) ⟨K.hx, K.hb, K.hml, K.hown, K.hts⟩ K.hK K.hN hPc hDc (zM_step h2) (cwV 2 K.hts gL_law_X10_step rfl rfl rfl (by decide +kernel) ⟨Nat.le_of_ble_eq_true rfl, Nat.le_of_ble_eq_true rfl⟩) rfl rfl rfl hl.1 rfl (Nat.le_of_ble_eq_true rfl) dL_law_328 hf) hP hD hS K.hA (fun H locs hP hD hS => ?_)
  have hP : va_P D vwCl (wLw cI cJ cC cG h9 hn ap ht h0 pc u x' ad oa (vp_updL out (Int32.toNatClampNeg 0) (k_z1 r)) m') H := hP
  have hD : va_D A (wLw cI cJ cC cG h9 hn ap ht h0 pc u x' ad oa (vp_updL out (Int32.toNatClampNeg 0) (k_z1 r)) m') := hD
  refine lv_istore (lv' := [(6, .int (k_b r')), (5, .int 0), (4, .int (lw_i j)), (3, .ref oa), (2, .ref (ad 0)), (1, .ref h9), (0, .ref b)]) K.hx K.hb dL_law_331 hl (by decide) rfl (fun ls hl => ?_)
  refine lv_aload_n K.hx K.hb dL_law_333 rfl (lv_at hl 4 rfl) ?_
  have hPc : va_P D vwCl (wMt cI cJ ad m') _ := kp_r hP
  have hDc : va_D A (wMt cI cJ ad m') := kd_r hD
  refine kj_i2 (k_rV (As := []) (rest := []) ⟨K.hx, K.hb, K.hml, K.hown, K.hts⟩ K.hK K.hN hPc hDc zM_thrown (cwV 0 K.hts gL_law_X10_thrown rfl rfl rfl (by decide +kernel) ⟨Nat.le_of_ble_eq_true rfl, Nat.le_of_ble_eq_true rfl⟩) rfl rfl rfl hl.1 rfl (Nat.le_of_ble_eq_true rfl) dL_law_334 hf) hP hD hS K.hA (fun H locs hP hD hS => ?_)
  have hP : va_P D vwCl (wLw cI cJ cC cG h9 hn ap ht h0 pc u x' ad oa (vp_updL out (Int32.toNatClampNeg 0) (k_z1 r)) m') H := hP
  have hD : va_D A (wLw cI cJ cC cG h9 hn ap ht h0 pc u x' ad oa (vp_updL out (Int32.toNatClampNeg 0) (k_z1 r)) m') := hD
  refine lv_iload K.hx K.hb dL_law_337 (lv_at hl 1 rfl) ?_
  refine lv_icmp_eq (tgt := 344) K.hx K.hb dL_law_339 (by decide) (fun cc => ?_) (fun cc => absurd h3 cc)
  refine lv_iload K.hx K.hb dL_law_344 (lv_at hl 1 rfl) ?_
  refine lv_if_ne (tgt := 368) K.hx K.hb dL_law_346 (by decide) (fun cc => absurd rfl cc) (fun cc => ?_)
  refine lv_aload_n K.hx K.hb dL_law_349 rfl (lv_at hl 3 rfl) ?_
  refine lv_iconst (v := 0) K.hx K.hb dL_law_350 (by decide) ?_
  refine va_lald K.hx K.hb K.hK hP 25 1 rfl rfl kv_01 dL_law_351 ?_
  refine W.eq (g2 := F0 m 352 _ (.long (k_z1 r) :: [])) (by rw [lw_out]) ?_
  refine lv_iload K.hx K.hb dL_law_352 (lv_at hl 0 rfl) ?_
  refine lw_b01 (r := r') (pc1 := 357) (pc2 := 361) (pc3 := 362) K dL_law_354 (by decide) dL_law_357 dL_law_358 (by decide) dL_law_361 ⟨rfl, rfl⟩ ?_
  refine W.lcmp K.hx K.hb dL_law_362 ?_
  refine lv_if_eq (tgt := 368) K.hx K.hb dL_law_363 (by decide) (fun cc => ?_) (fun cc => absurd (lw_ceq h4) cc)
  refine lv_goto (tgt := 2028) K.hx K.hb dL_law_368 (by decide) ?_
  exact kk u H locs ls hP hD hS (lv_sub hl [2, 3, 4, 5, 6] rfl)
set_option maxHeartbeats 8000000 in
set_option maxRecDepth 100000 in
theorem wlT_step_1 {p : Program} {l : Launch} {e : Env} {s : State} {m : MethodId} {b L : Nat} {xs : Nat → Int32} {below : List Frame} {meth : Method} {c : Code} {A : Nat → Prop} {D : va_G} {cI cJ cC cG : ClassId} {h9 hn h0 : Nat} {ap ht pc : Nat → Nat} {u : lwH} {x : XT} {m1 : MT} {ad : Nat → Nat} {oa : Nat} {out : Nat → Int64} {H : Heap} {locs : List Loc} {ls : Array Slot} {Q : State → Prop} {C S j : Nat} (K : lwK p l s m b L xs meth c A D cI cJ cC cG) (hP : va_P D vwCl (wLw cI cJ cC cG h9 hn ap ht h0 pc u x ad oa out m1) H) (hD : va_D A (wLw cI cJ cC cG h9 hn ap ht h0 pc u x ad oa out m1)) (hS : va_S A s.heap H locs) (hl : lv_has ls 9 (lw_lv b h9 (ad 0) oa j)) (hj : j + 4 ≤ L) (hL : L ≤ 2048) {r' : Bool} {m' : MT} (hf : C + 1 ≤ room_1.cells ∧ S + 6 ≤ room_1.slots) (h1 : XT_step x (xs (j + 1)) (xs (j + 2)) = some "java/lang/IndexOutOfBoundsException") (h2 : MN_step m1 (xs (j + 1)) (xs (j + 2)) = some (r', m')) (h3 : thr m' = 1) (kk : ∀ (H : Heap) (locs : List Loc) (ls : Array Slot), va_P D vwCl (wLw cI cJ cC cG h9 hn ap ht h0 pc u x ad oa out m') H → va_D A (wLw cI cJ cC cG h9 hn ap ht h0 pc u x ad oa out m') → va_S A s.heap H locs → lv_has ls 9 (lw_lv b h9 (ad 0) oa j) → W p l e room_1 s m #[Value.ref b] below meth c H locs (C + 1) (S + 6) Q (F0 m 2028 ls [])) : W p l e room_1 s m #[Value.ref b] below meth c H locs C S Q (F0 m 296 ls []) := by
  have hl : lv_has ls 9 [(4, .int (lw_i j)), (3, .ref oa), (2, .ref (ad 0)), (1, .ref h9), (0, .ref b)] := hl
  refine lv_aload_n K.hx K.hb dL_law_296 rfl (lv_at hl 3 rfl) ?_
  refine lw_arg1 K hS (lv_at hl 4 rfl) (lv_at hl 0 rfl) hj hL dL_law_297 dL_law_298 dL_law_300 dL_law_301 dL_law_302 ?_
  refine lw_arg2 K hS (lv_at hl 4 rfl) (lv_at hl 0 rfl) hj hL dL_law_303 dL_law_304 dL_law_306 dL_law_307 dL_law_308 ?_
  refine lv_aload_n K.hx K.hb dL_law_309 rfl (lv_at hl 1 rfl) ?_
  have hPc : va_P D vwCl (wX1 cI cJ cC cG h9 hn ap ht h0 pc u x oa out) _ := kp_l hP
  have hDc : va_D A (wX1 cI cJ cC cG h9 hn ap ht h0 pc u x oa out) := kd_l hD
  refine kj_x1 (k_rSWT (As := [.ref h9, .int (xs (j + 1)), .int (xs (j + 2)), .ref oa]) (rest := []) ⟨K.hx, K.hb, K.hml, K.hown, K.hts⟩ K.hK K.hN K.hq hS (kj_F hD hS K.hA) hPc hDc (zBT_step_1 K.hst h1) (vx_cwSW (hh := [(0, 17, 20, 21), (0, 17, 24, 13), (0, 17, 28, 15)]) 4 K.hts gL_law_L_step rfl rfl rfl (by decide +kernel) ⟨Nat.le_of_ble_eq_true rfl, Nat.le_of_ble_eq_true rfl⟩) rfl hl.1 rfl (Nat.le_of_ble_eq_true rfl) dL_law_310 hf) hP hD hS K.hA (fun H locs hP hD hS => ?_)
  have hP : va_P D vwCl (wLw cI cJ cC cG h9 hn ap ht h0 pc u x ad oa out m1) H := hP
  have hD : va_D A (wLw cI cJ cC cG h9 hn ap ht h0 pc u x ad oa out m1) := hD
  refine lv_istore (lv' := [(5, .int 1), (4, .int (lw_i j)), (3, .ref oa), (2, .ref (ad 0)), (1, .ref h9), (0, .ref b)]) K.hx K.hb dL_law_313 hl (by decide) rfl (fun ls hl => ?_)
  refine lv_aload_n K.hx K.hb dL_law_315 rfl (lv_at hl 3 rfl) ?_
  refine lw_arg1 K hS (lv_at hl 5 rfl) (lv_at hl 1 rfl) hj hL dL_law_316 dL_law_317 dL_law_319 dL_law_320 dL_law_321 ?_
  refine lw_arg2 K hS (lv_at hl 5 rfl) (lv_at hl 1 rfl) hj hL dL_law_322 dL_law_323 dL_law_325 dL_law_326 dL_law_327 ?_
  have hPc : va_P D vwCl (wMt cI cJ ad m1) _ := kp_r hP
  have hDc : va_D A (wMt cI cJ ad m1) := kd_r hD
  refine kj_i2 (k_rV (As := [.int (xs (j + 1)), .int (xs (j + 2))]) (rest := []) ⟨K.hx, K.hb, K.hml, K.hown, K.hts⟩ K.hK K.hN hPc hDc (zM_step h2) (cwV 2 K.hts gL_law_X10_step rfl rfl rfl (by decide +kernel) ⟨Nat.le_of_ble_eq_true rfl, Nat.le_of_ble_eq_true rfl⟩) rfl rfl rfl hl.1 rfl (Nat.le_of_ble_eq_true rfl) dL_law_328 (lw_fit hf)) hP hD hS K.hA (fun H locs hP hD hS => ?_)
  have hP : va_P D vwCl (wLw cI cJ cC cG h9 hn ap ht h0 pc u x ad oa out m') H := hP
  have hD : va_D A (wLw cI cJ cC cG h9 hn ap ht h0 pc u x ad oa out m') := hD
  refine lv_istore (lv' := [(6, .int (k_b r')), (5, .int 1), (4, .int (lw_i j)), (3, .ref oa), (2, .ref (ad 0)), (1, .ref h9), (0, .ref b)]) K.hx K.hb dL_law_331 hl (by decide) rfl (fun ls hl => ?_)
  refine lv_aload_n K.hx K.hb dL_law_333 rfl (lv_at hl 4 rfl) ?_
  have hPc : va_P D vwCl (wMt cI cJ ad m') _ := kp_r hP
  have hDc : va_D A (wMt cI cJ ad m') := kd_r hD
  refine kj_i2 (k_rV (As := []) (rest := []) ⟨K.hx, K.hb, K.hml, K.hown, K.hts⟩ K.hK K.hN hPc hDc zM_thrown (cwV 0 K.hts gL_law_X10_thrown rfl rfl rfl (by decide +kernel) ⟨Nat.le_of_ble_eq_true rfl, Nat.le_of_ble_eq_true rfl⟩) rfl rfl rfl hl.1 rfl (Nat.le_of_ble_eq_true rfl) dL_law_334 (lw_fit hf)) hP hD hS K.hA (fun H locs hP hD hS => ?_)
  have hP : va_P D vwCl (wLw cI cJ cC cG h9 hn ap ht h0 pc u x ad oa out m') H := hP
  have hD : va_D A (wLw cI cJ cC cG h9 hn ap ht h0 pc u x ad oa out m') := hD
  refine lv_iload K.hx K.hb dL_law_337 (lv_at hl 1 rfl) ?_
  refine lv_icmp_eq (tgt := 344) K.hx K.hb dL_law_339 (by decide) (fun cc => ?_) (fun cc => absurd h3 cc)
  refine lv_iload K.hx K.hb dL_law_344 (lv_at hl 1 rfl) ?_
  refine lv_if_ne (tgt := 368) K.hx K.hb dL_law_346 (by decide) (fun cc => ?_) (fun cc => absurd cc (by decide))
  refine lv_goto (tgt := 2028) K.hx K.hb dL_law_368 (by decide) ?_
  exact kk H locs ls hP hD hS (lv_sub hl [2, 3, 4, 5, 6] rfl)
set_option maxHeartbeats 8000000 in
set_option maxRecDepth 100000 in
theorem wlT_step_2 {p : Program} {l : Launch} {e : Env} {s : State} {m : MethodId} {b L : Nat} {xs : Nat → Int32} {below : List Frame} {meth : Method} {c : Code} {A : Nat → Prop} {D : va_G} {cI cJ cC cG : ClassId} {h9 hn h0 : Nat} {ap ht pc : Nat → Nat} {u : lwH} {x : XT} {m1 : MT} {ad : Nat → Nat} {oa : Nat} {out : Nat → Int64} {H : Heap} {locs : List Loc} {ls : Array Slot} {Q : State → Prop} {C S j : Nat} (K : lwK p l s m b L xs meth c A D cI cJ cC cG) (hP : va_P D vwCl (wLw cI cJ cC cG h9 hn ap ht h0 pc u x ad oa out m1) H) (hD : va_D A (wLw cI cJ cC cG h9 hn ap ht h0 pc u x ad oa out m1)) (hS : va_S A s.heap H locs) (hl : lv_has ls 9 (lw_lv b h9 (ad 0) oa j)) (hj : j + 4 ≤ L) (hL : L ≤ 2048) {r' : Bool} {m' : MT} (hf : C + 1 ≤ room_1.cells ∧ S + 6 ≤ room_1.slots) (h1 : XT_step x (xs (j + 1)) (xs (j + 2)) = some "java/lang/IllegalArgumentException") (h2 : MN_step m1 (xs (j + 1)) (xs (j + 2)) = some (r', m')) (h3 : thr m' = 2) (kk : ∀ (H : Heap) (locs : List Loc) (ls : Array Slot), va_P D vwCl (wLw cI cJ cC cG h9 hn ap ht h0 pc u x ad oa out m') H → va_D A (wLw cI cJ cC cG h9 hn ap ht h0 pc u x ad oa out m') → va_S A s.heap H locs → lv_has ls 9 (lw_lv b h9 (ad 0) oa j) → W p l e room_1 s m #[Value.ref b] below meth c H locs (C + 1) (S + 6) Q (F0 m 2028 ls [])) : W p l e room_1 s m #[Value.ref b] below meth c H locs C S Q (F0 m 296 ls []) := by
  have hl : lv_has ls 9 [(4, .int (lw_i j)), (3, .ref oa), (2, .ref (ad 0)), (1, .ref h9), (0, .ref b)] := hl
  refine lv_aload_n K.hx K.hb dL_law_296 rfl (lv_at hl 3 rfl) ?_
  refine lw_arg1 K hS (lv_at hl 4 rfl) (lv_at hl 0 rfl) hj hL dL_law_297 dL_law_298 dL_law_300 dL_law_301 dL_law_302 ?_
  refine lw_arg2 K hS (lv_at hl 4 rfl) (lv_at hl 0 rfl) hj hL dL_law_303 dL_law_304 dL_law_306 dL_law_307 dL_law_308 ?_
  refine lv_aload_n K.hx K.hb dL_law_309 rfl (lv_at hl 1 rfl) ?_
  have hPc : va_P D vwCl (wX1 cI cJ cC cG h9 hn ap ht h0 pc u x oa out) _ := kp_l hP
  have hDc : va_D A (wX1 cI cJ cC cG h9 hn ap ht h0 pc u x oa out) := kd_l hD
  refine kj_x1 (k_rSWT (As := [.ref h9, .int (xs (j + 1)), .int (xs (j + 2)), .ref oa]) (rest := []) ⟨K.hx, K.hb, K.hml, K.hown, K.hts⟩ K.hK K.hN K.hq hS (kj_F hD hS K.hA) hPc hDc (zBT_step_2 K.hst h1) (vx_cwSW (hh := [(0, 17, 20, 21), (0, 17, 24, 13), (0, 17, 28, 15)]) 4 K.hts gL_law_L_step rfl rfl rfl (by decide +kernel) ⟨Nat.le_of_ble_eq_true rfl, Nat.le_of_ble_eq_true rfl⟩) rfl hl.1 rfl (Nat.le_of_ble_eq_true rfl) dL_law_310 hf) hP hD hS K.hA (fun H locs hP hD hS => ?_)
  have hP : va_P D vwCl (wLw cI cJ cC cG h9 hn ap ht h0 pc u x ad oa out m1) H := hP
  have hD : va_D A (wLw cI cJ cC cG h9 hn ap ht h0 pc u x ad oa out m1) := hD
  refine lv_istore (lv' := [(5, .int 2), (4, .int (lw_i j)), (3, .ref oa), (2, .ref (ad 0)), (1, .ref h9), (0, .ref b)]) K.hx K.hb dL_law_313 hl (by decide) rfl (fun ls hl => ?_)
  refine lv_aload_n K.hx K.hb dL_law_315 rfl (lv_at hl 3 rfl) ?_
  refine lw_arg1 K hS (lv_at hl 5 rfl) (lv_at hl 1 rfl) hj hL dL_law_316 dL_law_317 dL_law_319 dL_law_320 dL_law_321 ?_
  refine lw_arg2 K hS (lv_at hl 5 rfl) (lv_at hl 1 rfl) hj hL dL_law_322 dL_law_323 dL_law_325 dL_law_326 dL_law_327 ?_
  have hPc : va_P D vwCl (wMt cI cJ ad m1) _ := kp_r hP
  have hDc : va_D A (wMt cI cJ ad m1) := kd_r hD
  refine kj_i2 (k_rV (As := [.int (xs (j + 1)), .int (xs (j + 2))]) (rest := []) ⟨K.hx, K.hb, K.hml, K.hown, K.hts⟩ K.hK K.hN hPc hDc (zM_step h2) (cwV 2 K.hts gL_law_X10_step rfl rfl rfl (by decide +kernel) ⟨Nat.le_of_ble_eq_true rfl, Nat.le_of_ble_eq_true rfl⟩) rfl rfl rfl hl.1 rfl (Nat.le_of_ble_eq_true rfl) dL_law_328 (lw_fit hf)) hP hD hS K.hA (fun H locs hP hD hS => ?_)
  have hP : va_P D vwCl (wLw cI cJ cC cG h9 hn ap ht h0 pc u x ad oa out m') H := hP
  have hD : va_D A (wLw cI cJ cC cG h9 hn ap ht h0 pc u x ad oa out m') := hD
  refine lv_istore (lv' := [(6, .int (k_b r')), (5, .int 2), (4, .int (lw_i j)), (3, .ref oa), (2, .ref (ad 0)), (1, .ref h9), (0, .ref b)]) K.hx K.hb dL_law_331 hl (by decide) rfl (fun ls hl => ?_)
  refine lv_aload_n K.hx K.hb dL_law_333 rfl (lv_at hl 4 rfl) ?_
  have hPc : va_P D vwCl (wMt cI cJ ad m') _ := kp_r hP
  have hDc : va_D A (wMt cI cJ ad m') := kd_r hD
  refine kj_i2 (k_rV (As := []) (rest := []) ⟨K.hx, K.hb, K.hml, K.hown, K.hts⟩ K.hK K.hN hPc hDc zM_thrown (cwV 0 K.hts gL_law_X10_thrown rfl rfl rfl (by decide +kernel) ⟨Nat.le_of_ble_eq_true rfl, Nat.le_of_ble_eq_true rfl⟩) rfl rfl rfl hl.1 rfl (Nat.le_of_ble_eq_true rfl) dL_law_334 (lw_fit hf)) hP hD hS K.hA (fun H locs hP hD hS => ?_)
  have hP : va_P D vwCl (wLw cI cJ cC cG h9 hn ap ht h0 pc u x ad oa out m') H := hP
  have hD : va_D A (wLw cI cJ cC cG h9 hn ap ht h0 pc u x ad oa out m') := hD
  refine lv_iload K.hx K.hb dL_law_337 (lv_at hl 1 rfl) ?_
  refine lv_icmp_eq (tgt := 344) K.hx K.hb dL_law_339 (by decide) (fun cc => ?_) (fun cc => absurd h3 cc)
  refine lv_iload K.hx K.hb dL_law_344 (lv_at hl 1 rfl) ?_
  refine lv_if_ne (tgt := 368) K.hx K.hb dL_law_346 (by decide) (fun cc => ?_) (fun cc => absurd cc (by decide))
  refine lv_goto (tgt := 2028) K.hx K.hb dL_law_368 (by decide) ?_
  exact kk H locs ls hP hD hS (lv_sub hl [2, 3, 4, 5, 6] rfl)
set_option maxHeartbeats 8000000 in
set_option maxRecDepth 100000 in
theorem wlT_step_3 {p : Program} {l : Launch} {e : Env} {s : State} {m : MethodId} {b L : Nat} {xs : Nat → Int32} {below : List Frame} {meth : Method} {c : Code} {A : Nat → Prop} {D : va_G} {cI cJ cC cG : ClassId} {h9 hn h0 : Nat} {ap ht pc : Nat → Nat} {u : lwH} {x : XT} {m1 : MT} {ad : Nat → Nat} {oa : Nat} {out : Nat → Int64} {H : Heap} {locs : List Loc} {ls : Array Slot} {Q : State → Prop} {C S j : Nat} (K : lwK p l s m b L xs meth c A D cI cJ cC cG) (hP : va_P D vwCl (wLw cI cJ cC cG h9 hn ap ht h0 pc u x ad oa out m1) H) (hD : va_D A (wLw cI cJ cC cG h9 hn ap ht h0 pc u x ad oa out m1)) (hS : va_S A s.heap H locs) (hl : lv_has ls 9 (lw_lv b h9 (ad 0) oa j)) (hj : j + 4 ≤ L) (hL : L ≤ 2048) {r' : Bool} {m' : MT} (hf : C + 1 ≤ room_1.cells ∧ S + 6 ≤ room_1.slots) (h1 : XT_step x (xs (j + 1)) (xs (j + 2)) = some "java/lang/IllegalStateException") (h2 : MN_step m1 (xs (j + 1)) (xs (j + 2)) = some (r', m')) (h3 : thr m' = 3) (kk : ∀ (H : Heap) (locs : List Loc) (ls : Array Slot), va_P D vwCl (wLw cI cJ cC cG h9 hn ap ht h0 pc u x ad oa out m') H → va_D A (wLw cI cJ cC cG h9 hn ap ht h0 pc u x ad oa out m') → va_S A s.heap H locs → lv_has ls 9 (lw_lv b h9 (ad 0) oa j) → W p l e room_1 s m #[Value.ref b] below meth c H locs (C + 1) (S + 6) Q (F0 m 2028 ls [])) : W p l e room_1 s m #[Value.ref b] below meth c H locs C S Q (F0 m 296 ls []) := by
  have hl : lv_has ls 9 [(4, .int (lw_i j)), (3, .ref oa), (2, .ref (ad 0)), (1, .ref h9), (0, .ref b)] := hl
  refine lv_aload_n K.hx K.hb dL_law_296 rfl (lv_at hl 3 rfl) ?_
  refine lw_arg1 K hS (lv_at hl 4 rfl) (lv_at hl 0 rfl) hj hL dL_law_297 dL_law_298 dL_law_300 dL_law_301 dL_law_302 ?_
  refine lw_arg2 K hS (lv_at hl 4 rfl) (lv_at hl 0 rfl) hj hL dL_law_303 dL_law_304 dL_law_306 dL_law_307 dL_law_308 ?_
  refine lv_aload_n K.hx K.hb dL_law_309 rfl (lv_at hl 1 rfl) ?_
  have hPc : va_P D vwCl (wX1 cI cJ cC cG h9 hn ap ht h0 pc u x oa out) _ := kp_l hP
  have hDc : va_D A (wX1 cI cJ cC cG h9 hn ap ht h0 pc u x oa out) := kd_l hD
  refine kj_x1 (k_rSWT (As := [.ref h9, .int (xs (j + 1)), .int (xs (j + 2)), .ref oa]) (rest := []) ⟨K.hx, K.hb, K.hml, K.hown, K.hts⟩ K.hK K.hN K.hq hS (kj_F hD hS K.hA) hPc hDc (zBT_step_3 K.hst h1) (vx_cwSW (hh := [(0, 17, 20, 21), (0, 17, 24, 13), (0, 17, 28, 15)]) 4 K.hts gL_law_L_step rfl rfl rfl (by decide +kernel) ⟨Nat.le_of_ble_eq_true rfl, Nat.le_of_ble_eq_true rfl⟩) rfl hl.1 rfl (Nat.le_of_ble_eq_true rfl) dL_law_310 hf) hP hD hS K.hA (fun H locs hP hD hS => ?_)
  have hP : va_P D vwCl (wLw cI cJ cC cG h9 hn ap ht h0 pc u x ad oa out m1) H := hP
  have hD : va_D A (wLw cI cJ cC cG h9 hn ap ht h0 pc u x ad oa out m1) := hD
  refine lv_istore (lv' := [(5, .int 3), (4, .int (lw_i j)), (3, .ref oa), (2, .ref (ad 0)), (1, .ref h9), (0, .ref b)]) K.hx K.hb dL_law_313 hl (by decide) rfl (fun ls hl => ?_)
  refine lv_aload_n K.hx K.hb dL_law_315 rfl (lv_at hl 3 rfl) ?_
  refine lw_arg1 K hS (lv_at hl 5 rfl) (lv_at hl 1 rfl) hj hL dL_law_316 dL_law_317 dL_law_319 dL_law_320 dL_law_321 ?_
  refine lw_arg2 K hS (lv_at hl 5 rfl) (lv_at hl 1 rfl) hj hL dL_law_322 dL_law_323 dL_law_325 dL_law_326 dL_law_327 ?_
  have hPc : va_P D vwCl (wMt cI cJ ad m1) _ := kp_r hP
  have hDc : va_D A (wMt cI cJ ad m1) := kd_r hD
  refine kj_i2 (k_rV (As := [.int (xs (j + 1)), .int (xs (j + 2))]) (rest := []) ⟨K.hx, K.hb, K.hml, K.hown, K.hts⟩ K.hK K.hN hPc hDc (zM_step h2) (cwV 2 K.hts gL_law_X10_step rfl rfl rfl (by decide +kernel) ⟨Nat.le_of_ble_eq_true rfl, Nat.le_of_ble_eq_true rfl⟩) rfl rfl rfl hl.1 rfl (Nat.le_of_ble_eq_true rfl) dL_law_328 (lw_fit hf)) hP hD hS K.hA (fun H locs hP hD hS => ?_)
  have hP : va_P D vwCl (wLw cI cJ cC cG h9 hn ap ht h0 pc u x ad oa out m') H := hP
  have hD : va_D A (wLw cI cJ cC cG h9 hn ap ht h0 pc u x ad oa out m') := hD
  refine lv_istore (lv' := [(6, .int (k_b r')), (5, .int 3), (4, .int (lw_i j)), (3, .ref oa), (2, .ref (ad 0)), (1, .ref h9), (0, .ref b)]) K.hx K.hb dL_law_331 hl (by decide) rfl (fun ls hl => ?_)
  refine lv_aload_n K.hx K.hb dL_law_333 rfl (lv_at hl 4 rfl) ?_
  have hPc : va_P D vwCl (wMt cI cJ ad m') _ := kp_r hP
  have hDc : va_D A (wMt cI cJ ad m') := kd_r hD
  refine kj_i2 (k_rV (As := []) (rest := []) ⟨K.hx, K.hb, K.hml, K.hown, K.hts⟩ K.hK K.hN hPc hDc zM_thrown (cwV 0 K.hts gL_law_X10_thrown rfl rfl rfl (by decide +kernel) ⟨Nat.le_of_ble_eq_true rfl, Nat.le_of_ble_eq_true rfl⟩) rfl rfl rfl hl.1 rfl (Nat.le_of_ble_eq_true rfl) dL_law_334 (lw_fit hf)) hP hD hS K.hA (fun H locs hP hD hS => ?_)
  have hP : va_P D vwCl (wLw cI cJ cC cG h9 hn ap ht h0 pc u x ad oa out m') H := hP
  have hD : va_D A (wLw cI cJ cC cG h9 hn ap ht h0 pc u x ad oa out m') := hD
  refine lv_iload K.hx K.hb dL_law_337 (lv_at hl 1 rfl) ?_
  refine lv_icmp_eq (tgt := 344) K.hx K.hb dL_law_339 (by decide) (fun cc => ?_) (fun cc => absurd h3 cc)
  refine lv_iload K.hx K.hb dL_law_344 (lv_at hl 1 rfl) ?_
  refine lv_if_ne (tgt := 368) K.hx K.hb dL_law_346 (by decide) (fun cc => ?_) (fun cc => absurd cc (by decide))
  refine lv_goto (tgt := 2028) K.hx K.hb dL_law_368 (by decide) ?_
  exact kk H locs ls hP hD hS (lv_sub hl [2, 3, 4, 5, 6] rfl)
set_option maxHeartbeats 8000000 in
set_option maxRecDepth 100000 in
theorem wl_endTurn {p : Program} {l : Launch} {e : Env} {s : State} {m : MethodId} {b L : Nat} {xs : Nat → Int32} {below : List Frame} {meth : Method} {c : Code} {A : Nat → Prop} {D : va_G} {cI cJ cC cG : ClassId} {h9 hn h0 : Nat} {ap ht pc : Nat → Nat} {u : lwH} {x : XT} {m1 : MT} {ad : Nat → Nat} {oa : Nat} {out : Nat → Int64} {H : Heap} {locs : List Loc} {ls : Array Slot} {Q : State → Prop} {C S j : Nat} (K : lwK p l s m b L xs meth c A D cI cJ cC cG) (hP : va_P D vwCl (wLw cI cJ cC cG h9 hn ap ht h0 pc u x ad oa out m1) H) (hD : va_D A (wLw cI cJ cC cG h9 hn ap ht h0 pc u x ad oa out m1)) (hS : va_S A s.heap H locs) (hl : lv_has ls 9 (lw_lv b h9 (ad 0) oa j)) (hj : j + 4 ≤ L) (hL : L ≤ 2048) {r : Int32} {x' : XT} {r' : Int32} {m' : MT} (hf : C + 0 ≤ room_1.cells ∧ S + 0 ≤ room_1.slots) (h1 : XN_endTurn x = some (r, x')) (h2 : MN_endTurn m1 = some (r', m')) (h3 : thr m' = 0) (h4 : (Int32.toInt64 r) = Int32.toInt64 r') (kk : ∀ (u : lwH) (H : Heap) (locs : List Loc) (ls : Array Slot), va_P D vwCl (wLw cI cJ cC cG h9 hn ap ht h0 pc u x' ad oa (vp_updL out (Int32.toNatClampNeg 0) (Int32.toInt64 r)) m') H → va_D A (wLw cI cJ cC cG h9 hn ap ht h0 pc u x' ad oa (vp_updL out (Int32.toNatClampNeg 0) (Int32.toInt64 r)) m') → va_S A s.heap H locs → lv_has ls 9 (lw_lv b h9 (ad 0) oa j) → W p l e room_1 s m #[Value.ref b] below meth c H locs C S Q (F0 m 2028 ls [])) : W p l e room_1 s m #[Value.ref b] below meth c H locs C S Q (F0 m 371 ls []) := by
  have hl : lv_has ls 9 [(4, .int (lw_i j)), (3, .ref oa), (2, .ref (ad 0)), (1, .ref h9), (0, .ref b)] := hl
  refine lv_aload_n K.hx K.hb dL_law_371 rfl (lv_at hl 3 rfl) ?_
  refine lv_aload_n K.hx K.hb dL_law_372 rfl (lv_at hl 1 rfl) ?_
  have hPc : va_P D vwCl (wX1 cI cJ cC cG h9 hn ap ht h0 pc u x oa out) _ := kp_l hP
  have hDc : va_D A (wX1 cI cJ cC cG h9 hn ap ht h0 pc u x oa out) := kd_l hD
  refine kj_i1 (k_rSW (As := [.ref h9, .ref oa]) (rest := []) ⟨K.hx, K.hb, K.hml, K.hown, K.hts⟩ K.hK K.hN hPc hDc (zB_endTurn h1) (vx_cwSW (hh := [(0, 8, 11, 15)]) 2 K.hts gL_law_L_endTurn rfl rfl rfl (by decide +kernel) ⟨Nat.le_of_ble_eq_true rfl, Nat.le_of_ble_eq_true rfl⟩) rfl hl.1 rfl (Nat.le_of_ble_eq_true rfl) dL_law_373 hf) hP hD hS K.hA (fun u H locs hP hD hS => ?_)
  have hP : va_P D vwCl (wLw cI cJ cC cG h9 hn ap ht h0 pc u x' ad oa (vp_updL out (Int32.toNatClampNeg 0) (Int32.toInt64 r)) m1) H := hP
  have hD : va_D A (wLw cI cJ cC cG h9 hn ap ht h0 pc u x' ad oa (vp_updL out (Int32.toNatClampNeg 0) (Int32.toInt64 r)) m1) := hD
  refine lv_istore (lv' := [(5, .int 0), (4, .int (lw_i j)), (3, .ref oa), (2, .ref (ad 0)), (1, .ref h9), (0, .ref b)]) K.hx K.hb dL_law_376 hl (by decide) rfl (fun ls hl => ?_)
  refine lv_aload_n K.hx K.hb dL_law_378 rfl (lv_at hl 3 rfl) ?_
  have hPc : va_P D vwCl (wMt cI cJ ad m1) _ := kp_r hP
  have hDc : va_D A (wMt cI cJ ad m1) := kd_r hD
  refine kj_i2 (k_rV (As := []) (rest := []) ⟨K.hx, K.hb, K.hml, K.hown, K.hts⟩ K.hK K.hN hPc hDc (zM_endTurn h2) (cwV 0 K.hts gL_law_X10_endTurn rfl rfl rfl (by decide +kernel) ⟨Nat.le_of_ble_eq_true rfl, Nat.le_of_ble_eq_true rfl⟩) rfl rfl rfl hl.1 rfl (Nat.le_of_ble_eq_true rfl) dL_law_379 hf) hP hD hS K.hA (fun H locs hP hD hS => ?_)
  have hP : va_P D vwCl (wLw cI cJ cC cG h9 hn ap ht h0 pc u x' ad oa (vp_updL out (Int32.toNatClampNeg 0) (Int32.toInt64 r)) m') H := hP
  have hD : va_D A (wLw cI cJ cC cG h9 hn ap ht h0 pc u x' ad oa (vp_updL out (Int32.toNatClampNeg 0) (Int32.toInt64 r)) m') := hD
  refine lv_istore (lv' := [(6, .int r'), (5, .int 0), (4, .int (lw_i j)), (3, .ref oa), (2, .ref (ad 0)), (1, .ref h9), (0, .ref b)]) K.hx K.hb dL_law_382 hl (by decide) rfl (fun ls hl => ?_)
  refine lv_aload_n K.hx K.hb dL_law_384 rfl (lv_at hl 4 rfl) ?_
  have hPc : va_P D vwCl (wMt cI cJ ad m') _ := kp_r hP
  have hDc : va_D A (wMt cI cJ ad m') := kd_r hD
  refine kj_i2 (k_rV (As := []) (rest := []) ⟨K.hx, K.hb, K.hml, K.hown, K.hts⟩ K.hK K.hN hPc hDc zM_thrown (cwV 0 K.hts gL_law_X10_thrown rfl rfl rfl (by decide +kernel) ⟨Nat.le_of_ble_eq_true rfl, Nat.le_of_ble_eq_true rfl⟩) rfl rfl rfl hl.1 rfl (Nat.le_of_ble_eq_true rfl) dL_law_385 hf) hP hD hS K.hA (fun H locs hP hD hS => ?_)
  have hP : va_P D vwCl (wLw cI cJ cC cG h9 hn ap ht h0 pc u x' ad oa (vp_updL out (Int32.toNatClampNeg 0) (Int32.toInt64 r)) m') H := hP
  have hD : va_D A (wLw cI cJ cC cG h9 hn ap ht h0 pc u x' ad oa (vp_updL out (Int32.toNatClampNeg 0) (Int32.toInt64 r)) m') := hD
  refine lv_iload K.hx K.hb dL_law_388 (lv_at hl 1 rfl) ?_
  refine lv_icmp_eq (tgt := 395) K.hx K.hb dL_law_390 (by decide) (fun cc => ?_) (fun cc => absurd h3 cc)
  refine lv_iload K.hx K.hb dL_law_395 (lv_at hl 1 rfl) ?_
  refine lv_if_ne (tgt := 412) K.hx K.hb dL_law_397 (by decide) (fun cc => absurd rfl cc) (fun cc => ?_)
  refine lv_aload_n K.hx K.hb dL_law_400 rfl (lv_at hl 3 rfl) ?_
  refine lv_iconst (v := 0) K.hx K.hb dL_law_401 (by decide) ?_
  refine va_lald K.hx K.hb K.hK hP 25 1 rfl rfl kv_01 dL_law_402 ?_
  refine W.eq (g2 := F0 m 403 _ (.long (Int32.toInt64 r) :: [])) (by rw [lw_out]) ?_
  refine lv_iload K.hx K.hb dL_law_403 (lv_at hl 0 rfl) ?_
  refine lv_i2l (v := Int32.toInt64 r') K.hx K.hb dL_law_405 rfl ?_
  refine W.lcmp K.hx K.hb dL_law_406 ?_
  refine lv_if_eq (tgt := 412) K.hx K.hb dL_law_407 (by decide) (fun cc => ?_) (fun cc => absurd (lw_ceq h4) cc)
  refine lv_goto (tgt := 2028) K.hx K.hb dL_law_412 (by decide) ?_
  exact kk u H locs ls hP hD hS (lv_sub hl [2, 3, 4, 5, 6] rfl)
set_option maxHeartbeats 8000000 in
set_option maxRecDepth 100000 in
theorem wlT_endTurn_1 {p : Program} {l : Launch} {e : Env} {s : State} {m : MethodId} {b L : Nat} {xs : Nat → Int32} {below : List Frame} {meth : Method} {c : Code} {A : Nat → Prop} {D : va_G} {cI cJ cC cG : ClassId} {h9 hn h0 : Nat} {ap ht pc : Nat → Nat} {u : lwH} {x : XT} {m1 : MT} {ad : Nat → Nat} {oa : Nat} {out : Nat → Int64} {H : Heap} {locs : List Loc} {ls : Array Slot} {Q : State → Prop} {C S j : Nat} (K : lwK p l s m b L xs meth c A D cI cJ cC cG) (hP : va_P D vwCl (wLw cI cJ cC cG h9 hn ap ht h0 pc u x ad oa out m1) H) (hD : va_D A (wLw cI cJ cC cG h9 hn ap ht h0 pc u x ad oa out m1)) (hS : va_S A s.heap H locs) (hl : lv_has ls 9 (lw_lv b h9 (ad 0) oa j)) (hj : j + 4 ≤ L) (hL : L ≤ 2048) {r' : Int32} {m' : MT} (hf : C + 1 ≤ room_1.cells ∧ S + 6 ≤ room_1.slots) (h1 : XT_endTurn x = some "java/lang/IllegalStateException") (h2 : MN_endTurn m1 = some (r', m')) (h3 : thr m' = 1) (kk : ∀ (H : Heap) (locs : List Loc) (ls : Array Slot), va_P D vwCl (wLw cI cJ cC cG h9 hn ap ht h0 pc u x ad oa out m') H → va_D A (wLw cI cJ cC cG h9 hn ap ht h0 pc u x ad oa out m') → va_S A s.heap H locs → lv_has ls 9 (lw_lv b h9 (ad 0) oa j) → W p l e room_1 s m #[Value.ref b] below meth c H locs (C + 1) (S + 6) Q (F0 m 2028 ls [])) : W p l e room_1 s m #[Value.ref b] below meth c H locs C S Q (F0 m 371 ls []) := by
  have hl : lv_has ls 9 [(4, .int (lw_i j)), (3, .ref oa), (2, .ref (ad 0)), (1, .ref h9), (0, .ref b)] := hl
  refine lv_aload_n K.hx K.hb dL_law_371 rfl (lv_at hl 3 rfl) ?_
  refine lv_aload_n K.hx K.hb dL_law_372 rfl (lv_at hl 1 rfl) ?_
  have hPc : va_P D vwCl (wX1 cI cJ cC cG h9 hn ap ht h0 pc u x oa out) _ := kp_l hP
  have hDc : va_D A (wX1 cI cJ cC cG h9 hn ap ht h0 pc u x oa out) := kd_l hD
  refine kj_x1 (k_rSWT (As := [.ref h9, .ref oa]) (rest := []) ⟨K.hx, K.hb, K.hml, K.hown, K.hts⟩ K.hK K.hN K.hq hS (kj_F hD hS K.hA) hPc hDc (zBT_endTurn_1 K.hst h1) (vx_cwSW (hh := [(0, 8, 11, 15)]) 2 K.hts gL_law_L_endTurn rfl rfl rfl (by decide +kernel) ⟨Nat.le_of_ble_eq_true rfl, Nat.le_of_ble_eq_true rfl⟩) rfl hl.1 rfl (Nat.le_of_ble_eq_true rfl) dL_law_373 hf) hP hD hS K.hA (fun H locs hP hD hS => ?_)
  have hP : va_P D vwCl (wLw cI cJ cC cG h9 hn ap ht h0 pc u x ad oa out m1) H := hP
  have hD : va_D A (wLw cI cJ cC cG h9 hn ap ht h0 pc u x ad oa out m1) := hD
  refine lv_istore (lv' := [(5, .int 1), (4, .int (lw_i j)), (3, .ref oa), (2, .ref (ad 0)), (1, .ref h9), (0, .ref b)]) K.hx K.hb dL_law_376 hl (by decide) rfl (fun ls hl => ?_)
  refine lv_aload_n K.hx K.hb dL_law_378 rfl (lv_at hl 3 rfl) ?_
  have hPc : va_P D vwCl (wMt cI cJ ad m1) _ := kp_r hP
  have hDc : va_D A (wMt cI cJ ad m1) := kd_r hD
  refine kj_i2 (k_rV (As := []) (rest := []) ⟨K.hx, K.hb, K.hml, K.hown, K.hts⟩ K.hK K.hN hPc hDc (zM_endTurn h2) (cwV 0 K.hts gL_law_X10_endTurn rfl rfl rfl (by decide +kernel) ⟨Nat.le_of_ble_eq_true rfl, Nat.le_of_ble_eq_true rfl⟩) rfl rfl rfl hl.1 rfl (Nat.le_of_ble_eq_true rfl) dL_law_379 (lw_fit hf)) hP hD hS K.hA (fun H locs hP hD hS => ?_)
  have hP : va_P D vwCl (wLw cI cJ cC cG h9 hn ap ht h0 pc u x ad oa out m') H := hP
  have hD : va_D A (wLw cI cJ cC cG h9 hn ap ht h0 pc u x ad oa out m') := hD
  refine lv_istore (lv' := [(6, .int r'), (5, .int 1), (4, .int (lw_i j)), (3, .ref oa), (2, .ref (ad 0)), (1, .ref h9), (0, .ref b)]) K.hx K.hb dL_law_382 hl (by decide) rfl (fun ls hl => ?_)
  refine lv_aload_n K.hx K.hb dL_law_384 rfl (lv_at hl 4 rfl) ?_
  have hPc : va_P D vwCl (wMt cI cJ ad m') _ := kp_r hP
  have hDc : va_D A (wMt cI cJ ad m') := kd_r hD
  refine kj_i2 (k_rV (As := []) (rest := []) ⟨K.hx, K.hb, K.hml, K.hown, K.hts⟩ K.hK K.hN hPc hDc zM_thrown (cwV 0 K.hts gL_law_X10_thrown rfl rfl rfl (by decide +kernel) ⟨Nat.le_of_ble_eq_true rfl, Nat.le_of_ble_eq_true rfl⟩) rfl rfl rfl hl.1 rfl (Nat.le_of_ble_eq_true rfl) dL_law_385 (lw_fit hf)) hP hD hS K.hA (fun H locs hP hD hS => ?_)
  have hP : va_P D vwCl (wLw cI cJ cC cG h9 hn ap ht h0 pc u x ad oa out m') H := hP
  have hD : va_D A (wLw cI cJ cC cG h9 hn ap ht h0 pc u x ad oa out m') := hD
  refine lv_iload K.hx K.hb dL_law_388 (lv_at hl 1 rfl) ?_
  refine lv_icmp_eq (tgt := 395) K.hx K.hb dL_law_390 (by decide) (fun cc => ?_) (fun cc => absurd h3 cc)
  refine lv_iload K.hx K.hb dL_law_395 (lv_at hl 1 rfl) ?_
  refine lv_if_ne (tgt := 412) K.hx K.hb dL_law_397 (by decide) (fun cc => ?_) (fun cc => absurd cc (by decide))
  refine lv_goto (tgt := 2028) K.hx K.hb dL_law_412 (by decide) ?_
  exact kk H locs ls hP hD hS (lv_sub hl [2, 3, 4, 5, 6] rfl)
set_option maxHeartbeats 8000000 in
set_option maxRecDepth 100000 in
theorem wl_carry {p : Program} {l : Launch} {e : Env} {s : State} {m : MethodId} {b L : Nat} {xs : Nat → Int32} {below : List Frame} {meth : Method} {c : Code} {A : Nat → Prop} {D : va_G} {cI cJ cC cG : ClassId} {h9 hn h0 : Nat} {ap ht pc : Nat → Nat} {u : lwH} {x : XT} {m1 : MT} {ad : Nat → Nat} {oa : Nat} {out : Nat → Int64} {H : Heap} {locs : List Loc} {ls : Array Slot} {Q : State → Prop} {C S j : Nat} (K : lwK p l s m b L xs meth c A D cI cJ cC cG) (hP : va_P D vwCl (wLw cI cJ cC cG h9 hn ap ht h0 pc u x ad oa out m1) H) (hD : va_D A (wLw cI cJ cC cG h9 hn ap ht h0 pc u x ad oa out m1)) (hS : va_S A s.heap H locs) (hl : lv_has ls 9 (lw_lv b h9 (ad 0) oa j)) (hj : j + 4 ≤ L) (hL : L ≤ 2048) {r : Int32} {x' : XT} {r' : Int32} {m' : MT} (hf : C + 0 ≤ room_1.cells ∧ S + 0 ≤ room_1.slots) (h1 : XN_carry x (xs (j + 1)) (xs (j + 2)) (xs (j + 3)) = some (r, x')) (h2 : MN_carry m1 (xs (j + 1)) (xs (j + 2)) (xs (j + 3)) = some (r', m')) (h3 : thr m' = 0) (h4 : (Int32.toInt64 r) = Int32.toInt64 r') (kk : ∀ (u : lwH) (H : Heap) (locs : List Loc) (ls : Array Slot), va_P D vwCl (wLw cI cJ cC cG h9 hn ap ht h0 pc u x' ad oa (vp_updL out (Int32.toNatClampNeg 0) (Int32.toInt64 r)) m') H → va_D A (wLw cI cJ cC cG h9 hn ap ht h0 pc u x' ad oa (vp_updL out (Int32.toNatClampNeg 0) (Int32.toInt64 r)) m') → va_S A s.heap H locs → lv_has ls 9 (lw_lv b h9 (ad 0) oa j) → W p l e room_1 s m #[Value.ref b] below meth c H locs C S Q (F0 m 2028 ls [])) : W p l e room_1 s m #[Value.ref b] below meth c H locs C S Q (F0 m 415 ls []) := by
  have hl : lv_has ls 9 [(4, .int (lw_i j)), (3, .ref oa), (2, .ref (ad 0)), (1, .ref h9), (0, .ref b)] := hl
  refine lv_aload_n K.hx K.hb dL_law_415 rfl (lv_at hl 3 rfl) ?_
  refine lw_arg1 K hS (lv_at hl 4 rfl) (lv_at hl 0 rfl) hj hL dL_law_416 dL_law_417 dL_law_419 dL_law_420 dL_law_421 ?_
  refine lw_arg2 K hS (lv_at hl 4 rfl) (lv_at hl 0 rfl) hj hL dL_law_422 dL_law_423 dL_law_425 dL_law_426 dL_law_427 ?_
  refine lw_arg3 K hS (lv_at hl 4 rfl) (lv_at hl 0 rfl) hj hL dL_law_428 dL_law_429 dL_law_431 dL_law_432 dL_law_433 ?_
  refine lv_aload_n K.hx K.hb dL_law_434 rfl (lv_at hl 1 rfl) ?_
  have hPc : va_P D vwCl (wX1 cI cJ cC cG h9 hn ap ht h0 pc u x oa out) _ := kp_l hP
  have hDc : va_D A (wX1 cI cJ cC cG h9 hn ap ht h0 pc u x oa out) := kd_l hD
  refine kj_i1 (k_rSW (As := [.ref h9, .int (xs (j + 1)), .int (xs (j + 2)), .int (xs (j + 3)), .ref oa]) (rest := []) ⟨K.hx, K.hb, K.hml, K.hown, K.hts⟩ K.hK K.hN hPc hDc (zB_carry h1) (vx_cwSW (hh := [(0, 12, 15, 21), (0, 12, 19, 15)]) 5 K.hts gL_law_L_carry rfl rfl rfl (by decide +kernel) ⟨Nat.le_of_ble_eq_true rfl, Nat.le_of_ble_eq_true rfl⟩) rfl hl.1 rfl (Nat.le_of_ble_eq_true rfl) dL_law_435 hf) hP hD hS K.hA (fun u H locs hP hD hS => ?_)
  have hP : va_P D vwCl (wLw cI cJ cC cG h9 hn ap ht h0 pc u x' ad oa (vp_updL out (Int32.toNatClampNeg 0) (Int32.toInt64 r)) m1) H := hP
  have hD : va_D A (wLw cI cJ cC cG h9 hn ap ht h0 pc u x' ad oa (vp_updL out (Int32.toNatClampNeg 0) (Int32.toInt64 r)) m1) := hD
  refine lv_istore (lv' := [(5, .int 0), (4, .int (lw_i j)), (3, .ref oa), (2, .ref (ad 0)), (1, .ref h9), (0, .ref b)]) K.hx K.hb dL_law_438 hl (by decide) rfl (fun ls hl => ?_)
  refine lv_aload_n K.hx K.hb dL_law_440 rfl (lv_at hl 3 rfl) ?_
  refine lw_arg1 K hS (lv_at hl 5 rfl) (lv_at hl 1 rfl) hj hL dL_law_441 dL_law_442 dL_law_444 dL_law_445 dL_law_446 ?_
  refine lw_arg2 K hS (lv_at hl 5 rfl) (lv_at hl 1 rfl) hj hL dL_law_447 dL_law_448 dL_law_450 dL_law_451 dL_law_452 ?_
  refine lw_arg3 K hS (lv_at hl 5 rfl) (lv_at hl 1 rfl) hj hL dL_law_453 dL_law_454 dL_law_456 dL_law_457 dL_law_458 ?_
  have hPc : va_P D vwCl (wMt cI cJ ad m1) _ := kp_r hP
  have hDc : va_D A (wMt cI cJ ad m1) := kd_r hD
  refine kj_i2 (k_rV (As := [.int (xs (j + 1)), .int (xs (j + 2)), .int (xs (j + 3))]) (rest := []) ⟨K.hx, K.hb, K.hml, K.hown, K.hts⟩ K.hK K.hN hPc hDc (zM_carry h2) (cwV 3 K.hts gL_law_X10_carry rfl rfl rfl (by decide +kernel) ⟨Nat.le_of_ble_eq_true rfl, Nat.le_of_ble_eq_true rfl⟩) rfl rfl rfl hl.1 rfl (Nat.le_of_ble_eq_true rfl) dL_law_459 hf) hP hD hS K.hA (fun H locs hP hD hS => ?_)
  have hP : va_P D vwCl (wLw cI cJ cC cG h9 hn ap ht h0 pc u x' ad oa (vp_updL out (Int32.toNatClampNeg 0) (Int32.toInt64 r)) m') H := hP
  have hD : va_D A (wLw cI cJ cC cG h9 hn ap ht h0 pc u x' ad oa (vp_updL out (Int32.toNatClampNeg 0) (Int32.toInt64 r)) m') := hD
  refine lv_istore (lv' := [(6, .int r'), (5, .int 0), (4, .int (lw_i j)), (3, .ref oa), (2, .ref (ad 0)), (1, .ref h9), (0, .ref b)]) K.hx K.hb dL_law_462 hl (by decide) rfl (fun ls hl => ?_)
  refine lv_aload_n K.hx K.hb dL_law_464 rfl (lv_at hl 4 rfl) ?_
  have hPc : va_P D vwCl (wMt cI cJ ad m') _ := kp_r hP
  have hDc : va_D A (wMt cI cJ ad m') := kd_r hD
  refine kj_i2 (k_rV (As := []) (rest := []) ⟨K.hx, K.hb, K.hml, K.hown, K.hts⟩ K.hK K.hN hPc hDc zM_thrown (cwV 0 K.hts gL_law_X10_thrown rfl rfl rfl (by decide +kernel) ⟨Nat.le_of_ble_eq_true rfl, Nat.le_of_ble_eq_true rfl⟩) rfl rfl rfl hl.1 rfl (Nat.le_of_ble_eq_true rfl) dL_law_465 hf) hP hD hS K.hA (fun H locs hP hD hS => ?_)
  have hP : va_P D vwCl (wLw cI cJ cC cG h9 hn ap ht h0 pc u x' ad oa (vp_updL out (Int32.toNatClampNeg 0) (Int32.toInt64 r)) m') H := hP
  have hD : va_D A (wLw cI cJ cC cG h9 hn ap ht h0 pc u x' ad oa (vp_updL out (Int32.toNatClampNeg 0) (Int32.toInt64 r)) m') := hD
  refine lv_iload K.hx K.hb dL_law_468 (lv_at hl 1 rfl) ?_
  refine lv_icmp_eq (tgt := 475) K.hx K.hb dL_law_470 (by decide) (fun cc => ?_) (fun cc => absurd h3 cc)
  refine lv_iload K.hx K.hb dL_law_475 (lv_at hl 1 rfl) ?_
  refine lv_if_ne (tgt := 492) K.hx K.hb dL_law_477 (by decide) (fun cc => absurd rfl cc) (fun cc => ?_)
  refine lv_aload_n K.hx K.hb dL_law_480 rfl (lv_at hl 3 rfl) ?_
  refine lv_iconst (v := 0) K.hx K.hb dL_law_481 (by decide) ?_
  refine va_lald K.hx K.hb K.hK hP 25 1 rfl rfl kv_01 dL_law_482 ?_
  refine W.eq (g2 := F0 m 483 _ (.long (Int32.toInt64 r) :: [])) (by rw [lw_out]) ?_
  refine lv_iload K.hx K.hb dL_law_483 (lv_at hl 0 rfl) ?_
  refine lv_i2l (v := Int32.toInt64 r') K.hx K.hb dL_law_485 rfl ?_
  refine W.lcmp K.hx K.hb dL_law_486 ?_
  refine lv_if_eq (tgt := 492) K.hx K.hb dL_law_487 (by decide) (fun cc => ?_) (fun cc => absurd (lw_ceq h4) cc)
  refine lv_goto (tgt := 2028) K.hx K.hb dL_law_492 (by decide) ?_
  exact kk u H locs ls hP hD hS (lv_sub hl [2, 3, 4, 5, 6] rfl)
set_option maxHeartbeats 8000000 in
set_option maxRecDepth 100000 in
theorem wlT_carry_1 {p : Program} {l : Launch} {e : Env} {s : State} {m : MethodId} {b L : Nat} {xs : Nat → Int32} {below : List Frame} {meth : Method} {c : Code} {A : Nat → Prop} {D : va_G} {cI cJ cC cG : ClassId} {h9 hn h0 : Nat} {ap ht pc : Nat → Nat} {u : lwH} {x : XT} {m1 : MT} {ad : Nat → Nat} {oa : Nat} {out : Nat → Int64} {H : Heap} {locs : List Loc} {ls : Array Slot} {Q : State → Prop} {C S j : Nat} (K : lwK p l s m b L xs meth c A D cI cJ cC cG) (hP : va_P D vwCl (wLw cI cJ cC cG h9 hn ap ht h0 pc u x ad oa out m1) H) (hD : va_D A (wLw cI cJ cC cG h9 hn ap ht h0 pc u x ad oa out m1)) (hS : va_S A s.heap H locs) (hl : lv_has ls 9 (lw_lv b h9 (ad 0) oa j)) (hj : j + 4 ≤ L) (hL : L ≤ 2048) {r' : Int32} {m' : MT} (hf : C + 1 ≤ room_1.cells ∧ S + 6 ≤ room_1.slots) (h1 : XT_carry x (xs (j + 1)) (xs (j + 2)) (xs (j + 3)) = some "java/lang/IndexOutOfBoundsException") (h2 : MN_carry m1 (xs (j + 1)) (xs (j + 2)) (xs (j + 3)) = some (r', m')) (h3 : thr m' = 1) (kk : ∀ (H : Heap) (locs : List Loc) (ls : Array Slot), va_P D vwCl (wLw cI cJ cC cG h9 hn ap ht h0 pc u x ad oa out m') H → va_D A (wLw cI cJ cC cG h9 hn ap ht h0 pc u x ad oa out m') → va_S A s.heap H locs → lv_has ls 9 (lw_lv b h9 (ad 0) oa j) → W p l e room_1 s m #[Value.ref b] below meth c H locs (C + 1) (S + 6) Q (F0 m 2028 ls [])) : W p l e room_1 s m #[Value.ref b] below meth c H locs C S Q (F0 m 415 ls []) := by
  have hl : lv_has ls 9 [(4, .int (lw_i j)), (3, .ref oa), (2, .ref (ad 0)), (1, .ref h9), (0, .ref b)] := hl
  refine lv_aload_n K.hx K.hb dL_law_415 rfl (lv_at hl 3 rfl) ?_
  refine lw_arg1 K hS (lv_at hl 4 rfl) (lv_at hl 0 rfl) hj hL dL_law_416 dL_law_417 dL_law_419 dL_law_420 dL_law_421 ?_
  refine lw_arg2 K hS (lv_at hl 4 rfl) (lv_at hl 0 rfl) hj hL dL_law_422 dL_law_423 dL_law_425 dL_law_426 dL_law_427 ?_
  refine lw_arg3 K hS (lv_at hl 4 rfl) (lv_at hl 0 rfl) hj hL dL_law_428 dL_law_429 dL_law_431 dL_law_432 dL_law_433 ?_
  refine lv_aload_n K.hx K.hb dL_law_434 rfl (lv_at hl 1 rfl) ?_
  have hPc : va_P D vwCl (wX1 cI cJ cC cG h9 hn ap ht h0 pc u x oa out) _ := kp_l hP
  have hDc : va_D A (wX1 cI cJ cC cG h9 hn ap ht h0 pc u x oa out) := kd_l hD
  refine kj_x1 (k_rSWT (As := [.ref h9, .int (xs (j + 1)), .int (xs (j + 2)), .int (xs (j + 3)), .ref oa]) (rest := []) ⟨K.hx, K.hb, K.hml, K.hown, K.hts⟩ K.hK K.hN K.hq hS (kj_F hD hS K.hA) hPc hDc (zBT_carry_1 K.hst h1) (vx_cwSW (hh := [(0, 12, 15, 21), (0, 12, 19, 15)]) 5 K.hts gL_law_L_carry rfl rfl rfl (by decide +kernel) ⟨Nat.le_of_ble_eq_true rfl, Nat.le_of_ble_eq_true rfl⟩) rfl hl.1 rfl (Nat.le_of_ble_eq_true rfl) dL_law_435 hf) hP hD hS K.hA (fun H locs hP hD hS => ?_)
  have hP : va_P D vwCl (wLw cI cJ cC cG h9 hn ap ht h0 pc u x ad oa out m1) H := hP
  have hD : va_D A (wLw cI cJ cC cG h9 hn ap ht h0 pc u x ad oa out m1) := hD
  refine lv_istore (lv' := [(5, .int 1), (4, .int (lw_i j)), (3, .ref oa), (2, .ref (ad 0)), (1, .ref h9), (0, .ref b)]) K.hx K.hb dL_law_438 hl (by decide) rfl (fun ls hl => ?_)
  refine lv_aload_n K.hx K.hb dL_law_440 rfl (lv_at hl 3 rfl) ?_
  refine lw_arg1 K hS (lv_at hl 5 rfl) (lv_at hl 1 rfl) hj hL dL_law_441 dL_law_442 dL_law_444 dL_law_445 dL_law_446 ?_
  refine lw_arg2 K hS (lv_at hl 5 rfl) (lv_at hl 1 rfl) hj hL dL_law_447 dL_law_448 dL_law_450 dL_law_451 dL_law_452 ?_
  refine lw_arg3 K hS (lv_at hl 5 rfl) (lv_at hl 1 rfl) hj hL dL_law_453 dL_law_454 dL_law_456 dL_law_457 dL_law_458 ?_
  have hPc : va_P D vwCl (wMt cI cJ ad m1) _ := kp_r hP
  have hDc : va_D A (wMt cI cJ ad m1) := kd_r hD
  refine kj_i2 (k_rV (As := [.int (xs (j + 1)), .int (xs (j + 2)), .int (xs (j + 3))]) (rest := []) ⟨K.hx, K.hb, K.hml, K.hown, K.hts⟩ K.hK K.hN hPc hDc (zM_carry h2) (cwV 3 K.hts gL_law_X10_carry rfl rfl rfl (by decide +kernel) ⟨Nat.le_of_ble_eq_true rfl, Nat.le_of_ble_eq_true rfl⟩) rfl rfl rfl hl.1 rfl (Nat.le_of_ble_eq_true rfl) dL_law_459 (lw_fit hf)) hP hD hS K.hA (fun H locs hP hD hS => ?_)
  have hP : va_P D vwCl (wLw cI cJ cC cG h9 hn ap ht h0 pc u x ad oa out m') H := hP
  have hD : va_D A (wLw cI cJ cC cG h9 hn ap ht h0 pc u x ad oa out m') := hD
  refine lv_istore (lv' := [(6, .int r'), (5, .int 1), (4, .int (lw_i j)), (3, .ref oa), (2, .ref (ad 0)), (1, .ref h9), (0, .ref b)]) K.hx K.hb dL_law_462 hl (by decide) rfl (fun ls hl => ?_)
  refine lv_aload_n K.hx K.hb dL_law_464 rfl (lv_at hl 4 rfl) ?_
  have hPc : va_P D vwCl (wMt cI cJ ad m') _ := kp_r hP
  have hDc : va_D A (wMt cI cJ ad m') := kd_r hD
  refine kj_i2 (k_rV (As := []) (rest := []) ⟨K.hx, K.hb, K.hml, K.hown, K.hts⟩ K.hK K.hN hPc hDc zM_thrown (cwV 0 K.hts gL_law_X10_thrown rfl rfl rfl (by decide +kernel) ⟨Nat.le_of_ble_eq_true rfl, Nat.le_of_ble_eq_true rfl⟩) rfl rfl rfl hl.1 rfl (Nat.le_of_ble_eq_true rfl) dL_law_465 (lw_fit hf)) hP hD hS K.hA (fun H locs hP hD hS => ?_)
  have hP : va_P D vwCl (wLw cI cJ cC cG h9 hn ap ht h0 pc u x ad oa out m') H := hP
  have hD : va_D A (wLw cI cJ cC cG h9 hn ap ht h0 pc u x ad oa out m') := hD
  refine lv_iload K.hx K.hb dL_law_468 (lv_at hl 1 rfl) ?_
  refine lv_icmp_eq (tgt := 475) K.hx K.hb dL_law_470 (by decide) (fun cc => ?_) (fun cc => absurd h3 cc)
  refine lv_iload K.hx K.hb dL_law_475 (lv_at hl 1 rfl) ?_
  refine lv_if_ne (tgt := 492) K.hx K.hb dL_law_477 (by decide) (fun cc => ?_) (fun cc => absurd cc (by decide))
  refine lv_goto (tgt := 2028) K.hx K.hb dL_law_492 (by decide) ?_
  exact kk H locs ls hP hD hS (lv_sub hl [2, 3, 4, 5, 6] rfl)
set_option maxHeartbeats 8000000 in
set_option maxRecDepth 100000 in
theorem wlT_carry_2 {p : Program} {l : Launch} {e : Env} {s : State} {m : MethodId} {b L : Nat} {xs : Nat → Int32} {below : List Frame} {meth : Method} {c : Code} {A : Nat → Prop} {D : va_G} {cI cJ cC cG : ClassId} {h9 hn h0 : Nat} {ap ht pc : Nat → Nat} {u : lwH} {x : XT} {m1 : MT} {ad : Nat → Nat} {oa : Nat} {out : Nat → Int64} {H : Heap} {locs : List Loc} {ls : Array Slot} {Q : State → Prop} {C S j : Nat} (K : lwK p l s m b L xs meth c A D cI cJ cC cG) (hP : va_P D vwCl (wLw cI cJ cC cG h9 hn ap ht h0 pc u x ad oa out m1) H) (hD : va_D A (wLw cI cJ cC cG h9 hn ap ht h0 pc u x ad oa out m1)) (hS : va_S A s.heap H locs) (hl : lv_has ls 9 (lw_lv b h9 (ad 0) oa j)) (hj : j + 4 ≤ L) (hL : L ≤ 2048) {r' : Int32} {m' : MT} (hf : C + 1 ≤ room_1.cells ∧ S + 6 ≤ room_1.slots) (h1 : XT_carry x (xs (j + 1)) (xs (j + 2)) (xs (j + 3)) = some "java/lang/IllegalStateException") (h2 : MN_carry m1 (xs (j + 1)) (xs (j + 2)) (xs (j + 3)) = some (r', m')) (h3 : thr m' = 2) (kk : ∀ (H : Heap) (locs : List Loc) (ls : Array Slot), va_P D vwCl (wLw cI cJ cC cG h9 hn ap ht h0 pc u x ad oa out m') H → va_D A (wLw cI cJ cC cG h9 hn ap ht h0 pc u x ad oa out m') → va_S A s.heap H locs → lv_has ls 9 (lw_lv b h9 (ad 0) oa j) → W p l e room_1 s m #[Value.ref b] below meth c H locs (C + 1) (S + 6) Q (F0 m 2028 ls [])) : W p l e room_1 s m #[Value.ref b] below meth c H locs C S Q (F0 m 415 ls []) := by
  have hl : lv_has ls 9 [(4, .int (lw_i j)), (3, .ref oa), (2, .ref (ad 0)), (1, .ref h9), (0, .ref b)] := hl
  refine lv_aload_n K.hx K.hb dL_law_415 rfl (lv_at hl 3 rfl) ?_
  refine lw_arg1 K hS (lv_at hl 4 rfl) (lv_at hl 0 rfl) hj hL dL_law_416 dL_law_417 dL_law_419 dL_law_420 dL_law_421 ?_
  refine lw_arg2 K hS (lv_at hl 4 rfl) (lv_at hl 0 rfl) hj hL dL_law_422 dL_law_423 dL_law_425 dL_law_426 dL_law_427 ?_
  refine lw_arg3 K hS (lv_at hl 4 rfl) (lv_at hl 0 rfl) hj hL dL_law_428 dL_law_429 dL_law_431 dL_law_432 dL_law_433 ?_
  refine lv_aload_n K.hx K.hb dL_law_434 rfl (lv_at hl 1 rfl) ?_
  have hPc : va_P D vwCl (wX1 cI cJ cC cG h9 hn ap ht h0 pc u x oa out) _ := kp_l hP
  have hDc : va_D A (wX1 cI cJ cC cG h9 hn ap ht h0 pc u x oa out) := kd_l hD
  refine kj_x1 (k_rSWT (As := [.ref h9, .int (xs (j + 1)), .int (xs (j + 2)), .int (xs (j + 3)), .ref oa]) (rest := []) ⟨K.hx, K.hb, K.hml, K.hown, K.hts⟩ K.hK K.hN K.hq hS (kj_F hD hS K.hA) hPc hDc (zBT_carry_2 K.hst h1) (vx_cwSW (hh := [(0, 12, 15, 21), (0, 12, 19, 15)]) 5 K.hts gL_law_L_carry rfl rfl rfl (by decide +kernel) ⟨Nat.le_of_ble_eq_true rfl, Nat.le_of_ble_eq_true rfl⟩) rfl hl.1 rfl (Nat.le_of_ble_eq_true rfl) dL_law_435 hf) hP hD hS K.hA (fun H locs hP hD hS => ?_)
  have hP : va_P D vwCl (wLw cI cJ cC cG h9 hn ap ht h0 pc u x ad oa out m1) H := hP
  have hD : va_D A (wLw cI cJ cC cG h9 hn ap ht h0 pc u x ad oa out m1) := hD
  refine lv_istore (lv' := [(5, .int 2), (4, .int (lw_i j)), (3, .ref oa), (2, .ref (ad 0)), (1, .ref h9), (0, .ref b)]) K.hx K.hb dL_law_438 hl (by decide) rfl (fun ls hl => ?_)
  refine lv_aload_n K.hx K.hb dL_law_440 rfl (lv_at hl 3 rfl) ?_
  refine lw_arg1 K hS (lv_at hl 5 rfl) (lv_at hl 1 rfl) hj hL dL_law_441 dL_law_442 dL_law_444 dL_law_445 dL_law_446 ?_
  refine lw_arg2 K hS (lv_at hl 5 rfl) (lv_at hl 1 rfl) hj hL dL_law_447 dL_law_448 dL_law_450 dL_law_451 dL_law_452 ?_
  refine lw_arg3 K hS (lv_at hl 5 rfl) (lv_at hl 1 rfl) hj hL dL_law_453 dL_law_454 dL_law_456 dL_law_457 dL_law_458 ?_
  have hPc : va_P D vwCl (wMt cI cJ ad m1) _ := kp_r hP
  have hDc : va_D A (wMt cI cJ ad m1) := kd_r hD
  refine kj_i2 (k_rV (As := [.int (xs (j + 1)), .int (xs (j + 2)), .int (xs (j + 3))]) (rest := []) ⟨K.hx, K.hb, K.hml, K.hown, K.hts⟩ K.hK K.hN hPc hDc (zM_carry h2) (cwV 3 K.hts gL_law_X10_carry rfl rfl rfl (by decide +kernel) ⟨Nat.le_of_ble_eq_true rfl, Nat.le_of_ble_eq_true rfl⟩) rfl rfl rfl hl.1 rfl (Nat.le_of_ble_eq_true rfl) dL_law_459 (lw_fit hf)) hP hD hS K.hA (fun H locs hP hD hS => ?_)
  have hP : va_P D vwCl (wLw cI cJ cC cG h9 hn ap ht h0 pc u x ad oa out m') H := hP
  have hD : va_D A (wLw cI cJ cC cG h9 hn ap ht h0 pc u x ad oa out m') := hD
  refine lv_istore (lv' := [(6, .int r'), (5, .int 2), (4, .int (lw_i j)), (3, .ref oa), (2, .ref (ad 0)), (1, .ref h9), (0, .ref b)]) K.hx K.hb dL_law_462 hl (by decide) rfl (fun ls hl => ?_)
  refine lv_aload_n K.hx K.hb dL_law_464 rfl (lv_at hl 4 rfl) ?_
  have hPc : va_P D vwCl (wMt cI cJ ad m') _ := kp_r hP
  have hDc : va_D A (wMt cI cJ ad m') := kd_r hD
  refine kj_i2 (k_rV (As := []) (rest := []) ⟨K.hx, K.hb, K.hml, K.hown, K.hts⟩ K.hK K.hN hPc hDc zM_thrown (cwV 0 K.hts gL_law_X10_thrown rfl rfl rfl (by decide +kernel) ⟨Nat.le_of_ble_eq_true rfl, Nat.le_of_ble_eq_true rfl⟩) rfl rfl rfl hl.1 rfl (Nat.le_of_ble_eq_true rfl) dL_law_465 (lw_fit hf)) hP hD hS K.hA (fun H locs hP hD hS => ?_)
  have hP : va_P D vwCl (wLw cI cJ cC cG h9 hn ap ht h0 pc u x ad oa out m') H := hP
  have hD : va_D A (wLw cI cJ cC cG h9 hn ap ht h0 pc u x ad oa out m') := hD
  refine lv_iload K.hx K.hb dL_law_468 (lv_at hl 1 rfl) ?_
  refine lv_icmp_eq (tgt := 475) K.hx K.hb dL_law_470 (by decide) (fun cc => ?_) (fun cc => absurd h3 cc)
  refine lv_iload K.hx K.hb dL_law_475 (lv_at hl 1 rfl) ?_
  refine lv_if_ne (tgt := 492) K.hx K.hb dL_law_477 (by decide) (fun cc => ?_) (fun cc => absurd cc (by decide))
  refine lv_goto (tgt := 2028) K.hx K.hb dL_law_492 (by decide) ?_
  exact kk H locs ls hP hD hS (lv_sub hl [2, 3, 4, 5, 6] rfl)
set_option maxHeartbeats 8000000 in
set_option maxRecDepth 100000 in
theorem wl_offer {p : Program} {l : Launch} {e : Env} {s : State} {m : MethodId} {b L : Nat} {xs : Nat → Int32} {below : List Frame} {meth : Method} {c : Code} {A : Nat → Prop} {D : va_G} {cI cJ cC cG : ClassId} {h9 hn h0 : Nat} {ap ht pc : Nat → Nat} {u : lwH} {x : XT} {m1 : MT} {ad : Nat → Nat} {oa : Nat} {out : Nat → Int64} {H : Heap} {locs : List Loc} {ls : Array Slot} {Q : State → Prop} {C S j : Nat} (K : lwK p l s m b L xs meth c A D cI cJ cC cG) (hP : va_P D vwCl (wLw cI cJ cC cG h9 hn ap ht h0 pc u x ad oa out m1) H) (hD : va_D A (wLw cI cJ cC cG h9 hn ap ht h0 pc u x ad oa out m1)) (hS : va_S A s.heap H locs) (hl : lv_has ls 9 (lw_lv b h9 (ad 0) oa j)) (hj : j + 4 ≤ L) (hL : L ≤ 2048) {r : Int32} {x' : XT} {r' : Int32} {m' : MT} (hf : C + 0 ≤ room_1.cells ∧ S + 0 ≤ room_1.slots) (h1 : XN_offer x = some (r, x')) (h2 : MN_offer m1 = some (r', m')) (h3 : thr m' = 0) (h4 : (Int32.toInt64 r) = Int32.toInt64 r') (kk : ∀ (u : lwH) (H : Heap) (locs : List Loc) (ls : Array Slot), va_P D vwCl (wLw cI cJ cC cG h9 hn ap ht h0 pc u x' ad oa (vp_updL out (Int32.toNatClampNeg 0) (Int32.toInt64 r)) m') H → va_D A (wLw cI cJ cC cG h9 hn ap ht h0 pc u x' ad oa (vp_updL out (Int32.toNatClampNeg 0) (Int32.toInt64 r)) m') → va_S A s.heap H locs → lv_has ls 9 (lw_lv b h9 (ad 0) oa j) → W p l e room_1 s m #[Value.ref b] below meth c H locs C S Q (F0 m 2028 ls [])) : W p l e room_1 s m #[Value.ref b] below meth c H locs C S Q (F0 m 495 ls []) := by
  have hl : lv_has ls 9 [(4, .int (lw_i j)), (3, .ref oa), (2, .ref (ad 0)), (1, .ref h9), (0, .ref b)] := hl
  refine lv_aload_n K.hx K.hb dL_law_495 rfl (lv_at hl 3 rfl) ?_
  refine lv_aload_n K.hx K.hb dL_law_496 rfl (lv_at hl 1 rfl) ?_
  have hPc : va_P D vwCl (wX1 cI cJ cC cG h9 hn ap ht h0 pc u x oa out) _ := kp_l hP
  have hDc : va_D A (wX1 cI cJ cC cG h9 hn ap ht h0 pc u x oa out) := kd_l hD
  refine kj_i1 (k_rSW (As := [.ref h9, .ref oa]) (rest := []) ⟨K.hx, K.hb, K.hml, K.hown, K.hts⟩ K.hK K.hN hPc hDc (zB_offer h1) (vx_cwSW (hh := [(0, 8, 11, 15)]) 2 K.hts gL_law_L_offer rfl rfl rfl (by decide +kernel) ⟨Nat.le_of_ble_eq_true rfl, Nat.le_of_ble_eq_true rfl⟩) rfl hl.1 rfl (Nat.le_of_ble_eq_true rfl) dL_law_497 hf) hP hD hS K.hA (fun u H locs hP hD hS => ?_)
  have hP : va_P D vwCl (wLw cI cJ cC cG h9 hn ap ht h0 pc u x' ad oa (vp_updL out (Int32.toNatClampNeg 0) (Int32.toInt64 r)) m1) H := hP
  have hD : va_D A (wLw cI cJ cC cG h9 hn ap ht h0 pc u x' ad oa (vp_updL out (Int32.toNatClampNeg 0) (Int32.toInt64 r)) m1) := hD
  refine lv_istore (lv' := [(5, .int 0), (4, .int (lw_i j)), (3, .ref oa), (2, .ref (ad 0)), (1, .ref h9), (0, .ref b)]) K.hx K.hb dL_law_500 hl (by decide) rfl (fun ls hl => ?_)
  refine lv_aload_n K.hx K.hb dL_law_502 rfl (lv_at hl 3 rfl) ?_
  have hPc : va_P D vwCl (wMt cI cJ ad m1) _ := kp_r hP
  have hDc : va_D A (wMt cI cJ ad m1) := kd_r hD
  refine kj_i2 (k_rV (As := []) (rest := []) ⟨K.hx, K.hb, K.hml, K.hown, K.hts⟩ K.hK K.hN hPc hDc (zM_offer h2) (cwV 0 K.hts gL_law_X10_offer rfl rfl rfl (by decide +kernel) ⟨Nat.le_of_ble_eq_true rfl, Nat.le_of_ble_eq_true rfl⟩) rfl rfl rfl hl.1 rfl (Nat.le_of_ble_eq_true rfl) dL_law_503 hf) hP hD hS K.hA (fun H locs hP hD hS => ?_)
  have hP : va_P D vwCl (wLw cI cJ cC cG h9 hn ap ht h0 pc u x' ad oa (vp_updL out (Int32.toNatClampNeg 0) (Int32.toInt64 r)) m') H := hP
  have hD : va_D A (wLw cI cJ cC cG h9 hn ap ht h0 pc u x' ad oa (vp_updL out (Int32.toNatClampNeg 0) (Int32.toInt64 r)) m') := hD
  refine lv_istore (lv' := [(6, .int r'), (5, .int 0), (4, .int (lw_i j)), (3, .ref oa), (2, .ref (ad 0)), (1, .ref h9), (0, .ref b)]) K.hx K.hb dL_law_506 hl (by decide) rfl (fun ls hl => ?_)
  refine lv_aload_n K.hx K.hb dL_law_508 rfl (lv_at hl 4 rfl) ?_
  have hPc : va_P D vwCl (wMt cI cJ ad m') _ := kp_r hP
  have hDc : va_D A (wMt cI cJ ad m') := kd_r hD
  refine kj_i2 (k_rV (As := []) (rest := []) ⟨K.hx, K.hb, K.hml, K.hown, K.hts⟩ K.hK K.hN hPc hDc zM_thrown (cwV 0 K.hts gL_law_X10_thrown rfl rfl rfl (by decide +kernel) ⟨Nat.le_of_ble_eq_true rfl, Nat.le_of_ble_eq_true rfl⟩) rfl rfl rfl hl.1 rfl (Nat.le_of_ble_eq_true rfl) dL_law_509 hf) hP hD hS K.hA (fun H locs hP hD hS => ?_)
  have hP : va_P D vwCl (wLw cI cJ cC cG h9 hn ap ht h0 pc u x' ad oa (vp_updL out (Int32.toNatClampNeg 0) (Int32.toInt64 r)) m') H := hP
  have hD : va_D A (wLw cI cJ cC cG h9 hn ap ht h0 pc u x' ad oa (vp_updL out (Int32.toNatClampNeg 0) (Int32.toInt64 r)) m') := hD
  refine lv_iload K.hx K.hb dL_law_512 (lv_at hl 1 rfl) ?_
  refine lv_icmp_eq (tgt := 519) K.hx K.hb dL_law_514 (by decide) (fun cc => ?_) (fun cc => absurd h3 cc)
  refine lv_iload K.hx K.hb dL_law_519 (lv_at hl 1 rfl) ?_
  refine lv_if_ne (tgt := 536) K.hx K.hb dL_law_521 (by decide) (fun cc => absurd rfl cc) (fun cc => ?_)
  refine lv_aload_n K.hx K.hb dL_law_524 rfl (lv_at hl 3 rfl) ?_
  refine lv_iconst (v := 0) K.hx K.hb dL_law_525 (by decide) ?_
  refine va_lald K.hx K.hb K.hK hP 25 1 rfl rfl kv_01 dL_law_526 ?_
  refine W.eq (g2 := F0 m 527 _ (.long (Int32.toInt64 r) :: [])) (by rw [lw_out]) ?_
  refine lv_iload K.hx K.hb dL_law_527 (lv_at hl 0 rfl) ?_
  refine lv_i2l (v := Int32.toInt64 r') K.hx K.hb dL_law_529 rfl ?_
  refine W.lcmp K.hx K.hb dL_law_530 ?_
  refine lv_if_eq (tgt := 536) K.hx K.hb dL_law_531 (by decide) (fun cc => ?_) (fun cc => absurd (lw_ceq h4) cc)
  refine lv_goto (tgt := 2028) K.hx K.hb dL_law_536 (by decide) ?_
  exact kk u H locs ls hP hD hS (lv_sub hl [2, 3, 4, 5, 6] rfl)
set_option maxHeartbeats 8000000 in
set_option maxRecDepth 100000 in
theorem wlT_offer_1 {p : Program} {l : Launch} {e : Env} {s : State} {m : MethodId} {b L : Nat} {xs : Nat → Int32} {below : List Frame} {meth : Method} {c : Code} {A : Nat → Prop} {D : va_G} {cI cJ cC cG : ClassId} {h9 hn h0 : Nat} {ap ht pc : Nat → Nat} {u : lwH} {x : XT} {m1 : MT} {ad : Nat → Nat} {oa : Nat} {out : Nat → Int64} {H : Heap} {locs : List Loc} {ls : Array Slot} {Q : State → Prop} {C S j : Nat} (K : lwK p l s m b L xs meth c A D cI cJ cC cG) (hP : va_P D vwCl (wLw cI cJ cC cG h9 hn ap ht h0 pc u x ad oa out m1) H) (hD : va_D A (wLw cI cJ cC cG h9 hn ap ht h0 pc u x ad oa out m1)) (hS : va_S A s.heap H locs) (hl : lv_has ls 9 (lw_lv b h9 (ad 0) oa j)) (hj : j + 4 ≤ L) (hL : L ≤ 2048) {r' : Int32} {m' : MT} (hf : C + 1 ≤ room_1.cells ∧ S + 6 ≤ room_1.slots) (h1 : XT_offer x = some "java/lang/IllegalStateException") (h2 : MN_offer m1 = some (r', m')) (h3 : thr m' = 1) (kk : ∀ (H : Heap) (locs : List Loc) (ls : Array Slot), va_P D vwCl (wLw cI cJ cC cG h9 hn ap ht h0 pc u x ad oa out m') H → va_D A (wLw cI cJ cC cG h9 hn ap ht h0 pc u x ad oa out m') → va_S A s.heap H locs → lv_has ls 9 (lw_lv b h9 (ad 0) oa j) → W p l e room_1 s m #[Value.ref b] below meth c H locs (C + 1) (S + 6) Q (F0 m 2028 ls [])) : W p l e room_1 s m #[Value.ref b] below meth c H locs C S Q (F0 m 495 ls []) := by
  have hl : lv_has ls 9 [(4, .int (lw_i j)), (3, .ref oa), (2, .ref (ad 0)), (1, .ref h9), (0, .ref b)] := hl
  refine lv_aload_n K.hx K.hb dL_law_495 rfl (lv_at hl 3 rfl) ?_
  refine lv_aload_n K.hx K.hb dL_law_496 rfl (lv_at hl 1 rfl) ?_
  have hPc : va_P D vwCl (wX1 cI cJ cC cG h9 hn ap ht h0 pc u x oa out) _ := kp_l hP
  have hDc : va_D A (wX1 cI cJ cC cG h9 hn ap ht h0 pc u x oa out) := kd_l hD
  refine kj_x1 (k_rSWT (As := [.ref h9, .ref oa]) (rest := []) ⟨K.hx, K.hb, K.hml, K.hown, K.hts⟩ K.hK K.hN K.hq hS (kj_F hD hS K.hA) hPc hDc (zBT_offer_1 K.hst h1) (vx_cwSW (hh := [(0, 8, 11, 15)]) 2 K.hts gL_law_L_offer rfl rfl rfl (by decide +kernel) ⟨Nat.le_of_ble_eq_true rfl, Nat.le_of_ble_eq_true rfl⟩) rfl hl.1 rfl (Nat.le_of_ble_eq_true rfl) dL_law_497 hf) hP hD hS K.hA (fun H locs hP hD hS => ?_)
  have hP : va_P D vwCl (wLw cI cJ cC cG h9 hn ap ht h0 pc u x ad oa out m1) H := hP
  have hD : va_D A (wLw cI cJ cC cG h9 hn ap ht h0 pc u x ad oa out m1) := hD
  refine lv_istore (lv' := [(5, .int 1), (4, .int (lw_i j)), (3, .ref oa), (2, .ref (ad 0)), (1, .ref h9), (0, .ref b)]) K.hx K.hb dL_law_500 hl (by decide) rfl (fun ls hl => ?_)
  refine lv_aload_n K.hx K.hb dL_law_502 rfl (lv_at hl 3 rfl) ?_
  have hPc : va_P D vwCl (wMt cI cJ ad m1) _ := kp_r hP
  have hDc : va_D A (wMt cI cJ ad m1) := kd_r hD
  refine kj_i2 (k_rV (As := []) (rest := []) ⟨K.hx, K.hb, K.hml, K.hown, K.hts⟩ K.hK K.hN hPc hDc (zM_offer h2) (cwV 0 K.hts gL_law_X10_offer rfl rfl rfl (by decide +kernel) ⟨Nat.le_of_ble_eq_true rfl, Nat.le_of_ble_eq_true rfl⟩) rfl rfl rfl hl.1 rfl (Nat.le_of_ble_eq_true rfl) dL_law_503 (lw_fit hf)) hP hD hS K.hA (fun H locs hP hD hS => ?_)
  have hP : va_P D vwCl (wLw cI cJ cC cG h9 hn ap ht h0 pc u x ad oa out m') H := hP
  have hD : va_D A (wLw cI cJ cC cG h9 hn ap ht h0 pc u x ad oa out m') := hD
  refine lv_istore (lv' := [(6, .int r'), (5, .int 1), (4, .int (lw_i j)), (3, .ref oa), (2, .ref (ad 0)), (1, .ref h9), (0, .ref b)]) K.hx K.hb dL_law_506 hl (by decide) rfl (fun ls hl => ?_)
  refine lv_aload_n K.hx K.hb dL_law_508 rfl (lv_at hl 4 rfl) ?_
  have hPc : va_P D vwCl (wMt cI cJ ad m') _ := kp_r hP
  have hDc : va_D A (wMt cI cJ ad m') := kd_r hD
  refine kj_i2 (k_rV (As := []) (rest := []) ⟨K.hx, K.hb, K.hml, K.hown, K.hts⟩ K.hK K.hN hPc hDc zM_thrown (cwV 0 K.hts gL_law_X10_thrown rfl rfl rfl (by decide +kernel) ⟨Nat.le_of_ble_eq_true rfl, Nat.le_of_ble_eq_true rfl⟩) rfl rfl rfl hl.1 rfl (Nat.le_of_ble_eq_true rfl) dL_law_509 (lw_fit hf)) hP hD hS K.hA (fun H locs hP hD hS => ?_)
  have hP : va_P D vwCl (wLw cI cJ cC cG h9 hn ap ht h0 pc u x ad oa out m') H := hP
  have hD : va_D A (wLw cI cJ cC cG h9 hn ap ht h0 pc u x ad oa out m') := hD
  refine lv_iload K.hx K.hb dL_law_512 (lv_at hl 1 rfl) ?_
  refine lv_icmp_eq (tgt := 519) K.hx K.hb dL_law_514 (by decide) (fun cc => ?_) (fun cc => absurd h3 cc)
  refine lv_iload K.hx K.hb dL_law_519 (lv_at hl 1 rfl) ?_
  refine lv_if_ne (tgt := 536) K.hx K.hb dL_law_521 (by decide) (fun cc => ?_) (fun cc => absurd cc (by decide))
  refine lv_goto (tgt := 2028) K.hx K.hb dL_law_536 (by decide) ?_
  exact kk H locs ls hP hD hS (lv_sub hl [2, 3, 4, 5, 6] rfl)
set_option maxHeartbeats 8000000 in
set_option maxRecDepth 100000 in
theorem wl_take {p : Program} {l : Launch} {e : Env} {s : State} {m : MethodId} {b L : Nat} {xs : Nat → Int32} {below : List Frame} {meth : Method} {c : Code} {A : Nat → Prop} {D : va_G} {cI cJ cC cG : ClassId} {h9 hn h0 : Nat} {ap ht pc : Nat → Nat} {u : lwH} {x : XT} {m1 : MT} {ad : Nat → Nat} {oa : Nat} {out : Nat → Int64} {H : Heap} {locs : List Loc} {ls : Array Slot} {Q : State → Prop} {C S j : Nat} (K : lwK p l s m b L xs meth c A D cI cJ cC cG) (hP : va_P D vwCl (wLw cI cJ cC cG h9 hn ap ht h0 pc u x ad oa out m1) H) (hD : va_D A (wLw cI cJ cC cG h9 hn ap ht h0 pc u x ad oa out m1)) (hS : va_S A s.heap H locs) (hl : lv_has ls 9 (lw_lv b h9 (ad 0) oa j)) (hj : j + 4 ≤ L) (hL : L ≤ 2048) {r : Int32} {x' : XT} {r' : Int32} {m' : MT} (hf : C + 0 ≤ room_1.cells ∧ S + 0 ≤ room_1.slots) (h1 : XN_take x = some (r, x')) (h2 : MN_take m1 = some (r', m')) (h3 : thr m' = 0) (h4 : (Int32.toInt64 r) = Int32.toInt64 r') (kk : ∀ (u : lwH) (H : Heap) (locs : List Loc) (ls : Array Slot), va_P D vwCl (wLw cI cJ cC cG h9 hn ap ht h0 pc u x' ad oa (vp_updL out (Int32.toNatClampNeg 0) (Int32.toInt64 r)) m') H → va_D A (wLw cI cJ cC cG h9 hn ap ht h0 pc u x' ad oa (vp_updL out (Int32.toNatClampNeg 0) (Int32.toInt64 r)) m') → va_S A s.heap H locs → lv_has ls 9 (lw_lv b h9 (ad 0) oa j) → W p l e room_1 s m #[Value.ref b] below meth c H locs C S Q (F0 m 2028 ls [])) : W p l e room_1 s m #[Value.ref b] below meth c H locs C S Q (F0 m 539 ls []) := by
  have hl : lv_has ls 9 [(4, .int (lw_i j)), (3, .ref oa), (2, .ref (ad 0)), (1, .ref h9), (0, .ref b)] := hl
  refine lv_aload_n K.hx K.hb dL_law_539 rfl (lv_at hl 3 rfl) ?_
  refine lv_aload_n K.hx K.hb dL_law_540 rfl (lv_at hl 1 rfl) ?_
  have hPc : va_P D vwCl (wX1 cI cJ cC cG h9 hn ap ht h0 pc u x oa out) _ := kp_l hP
  have hDc : va_D A (wX1 cI cJ cC cG h9 hn ap ht h0 pc u x oa out) := kd_l hD
  refine kj_i1 (k_rSW (As := [.ref h9, .ref oa]) (rest := []) ⟨K.hx, K.hb, K.hml, K.hown, K.hts⟩ K.hK K.hN hPc hDc (zB_take h1) (vx_cwSW (hh := [(0, 8, 11, 15)]) 2 K.hts gL_law_L_take rfl rfl rfl (by decide +kernel) ⟨Nat.le_of_ble_eq_true rfl, Nat.le_of_ble_eq_true rfl⟩) rfl hl.1 rfl (Nat.le_of_ble_eq_true rfl) dL_law_541 hf) hP hD hS K.hA (fun u H locs hP hD hS => ?_)
  have hP : va_P D vwCl (wLw cI cJ cC cG h9 hn ap ht h0 pc u x' ad oa (vp_updL out (Int32.toNatClampNeg 0) (Int32.toInt64 r)) m1) H := hP
  have hD : va_D A (wLw cI cJ cC cG h9 hn ap ht h0 pc u x' ad oa (vp_updL out (Int32.toNatClampNeg 0) (Int32.toInt64 r)) m1) := hD
  refine lv_istore (lv' := [(5, .int 0), (4, .int (lw_i j)), (3, .ref oa), (2, .ref (ad 0)), (1, .ref h9), (0, .ref b)]) K.hx K.hb dL_law_544 hl (by decide) rfl (fun ls hl => ?_)
  refine lv_aload_n K.hx K.hb dL_law_546 rfl (lv_at hl 3 rfl) ?_
  have hPc : va_P D vwCl (wMt cI cJ ad m1) _ := kp_r hP
  have hDc : va_D A (wMt cI cJ ad m1) := kd_r hD
  refine kj_i2 (k_rV (As := []) (rest := []) ⟨K.hx, K.hb, K.hml, K.hown, K.hts⟩ K.hK K.hN hPc hDc (zM_take h2) (cwV 0 K.hts gL_law_X10_take rfl rfl rfl (by decide +kernel) ⟨Nat.le_of_ble_eq_true rfl, Nat.le_of_ble_eq_true rfl⟩) rfl rfl rfl hl.1 rfl (Nat.le_of_ble_eq_true rfl) dL_law_547 hf) hP hD hS K.hA (fun H locs hP hD hS => ?_)
  have hP : va_P D vwCl (wLw cI cJ cC cG h9 hn ap ht h0 pc u x' ad oa (vp_updL out (Int32.toNatClampNeg 0) (Int32.toInt64 r)) m') H := hP
  have hD : va_D A (wLw cI cJ cC cG h9 hn ap ht h0 pc u x' ad oa (vp_updL out (Int32.toNatClampNeg 0) (Int32.toInt64 r)) m') := hD
  refine lv_istore (lv' := [(6, .int r'), (5, .int 0), (4, .int (lw_i j)), (3, .ref oa), (2, .ref (ad 0)), (1, .ref h9), (0, .ref b)]) K.hx K.hb dL_law_550 hl (by decide) rfl (fun ls hl => ?_)
  refine lv_aload_n K.hx K.hb dL_law_552 rfl (lv_at hl 4 rfl) ?_
  have hPc : va_P D vwCl (wMt cI cJ ad m') _ := kp_r hP
  have hDc : va_D A (wMt cI cJ ad m') := kd_r hD
  refine kj_i2 (k_rV (As := []) (rest := []) ⟨K.hx, K.hb, K.hml, K.hown, K.hts⟩ K.hK K.hN hPc hDc zM_thrown (cwV 0 K.hts gL_law_X10_thrown rfl rfl rfl (by decide +kernel) ⟨Nat.le_of_ble_eq_true rfl, Nat.le_of_ble_eq_true rfl⟩) rfl rfl rfl hl.1 rfl (Nat.le_of_ble_eq_true rfl) dL_law_553 hf) hP hD hS K.hA (fun H locs hP hD hS => ?_)
  have hP : va_P D vwCl (wLw cI cJ cC cG h9 hn ap ht h0 pc u x' ad oa (vp_updL out (Int32.toNatClampNeg 0) (Int32.toInt64 r)) m') H := hP
  have hD : va_D A (wLw cI cJ cC cG h9 hn ap ht h0 pc u x' ad oa (vp_updL out (Int32.toNatClampNeg 0) (Int32.toInt64 r)) m') := hD
  refine lv_iload K.hx K.hb dL_law_556 (lv_at hl 1 rfl) ?_
  refine lv_icmp_eq (tgt := 563) K.hx K.hb dL_law_558 (by decide) (fun cc => ?_) (fun cc => absurd h3 cc)
  refine lv_iload K.hx K.hb dL_law_563 (lv_at hl 1 rfl) ?_
  refine lv_if_ne (tgt := 580) K.hx K.hb dL_law_565 (by decide) (fun cc => absurd rfl cc) (fun cc => ?_)
  refine lv_aload_n K.hx K.hb dL_law_568 rfl (lv_at hl 3 rfl) ?_
  refine lv_iconst (v := 0) K.hx K.hb dL_law_569 (by decide) ?_
  refine va_lald K.hx K.hb K.hK hP 25 1 rfl rfl kv_01 dL_law_570 ?_
  refine W.eq (g2 := F0 m 571 _ (.long (Int32.toInt64 r) :: [])) (by rw [lw_out]) ?_
  refine lv_iload K.hx K.hb dL_law_571 (lv_at hl 0 rfl) ?_
  refine lv_i2l (v := Int32.toInt64 r') K.hx K.hb dL_law_573 rfl ?_
  refine W.lcmp K.hx K.hb dL_law_574 ?_
  refine lv_if_eq (tgt := 580) K.hx K.hb dL_law_575 (by decide) (fun cc => ?_) (fun cc => absurd (lw_ceq h4) cc)
  refine lv_goto (tgt := 2028) K.hx K.hb dL_law_580 (by decide) ?_
  exact kk u H locs ls hP hD hS (lv_sub hl [2, 3, 4, 5, 6] rfl)
set_option maxHeartbeats 8000000 in
set_option maxRecDepth 100000 in
theorem wlT_take_1 {p : Program} {l : Launch} {e : Env} {s : State} {m : MethodId} {b L : Nat} {xs : Nat → Int32} {below : List Frame} {meth : Method} {c : Code} {A : Nat → Prop} {D : va_G} {cI cJ cC cG : ClassId} {h9 hn h0 : Nat} {ap ht pc : Nat → Nat} {u : lwH} {x : XT} {m1 : MT} {ad : Nat → Nat} {oa : Nat} {out : Nat → Int64} {H : Heap} {locs : List Loc} {ls : Array Slot} {Q : State → Prop} {C S j : Nat} (K : lwK p l s m b L xs meth c A D cI cJ cC cG) (hP : va_P D vwCl (wLw cI cJ cC cG h9 hn ap ht h0 pc u x ad oa out m1) H) (hD : va_D A (wLw cI cJ cC cG h9 hn ap ht h0 pc u x ad oa out m1)) (hS : va_S A s.heap H locs) (hl : lv_has ls 9 (lw_lv b h9 (ad 0) oa j)) (hj : j + 4 ≤ L) (hL : L ≤ 2048) {r' : Int32} {m' : MT} (hf : C + 1 ≤ room_1.cells ∧ S + 6 ≤ room_1.slots) (h1 : XT_take x = some "java/lang/IllegalStateException") (h2 : MN_take m1 = some (r', m')) (h3 : thr m' = 1) (kk : ∀ (H : Heap) (locs : List Loc) (ls : Array Slot), va_P D vwCl (wLw cI cJ cC cG h9 hn ap ht h0 pc u x ad oa out m') H → va_D A (wLw cI cJ cC cG h9 hn ap ht h0 pc u x ad oa out m') → va_S A s.heap H locs → lv_has ls 9 (lw_lv b h9 (ad 0) oa j) → W p l e room_1 s m #[Value.ref b] below meth c H locs (C + 1) (S + 6) Q (F0 m 2028 ls [])) : W p l e room_1 s m #[Value.ref b] below meth c H locs C S Q (F0 m 539 ls []) := by
  have hl : lv_has ls 9 [(4, .int (lw_i j)), (3, .ref oa), (2, .ref (ad 0)), (1, .ref h9), (0, .ref b)] := hl
  refine lv_aload_n K.hx K.hb dL_law_539 rfl (lv_at hl 3 rfl) ?_
  refine lv_aload_n K.hx K.hb dL_law_540 rfl (lv_at hl 1 rfl) ?_
  have hPc : va_P D vwCl (wX1 cI cJ cC cG h9 hn ap ht h0 pc u x oa out) _ := kp_l hP
  have hDc : va_D A (wX1 cI cJ cC cG h9 hn ap ht h0 pc u x oa out) := kd_l hD
  refine kj_x1 (k_rSWT (As := [.ref h9, .ref oa]) (rest := []) ⟨K.hx, K.hb, K.hml, K.hown, K.hts⟩ K.hK K.hN K.hq hS (kj_F hD hS K.hA) hPc hDc (zBT_take_1 K.hst h1) (vx_cwSW (hh := [(0, 8, 11, 15)]) 2 K.hts gL_law_L_take rfl rfl rfl (by decide +kernel) ⟨Nat.le_of_ble_eq_true rfl, Nat.le_of_ble_eq_true rfl⟩) rfl hl.1 rfl (Nat.le_of_ble_eq_true rfl) dL_law_541 hf) hP hD hS K.hA (fun H locs hP hD hS => ?_)
  have hP : va_P D vwCl (wLw cI cJ cC cG h9 hn ap ht h0 pc u x ad oa out m1) H := hP
  have hD : va_D A (wLw cI cJ cC cG h9 hn ap ht h0 pc u x ad oa out m1) := hD
  refine lv_istore (lv' := [(5, .int 1), (4, .int (lw_i j)), (3, .ref oa), (2, .ref (ad 0)), (1, .ref h9), (0, .ref b)]) K.hx K.hb dL_law_544 hl (by decide) rfl (fun ls hl => ?_)
  refine lv_aload_n K.hx K.hb dL_law_546 rfl (lv_at hl 3 rfl) ?_
  have hPc : va_P D vwCl (wMt cI cJ ad m1) _ := kp_r hP
  have hDc : va_D A (wMt cI cJ ad m1) := kd_r hD
  refine kj_i2 (k_rV (As := []) (rest := []) ⟨K.hx, K.hb, K.hml, K.hown, K.hts⟩ K.hK K.hN hPc hDc (zM_take h2) (cwV 0 K.hts gL_law_X10_take rfl rfl rfl (by decide +kernel) ⟨Nat.le_of_ble_eq_true rfl, Nat.le_of_ble_eq_true rfl⟩) rfl rfl rfl hl.1 rfl (Nat.le_of_ble_eq_true rfl) dL_law_547 (lw_fit hf)) hP hD hS K.hA (fun H locs hP hD hS => ?_)
  have hP : va_P D vwCl (wLw cI cJ cC cG h9 hn ap ht h0 pc u x ad oa out m') H := hP
  have hD : va_D A (wLw cI cJ cC cG h9 hn ap ht h0 pc u x ad oa out m') := hD
  refine lv_istore (lv' := [(6, .int r'), (5, .int 1), (4, .int (lw_i j)), (3, .ref oa), (2, .ref (ad 0)), (1, .ref h9), (0, .ref b)]) K.hx K.hb dL_law_550 hl (by decide) rfl (fun ls hl => ?_)
  refine lv_aload_n K.hx K.hb dL_law_552 rfl (lv_at hl 4 rfl) ?_
  have hPc : va_P D vwCl (wMt cI cJ ad m') _ := kp_r hP
  have hDc : va_D A (wMt cI cJ ad m') := kd_r hD
  refine kj_i2 (k_rV (As := []) (rest := []) ⟨K.hx, K.hb, K.hml, K.hown, K.hts⟩ K.hK K.hN hPc hDc zM_thrown (cwV 0 K.hts gL_law_X10_thrown rfl rfl rfl (by decide +kernel) ⟨Nat.le_of_ble_eq_true rfl, Nat.le_of_ble_eq_true rfl⟩) rfl rfl rfl hl.1 rfl (Nat.le_of_ble_eq_true rfl) dL_law_553 (lw_fit hf)) hP hD hS K.hA (fun H locs hP hD hS => ?_)
  have hP : va_P D vwCl (wLw cI cJ cC cG h9 hn ap ht h0 pc u x ad oa out m') H := hP
  have hD : va_D A (wLw cI cJ cC cG h9 hn ap ht h0 pc u x ad oa out m') := hD
  refine lv_iload K.hx K.hb dL_law_556 (lv_at hl 1 rfl) ?_
  refine lv_icmp_eq (tgt := 563) K.hx K.hb dL_law_558 (by decide) (fun cc => ?_) (fun cc => absurd h3 cc)
  refine lv_iload K.hx K.hb dL_law_563 (lv_at hl 1 rfl) ?_
  refine lv_if_ne (tgt := 580) K.hx K.hb dL_law_565 (by decide) (fun cc => ?_) (fun cc => absurd cc (by decide))
  refine lv_goto (tgt := 2028) K.hx K.hb dL_law_580 (by decide) ?_
  exact kk H locs ls hP hD hS (lv_sub hl [2, 3, 4, 5, 6] rfl)
set_option maxHeartbeats 8000000 in
set_option maxRecDepth 100000 in
theorem wl_drop {p : Program} {l : Launch} {e : Env} {s : State} {m : MethodId} {b L : Nat} {xs : Nat → Int32} {below : List Frame} {meth : Method} {c : Code} {A : Nat → Prop} {D : va_G} {cI cJ cC cG : ClassId} {h9 hn h0 : Nat} {ap ht pc : Nat → Nat} {u : lwH} {x : XT} {m1 : MT} {ad : Nat → Nat} {oa : Nat} {out : Nat → Int64} {H : Heap} {locs : List Loc} {ls : Array Slot} {Q : State → Prop} {C S j : Nat} (K : lwK p l s m b L xs meth c A D cI cJ cC cG) (hP : va_P D vwCl (wLw cI cJ cC cG h9 hn ap ht h0 pc u x ad oa out m1) H) (hD : va_D A (wLw cI cJ cC cG h9 hn ap ht h0 pc u x ad oa out m1)) (hS : va_S A s.heap H locs) (hl : lv_has ls 9 (lw_lv b h9 (ad 0) oa j)) (hj : j + 4 ≤ L) (hL : L ≤ 2048) {r : Int32} {x' : XT} {r' : Int32} {m' : MT} (hf : C + 0 ≤ room_1.cells ∧ S + 0 ≤ room_1.slots) (h1 : XN_drop x = some (r, x')) (h2 : MN_drop m1 = some (r', m')) (h3 : thr m' = 0) (h4 : (Int32.toInt64 r) = Int32.toInt64 r') (kk : ∀ (u : lwH) (H : Heap) (locs : List Loc) (ls : Array Slot), va_P D vwCl (wLw cI cJ cC cG h9 hn ap ht h0 pc u x' ad oa (vp_updL out (Int32.toNatClampNeg 0) (Int32.toInt64 r)) m') H → va_D A (wLw cI cJ cC cG h9 hn ap ht h0 pc u x' ad oa (vp_updL out (Int32.toNatClampNeg 0) (Int32.toInt64 r)) m') → va_S A s.heap H locs → lv_has ls 9 (lw_lv b h9 (ad 0) oa j) → W p l e room_1 s m #[Value.ref b] below meth c H locs C S Q (F0 m 2028 ls [])) : W p l e room_1 s m #[Value.ref b] below meth c H locs C S Q (F0 m 583 ls []) := by
  have hl : lv_has ls 9 [(4, .int (lw_i j)), (3, .ref oa), (2, .ref (ad 0)), (1, .ref h9), (0, .ref b)] := hl
  refine lv_aload_n K.hx K.hb dL_law_583 rfl (lv_at hl 3 rfl) ?_
  refine lv_aload_n K.hx K.hb dL_law_584 rfl (lv_at hl 1 rfl) ?_
  have hPc : va_P D vwCl (wX1 cI cJ cC cG h9 hn ap ht h0 pc u x oa out) _ := kp_l hP
  have hDc : va_D A (wX1 cI cJ cC cG h9 hn ap ht h0 pc u x oa out) := kd_l hD
  refine kj_i1 (k_rSW (As := [.ref h9, .ref oa]) (rest := []) ⟨K.hx, K.hb, K.hml, K.hown, K.hts⟩ K.hK K.hN hPc hDc (zB_drop h1) (vx_cwSW (hh := [(0, 8, 11, 15)]) 2 K.hts gL_law_L_drop rfl rfl rfl (by decide +kernel) ⟨Nat.le_of_ble_eq_true rfl, Nat.le_of_ble_eq_true rfl⟩) rfl hl.1 rfl (Nat.le_of_ble_eq_true rfl) dL_law_585 hf) hP hD hS K.hA (fun u H locs hP hD hS => ?_)
  have hP : va_P D vwCl (wLw cI cJ cC cG h9 hn ap ht h0 pc u x' ad oa (vp_updL out (Int32.toNatClampNeg 0) (Int32.toInt64 r)) m1) H := hP
  have hD : va_D A (wLw cI cJ cC cG h9 hn ap ht h0 pc u x' ad oa (vp_updL out (Int32.toNatClampNeg 0) (Int32.toInt64 r)) m1) := hD
  refine lv_istore (lv' := [(5, .int 0), (4, .int (lw_i j)), (3, .ref oa), (2, .ref (ad 0)), (1, .ref h9), (0, .ref b)]) K.hx K.hb dL_law_588 hl (by decide) rfl (fun ls hl => ?_)
  refine lv_aload_n K.hx K.hb dL_law_590 rfl (lv_at hl 3 rfl) ?_
  have hPc : va_P D vwCl (wMt cI cJ ad m1) _ := kp_r hP
  have hDc : va_D A (wMt cI cJ ad m1) := kd_r hD
  refine kj_i2 (k_rV (As := []) (rest := []) ⟨K.hx, K.hb, K.hml, K.hown, K.hts⟩ K.hK K.hN hPc hDc (zM_drop h2) (cwV 0 K.hts gL_law_X10_drop rfl rfl rfl (by decide +kernel) ⟨Nat.le_of_ble_eq_true rfl, Nat.le_of_ble_eq_true rfl⟩) rfl rfl rfl hl.1 rfl (Nat.le_of_ble_eq_true rfl) dL_law_591 hf) hP hD hS K.hA (fun H locs hP hD hS => ?_)
  have hP : va_P D vwCl (wLw cI cJ cC cG h9 hn ap ht h0 pc u x' ad oa (vp_updL out (Int32.toNatClampNeg 0) (Int32.toInt64 r)) m') H := hP
  have hD : va_D A (wLw cI cJ cC cG h9 hn ap ht h0 pc u x' ad oa (vp_updL out (Int32.toNatClampNeg 0) (Int32.toInt64 r)) m') := hD
  refine lv_istore (lv' := [(6, .int r'), (5, .int 0), (4, .int (lw_i j)), (3, .ref oa), (2, .ref (ad 0)), (1, .ref h9), (0, .ref b)]) K.hx K.hb dL_law_594 hl (by decide) rfl (fun ls hl => ?_)
  refine lv_aload_n K.hx K.hb dL_law_596 rfl (lv_at hl 4 rfl) ?_
  have hPc : va_P D vwCl (wMt cI cJ ad m') _ := kp_r hP
  have hDc : va_D A (wMt cI cJ ad m') := kd_r hD
  refine kj_i2 (k_rV (As := []) (rest := []) ⟨K.hx, K.hb, K.hml, K.hown, K.hts⟩ K.hK K.hN hPc hDc zM_thrown (cwV 0 K.hts gL_law_X10_thrown rfl rfl rfl (by decide +kernel) ⟨Nat.le_of_ble_eq_true rfl, Nat.le_of_ble_eq_true rfl⟩) rfl rfl rfl hl.1 rfl (Nat.le_of_ble_eq_true rfl) dL_law_597 hf) hP hD hS K.hA (fun H locs hP hD hS => ?_)
  have hP : va_P D vwCl (wLw cI cJ cC cG h9 hn ap ht h0 pc u x' ad oa (vp_updL out (Int32.toNatClampNeg 0) (Int32.toInt64 r)) m') H := hP
  have hD : va_D A (wLw cI cJ cC cG h9 hn ap ht h0 pc u x' ad oa (vp_updL out (Int32.toNatClampNeg 0) (Int32.toInt64 r)) m') := hD
  refine lv_iload K.hx K.hb dL_law_600 (lv_at hl 1 rfl) ?_
  refine lv_icmp_eq (tgt := 607) K.hx K.hb dL_law_602 (by decide) (fun cc => ?_) (fun cc => absurd h3 cc)
  refine lv_iload K.hx K.hb dL_law_607 (lv_at hl 1 rfl) ?_
  refine lv_if_ne (tgt := 624) K.hx K.hb dL_law_609 (by decide) (fun cc => absurd rfl cc) (fun cc => ?_)
  refine lv_aload_n K.hx K.hb dL_law_612 rfl (lv_at hl 3 rfl) ?_
  refine lv_iconst (v := 0) K.hx K.hb dL_law_613 (by decide) ?_
  refine va_lald K.hx K.hb K.hK hP 25 1 rfl rfl kv_01 dL_law_614 ?_
  refine W.eq (g2 := F0 m 615 _ (.long (Int32.toInt64 r) :: [])) (by rw [lw_out]) ?_
  refine lv_iload K.hx K.hb dL_law_615 (lv_at hl 0 rfl) ?_
  refine lv_i2l (v := Int32.toInt64 r') K.hx K.hb dL_law_617 rfl ?_
  refine W.lcmp K.hx K.hb dL_law_618 ?_
  refine lv_if_eq (tgt := 624) K.hx K.hb dL_law_619 (by decide) (fun cc => ?_) (fun cc => absurd (lw_ceq h4) cc)
  refine lv_goto (tgt := 2028) K.hx K.hb dL_law_624 (by decide) ?_
  exact kk u H locs ls hP hD hS (lv_sub hl [2, 3, 4, 5, 6] rfl)
set_option maxHeartbeats 8000000 in
set_option maxRecDepth 100000 in
theorem wlT_drop_1 {p : Program} {l : Launch} {e : Env} {s : State} {m : MethodId} {b L : Nat} {xs : Nat → Int32} {below : List Frame} {meth : Method} {c : Code} {A : Nat → Prop} {D : va_G} {cI cJ cC cG : ClassId} {h9 hn h0 : Nat} {ap ht pc : Nat → Nat} {u : lwH} {x : XT} {m1 : MT} {ad : Nat → Nat} {oa : Nat} {out : Nat → Int64} {H : Heap} {locs : List Loc} {ls : Array Slot} {Q : State → Prop} {C S j : Nat} (K : lwK p l s m b L xs meth c A D cI cJ cC cG) (hP : va_P D vwCl (wLw cI cJ cC cG h9 hn ap ht h0 pc u x ad oa out m1) H) (hD : va_D A (wLw cI cJ cC cG h9 hn ap ht h0 pc u x ad oa out m1)) (hS : va_S A s.heap H locs) (hl : lv_has ls 9 (lw_lv b h9 (ad 0) oa j)) (hj : j + 4 ≤ L) (hL : L ≤ 2048) {r' : Int32} {m' : MT} (hf : C + 1 ≤ room_1.cells ∧ S + 6 ≤ room_1.slots) (h1 : XT_drop x = some "java/lang/IllegalStateException") (h2 : MN_drop m1 = some (r', m')) (h3 : thr m' = 1) (kk : ∀ (H : Heap) (locs : List Loc) (ls : Array Slot), va_P D vwCl (wLw cI cJ cC cG h9 hn ap ht h0 pc u x ad oa out m') H → va_D A (wLw cI cJ cC cG h9 hn ap ht h0 pc u x ad oa out m') → va_S A s.heap H locs → lv_has ls 9 (lw_lv b h9 (ad 0) oa j) → W p l e room_1 s m #[Value.ref b] below meth c H locs (C + 1) (S + 6) Q (F0 m 2028 ls [])) : W p l e room_1 s m #[Value.ref b] below meth c H locs C S Q (F0 m 583 ls []) := by
  have hl : lv_has ls 9 [(4, .int (lw_i j)), (3, .ref oa), (2, .ref (ad 0)), (1, .ref h9), (0, .ref b)] := hl
  refine lv_aload_n K.hx K.hb dL_law_583 rfl (lv_at hl 3 rfl) ?_
  refine lv_aload_n K.hx K.hb dL_law_584 rfl (lv_at hl 1 rfl) ?_
  have hPc : va_P D vwCl (wX1 cI cJ cC cG h9 hn ap ht h0 pc u x oa out) _ := kp_l hP
  have hDc : va_D A (wX1 cI cJ cC cG h9 hn ap ht h0 pc u x oa out) := kd_l hD
  refine kj_x1 (k_rSWT (As := [.ref h9, .ref oa]) (rest := []) ⟨K.hx, K.hb, K.hml, K.hown, K.hts⟩ K.hK K.hN K.hq hS (kj_F hD hS K.hA) hPc hDc (zBT_drop_1 K.hst h1) (vx_cwSW (hh := [(0, 8, 11, 15)]) 2 K.hts gL_law_L_drop rfl rfl rfl (by decide +kernel) ⟨Nat.le_of_ble_eq_true rfl, Nat.le_of_ble_eq_true rfl⟩) rfl hl.1 rfl (Nat.le_of_ble_eq_true rfl) dL_law_585 hf) hP hD hS K.hA (fun H locs hP hD hS => ?_)
  have hP : va_P D vwCl (wLw cI cJ cC cG h9 hn ap ht h0 pc u x ad oa out m1) H := hP
  have hD : va_D A (wLw cI cJ cC cG h9 hn ap ht h0 pc u x ad oa out m1) := hD
  refine lv_istore (lv' := [(5, .int 1), (4, .int (lw_i j)), (3, .ref oa), (2, .ref (ad 0)), (1, .ref h9), (0, .ref b)]) K.hx K.hb dL_law_588 hl (by decide) rfl (fun ls hl => ?_)
  refine lv_aload_n K.hx K.hb dL_law_590 rfl (lv_at hl 3 rfl) ?_
  have hPc : va_P D vwCl (wMt cI cJ ad m1) _ := kp_r hP
  have hDc : va_D A (wMt cI cJ ad m1) := kd_r hD
  refine kj_i2 (k_rV (As := []) (rest := []) ⟨K.hx, K.hb, K.hml, K.hown, K.hts⟩ K.hK K.hN hPc hDc (zM_drop h2) (cwV 0 K.hts gL_law_X10_drop rfl rfl rfl (by decide +kernel) ⟨Nat.le_of_ble_eq_true rfl, Nat.le_of_ble_eq_true rfl⟩) rfl rfl rfl hl.1 rfl (Nat.le_of_ble_eq_true rfl) dL_law_591 (lw_fit hf)) hP hD hS K.hA (fun H locs hP hD hS => ?_)
  have hP : va_P D vwCl (wLw cI cJ cC cG h9 hn ap ht h0 pc u x ad oa out m') H := hP
  have hD : va_D A (wLw cI cJ cC cG h9 hn ap ht h0 pc u x ad oa out m') := hD
  refine lv_istore (lv' := [(6, .int r'), (5, .int 1), (4, .int (lw_i j)), (3, .ref oa), (2, .ref (ad 0)), (1, .ref h9), (0, .ref b)]) K.hx K.hb dL_law_594 hl (by decide) rfl (fun ls hl => ?_)
  refine lv_aload_n K.hx K.hb dL_law_596 rfl (lv_at hl 4 rfl) ?_
  have hPc : va_P D vwCl (wMt cI cJ ad m') _ := kp_r hP
  have hDc : va_D A (wMt cI cJ ad m') := kd_r hD
  refine kj_i2 (k_rV (As := []) (rest := []) ⟨K.hx, K.hb, K.hml, K.hown, K.hts⟩ K.hK K.hN hPc hDc zM_thrown (cwV 0 K.hts gL_law_X10_thrown rfl rfl rfl (by decide +kernel) ⟨Nat.le_of_ble_eq_true rfl, Nat.le_of_ble_eq_true rfl⟩) rfl rfl rfl hl.1 rfl (Nat.le_of_ble_eq_true rfl) dL_law_597 (lw_fit hf)) hP hD hS K.hA (fun H locs hP hD hS => ?_)
  have hP : va_P D vwCl (wLw cI cJ cC cG h9 hn ap ht h0 pc u x ad oa out m') H := hP
  have hD : va_D A (wLw cI cJ cC cG h9 hn ap ht h0 pc u x ad oa out m') := hD
  refine lv_iload K.hx K.hb dL_law_600 (lv_at hl 1 rfl) ?_
  refine lv_icmp_eq (tgt := 607) K.hx K.hb dL_law_602 (by decide) (fun cc => ?_) (fun cc => absurd h3 cc)
  refine lv_iload K.hx K.hb dL_law_607 (lv_at hl 1 rfl) ?_
  refine lv_if_ne (tgt := 624) K.hx K.hb dL_law_609 (by decide) (fun cc => ?_) (fun cc => absurd cc (by decide))
  refine lv_goto (tgt := 2028) K.hx K.hb dL_law_624 (by decide) ?_
  exact kk H locs ls hP hD hS (lv_sub hl [2, 3, 4, 5, 6] rfl)
set_option maxHeartbeats 8000000 in
set_option maxRecDepth 100000 in
theorem wl_newGame {p : Program} {l : Launch} {e : Env} {s : State} {m : MethodId} {b L : Nat} {xs : Nat → Int32} {below : List Frame} {meth : Method} {c : Code} {A : Nat → Prop} {D : va_G} {cI cJ cC cG : ClassId} {h9 hn h0 : Nat} {ap ht pc : Nat → Nat} {u : lwH} {x : XT} {m1 : MT} {ad : Nat → Nat} {oa : Nat} {out : Nat → Int64} {H : Heap} {locs : List Loc} {ls : Array Slot} {Q : State → Prop} {C S j : Nat} (K : lwK p l s m b L xs meth c A D cI cJ cC cG) (hP : va_P D vwCl (wLw cI cJ cC cG h9 hn ap ht h0 pc u x ad oa out m1) H) (hD : va_D A (wLw cI cJ cC cG h9 hn ap ht h0 pc u x ad oa out m1)) (hS : va_S A s.heap H locs) (hl : lv_has ls 9 (lw_lv b h9 (ad 0) oa j)) (hj : j + 4 ≤ L) (hL : L ≤ 2048) {r : Int32} {x' : XT} {r' : Int32} {m' : MT} (hf : C + 0 ≤ room_1.cells ∧ S + 0 ≤ room_1.slots) (h1 : XN_newGame x = some (r, x')) (h2 : MN_newGame m1 = some (r', m')) (h3 : thr m' = 0) (h4 : (Int32.toInt64 r) = Int32.toInt64 r') (kk : ∀ (u : lwH) (H : Heap) (locs : List Loc) (ls : Array Slot), va_P D vwCl (wLw cI cJ cC cG h9 hn ap ht h0 pc u x' ad oa (vp_updL out (Int32.toNatClampNeg 0) (Int32.toInt64 r)) m') H → va_D A (wLw cI cJ cC cG h9 hn ap ht h0 pc u x' ad oa (vp_updL out (Int32.toNatClampNeg 0) (Int32.toInt64 r)) m') → va_S A s.heap H locs → lv_has ls 9 (lw_lv b h9 (ad 0) oa j) → W p l e room_1 s m #[Value.ref b] below meth c H locs C S Q (F0 m 2028 ls [])) : W p l e room_1 s m #[Value.ref b] below meth c H locs C S Q (F0 m 627 ls []) := by
  have hl : lv_has ls 9 [(4, .int (lw_i j)), (3, .ref oa), (2, .ref (ad 0)), (1, .ref h9), (0, .ref b)] := hl
  refine lv_aload_n K.hx K.hb dL_law_627 rfl (lv_at hl 3 rfl) ?_
  refine lv_aload_n K.hx K.hb dL_law_628 rfl (lv_at hl 1 rfl) ?_
  have hPc : va_P D vwCl (wX1 cI cJ cC cG h9 hn ap ht h0 pc u x oa out) _ := kp_l hP
  have hDc : va_D A (wX1 cI cJ cC cG h9 hn ap ht h0 pc u x oa out) := kd_l hD
  refine kj_i1 (k_rSW (As := [.ref h9, .ref oa]) (rest := []) ⟨K.hx, K.hb, K.hml, K.hown, K.hts⟩ K.hK K.hN hPc hDc (zB_newGame h1) (vx_cwSW (hh := [(0, 8, 11, 15)]) 2 K.hts gL_law_L_newGame rfl rfl rfl (by decide +kernel) ⟨Nat.le_of_ble_eq_true rfl, Nat.le_of_ble_eq_true rfl⟩) rfl hl.1 rfl (Nat.le_of_ble_eq_true rfl) dL_law_629 hf) hP hD hS K.hA (fun u H locs hP hD hS => ?_)
  have hP : va_P D vwCl (wLw cI cJ cC cG h9 hn ap ht h0 pc u x' ad oa (vp_updL out (Int32.toNatClampNeg 0) (Int32.toInt64 r)) m1) H := hP
  have hD : va_D A (wLw cI cJ cC cG h9 hn ap ht h0 pc u x' ad oa (vp_updL out (Int32.toNatClampNeg 0) (Int32.toInt64 r)) m1) := hD
  refine lv_istore (lv' := [(5, .int 0), (4, .int (lw_i j)), (3, .ref oa), (2, .ref (ad 0)), (1, .ref h9), (0, .ref b)]) K.hx K.hb dL_law_632 hl (by decide) rfl (fun ls hl => ?_)
  refine lv_aload_n K.hx K.hb dL_law_634 rfl (lv_at hl 3 rfl) ?_
  have hPc : va_P D vwCl (wMt cI cJ ad m1) _ := kp_r hP
  have hDc : va_D A (wMt cI cJ ad m1) := kd_r hD
  refine kj_i2 (k_rV (As := []) (rest := []) ⟨K.hx, K.hb, K.hml, K.hown, K.hts⟩ K.hK K.hN hPc hDc (zM_newGame h2) (cwV 0 K.hts gL_law_X10_newGame rfl rfl rfl (by decide +kernel) ⟨Nat.le_of_ble_eq_true rfl, Nat.le_of_ble_eq_true rfl⟩) rfl rfl rfl hl.1 rfl (Nat.le_of_ble_eq_true rfl) dL_law_635 hf) hP hD hS K.hA (fun H locs hP hD hS => ?_)
  have hP : va_P D vwCl (wLw cI cJ cC cG h9 hn ap ht h0 pc u x' ad oa (vp_updL out (Int32.toNatClampNeg 0) (Int32.toInt64 r)) m') H := hP
  have hD : va_D A (wLw cI cJ cC cG h9 hn ap ht h0 pc u x' ad oa (vp_updL out (Int32.toNatClampNeg 0) (Int32.toInt64 r)) m') := hD
  refine lv_istore (lv' := [(6, .int r'), (5, .int 0), (4, .int (lw_i j)), (3, .ref oa), (2, .ref (ad 0)), (1, .ref h9), (0, .ref b)]) K.hx K.hb dL_law_638 hl (by decide) rfl (fun ls hl => ?_)
  refine lv_aload_n K.hx K.hb dL_law_640 rfl (lv_at hl 4 rfl) ?_
  have hPc : va_P D vwCl (wMt cI cJ ad m') _ := kp_r hP
  have hDc : va_D A (wMt cI cJ ad m') := kd_r hD
  refine kj_i2 (k_rV (As := []) (rest := []) ⟨K.hx, K.hb, K.hml, K.hown, K.hts⟩ K.hK K.hN hPc hDc zM_thrown (cwV 0 K.hts gL_law_X10_thrown rfl rfl rfl (by decide +kernel) ⟨Nat.le_of_ble_eq_true rfl, Nat.le_of_ble_eq_true rfl⟩) rfl rfl rfl hl.1 rfl (Nat.le_of_ble_eq_true rfl) dL_law_641 hf) hP hD hS K.hA (fun H locs hP hD hS => ?_)
  have hP : va_P D vwCl (wLw cI cJ cC cG h9 hn ap ht h0 pc u x' ad oa (vp_updL out (Int32.toNatClampNeg 0) (Int32.toInt64 r)) m') H := hP
  have hD : va_D A (wLw cI cJ cC cG h9 hn ap ht h0 pc u x' ad oa (vp_updL out (Int32.toNatClampNeg 0) (Int32.toInt64 r)) m') := hD
  refine lv_iload K.hx K.hb dL_law_644 (lv_at hl 1 rfl) ?_
  refine lv_icmp_eq (tgt := 651) K.hx K.hb dL_law_646 (by decide) (fun cc => ?_) (fun cc => absurd h3 cc)
  refine lv_iload K.hx K.hb dL_law_651 (lv_at hl 1 rfl) ?_
  refine lv_if_ne (tgt := 668) K.hx K.hb dL_law_653 (by decide) (fun cc => absurd rfl cc) (fun cc => ?_)
  refine lv_aload_n K.hx K.hb dL_law_656 rfl (lv_at hl 3 rfl) ?_
  refine lv_iconst (v := 0) K.hx K.hb dL_law_657 (by decide) ?_
  refine va_lald K.hx K.hb K.hK hP 25 1 rfl rfl kv_01 dL_law_658 ?_
  refine W.eq (g2 := F0 m 659 _ (.long (Int32.toInt64 r) :: [])) (by rw [lw_out]) ?_
  refine lv_iload K.hx K.hb dL_law_659 (lv_at hl 0 rfl) ?_
  refine lv_i2l (v := Int32.toInt64 r') K.hx K.hb dL_law_661 rfl ?_
  refine W.lcmp K.hx K.hb dL_law_662 ?_
  refine lv_if_eq (tgt := 668) K.hx K.hb dL_law_663 (by decide) (fun cc => ?_) (fun cc => absurd (lw_ceq h4) cc)
  refine lv_goto (tgt := 2028) K.hx K.hb dL_law_668 (by decide) ?_
  exact kk u H locs ls hP hD hS (lv_sub hl [2, 3, 4, 5, 6] rfl)
set_option maxHeartbeats 8000000 in
set_option maxRecDepth 100000 in
theorem wlT_newGame_1 {p : Program} {l : Launch} {e : Env} {s : State} {m : MethodId} {b L : Nat} {xs : Nat → Int32} {below : List Frame} {meth : Method} {c : Code} {A : Nat → Prop} {D : va_G} {cI cJ cC cG : ClassId} {h9 hn h0 : Nat} {ap ht pc : Nat → Nat} {u : lwH} {x : XT} {m1 : MT} {ad : Nat → Nat} {oa : Nat} {out : Nat → Int64} {H : Heap} {locs : List Loc} {ls : Array Slot} {Q : State → Prop} {C S j : Nat} (K : lwK p l s m b L xs meth c A D cI cJ cC cG) (hP : va_P D vwCl (wLw cI cJ cC cG h9 hn ap ht h0 pc u x ad oa out m1) H) (hD : va_D A (wLw cI cJ cC cG h9 hn ap ht h0 pc u x ad oa out m1)) (hS : va_S A s.heap H locs) (hl : lv_has ls 9 (lw_lv b h9 (ad 0) oa j)) (hj : j + 4 ≤ L) (hL : L ≤ 2048) {r' : Int32} {m' : MT} (hf : C + 1 ≤ room_1.cells ∧ S + 6 ≤ room_1.slots) (h1 : XT_newGame x = some "java/lang/IllegalStateException") (h2 : MN_newGame m1 = some (r', m')) (h3 : thr m' = 1) (kk : ∀ (H : Heap) (locs : List Loc) (ls : Array Slot), va_P D vwCl (wLw cI cJ cC cG h9 hn ap ht h0 pc u x ad oa out m') H → va_D A (wLw cI cJ cC cG h9 hn ap ht h0 pc u x ad oa out m') → va_S A s.heap H locs → lv_has ls 9 (lw_lv b h9 (ad 0) oa j) → W p l e room_1 s m #[Value.ref b] below meth c H locs (C + 1) (S + 6) Q (F0 m 2028 ls [])) : W p l e room_1 s m #[Value.ref b] below meth c H locs C S Q (F0 m 627 ls []) := by
  have hl : lv_has ls 9 [(4, .int (lw_i j)), (3, .ref oa), (2, .ref (ad 0)), (1, .ref h9), (0, .ref b)] := hl
  refine lv_aload_n K.hx K.hb dL_law_627 rfl (lv_at hl 3 rfl) ?_
  refine lv_aload_n K.hx K.hb dL_law_628 rfl (lv_at hl 1 rfl) ?_
  have hPc : va_P D vwCl (wX1 cI cJ cC cG h9 hn ap ht h0 pc u x oa out) _ := kp_l hP
  have hDc : va_D A (wX1 cI cJ cC cG h9 hn ap ht h0 pc u x oa out) := kd_l hD
  refine kj_x1 (k_rSWT (As := [.ref h9, .ref oa]) (rest := []) ⟨K.hx, K.hb, K.hml, K.hown, K.hts⟩ K.hK K.hN K.hq hS (kj_F hD hS K.hA) hPc hDc (zBT_newGame_1 K.hst h1) (vx_cwSW (hh := [(0, 8, 11, 15)]) 2 K.hts gL_law_L_newGame rfl rfl rfl (by decide +kernel) ⟨Nat.le_of_ble_eq_true rfl, Nat.le_of_ble_eq_true rfl⟩) rfl hl.1 rfl (Nat.le_of_ble_eq_true rfl) dL_law_629 hf) hP hD hS K.hA (fun H locs hP hD hS => ?_)
  have hP : va_P D vwCl (wLw cI cJ cC cG h9 hn ap ht h0 pc u x ad oa out m1) H := hP
  have hD : va_D A (wLw cI cJ cC cG h9 hn ap ht h0 pc u x ad oa out m1) := hD
  refine lv_istore (lv' := [(5, .int 1), (4, .int (lw_i j)), (3, .ref oa), (2, .ref (ad 0)), (1, .ref h9), (0, .ref b)]) K.hx K.hb dL_law_632 hl (by decide) rfl (fun ls hl => ?_)
  refine lv_aload_n K.hx K.hb dL_law_634 rfl (lv_at hl 3 rfl) ?_
  have hPc : va_P D vwCl (wMt cI cJ ad m1) _ := kp_r hP
  have hDc : va_D A (wMt cI cJ ad m1) := kd_r hD
  refine kj_i2 (k_rV (As := []) (rest := []) ⟨K.hx, K.hb, K.hml, K.hown, K.hts⟩ K.hK K.hN hPc hDc (zM_newGame h2) (cwV 0 K.hts gL_law_X10_newGame rfl rfl rfl (by decide +kernel) ⟨Nat.le_of_ble_eq_true rfl, Nat.le_of_ble_eq_true rfl⟩) rfl rfl rfl hl.1 rfl (Nat.le_of_ble_eq_true rfl) dL_law_635 (lw_fit hf)) hP hD hS K.hA (fun H locs hP hD hS => ?_)
  have hP : va_P D vwCl (wLw cI cJ cC cG h9 hn ap ht h0 pc u x ad oa out m') H := hP
  have hD : va_D A (wLw cI cJ cC cG h9 hn ap ht h0 pc u x ad oa out m') := hD
  refine lv_istore (lv' := [(6, .int r'), (5, .int 1), (4, .int (lw_i j)), (3, .ref oa), (2, .ref (ad 0)), (1, .ref h9), (0, .ref b)]) K.hx K.hb dL_law_638 hl (by decide) rfl (fun ls hl => ?_)
  refine lv_aload_n K.hx K.hb dL_law_640 rfl (lv_at hl 4 rfl) ?_
  have hPc : va_P D vwCl (wMt cI cJ ad m') _ := kp_r hP
  have hDc : va_D A (wMt cI cJ ad m') := kd_r hD
  refine kj_i2 (k_rV (As := []) (rest := []) ⟨K.hx, K.hb, K.hml, K.hown, K.hts⟩ K.hK K.hN hPc hDc zM_thrown (cwV 0 K.hts gL_law_X10_thrown rfl rfl rfl (by decide +kernel) ⟨Nat.le_of_ble_eq_true rfl, Nat.le_of_ble_eq_true rfl⟩) rfl rfl rfl hl.1 rfl (Nat.le_of_ble_eq_true rfl) dL_law_641 (lw_fit hf)) hP hD hS K.hA (fun H locs hP hD hS => ?_)
  have hP : va_P D vwCl (wLw cI cJ cC cG h9 hn ap ht h0 pc u x ad oa out m') H := hP
  have hD : va_D A (wLw cI cJ cC cG h9 hn ap ht h0 pc u x ad oa out m') := hD
  refine lv_iload K.hx K.hb dL_law_644 (lv_at hl 1 rfl) ?_
  refine lv_icmp_eq (tgt := 651) K.hx K.hb dL_law_646 (by decide) (fun cc => ?_) (fun cc => absurd h3 cc)
  refine lv_iload K.hx K.hb dL_law_651 (lv_at hl 1 rfl) ?_
  refine lv_if_ne (tgt := 668) K.hx K.hb dL_law_653 (by decide) (fun cc => ?_) (fun cc => absurd cc (by decide))
  refine lv_goto (tgt := 2028) K.hx K.hb dL_law_668 (by decide) ?_
  exact kk H locs ls hP hD hS (lv_sub hl [2, 3, 4, 5, 6] rfl)
set_option maxHeartbeats 8000000 in
set_option maxRecDepth 100000 in
theorem wl_append {p : Program} {l : Launch} {e : Env} {s : State} {m : MethodId} {b L : Nat} {xs : Nat → Int32} {below : List Frame} {meth : Method} {c : Code} {A : Nat → Prop} {D : va_G} {cI cJ cC cG : ClassId} {h9 hn h0 : Nat} {ap ht pc : Nat → Nat} {u : lwH} {x : XT} {m1 : MT} {ad : Nat → Nat} {oa : Nat} {out : Nat → Int64} {H : Heap} {locs : List Loc} {ls : Array Slot} {Q : State → Prop} {C S j : Nat} (K : lwK p l s m b L xs meth c A D cI cJ cC cG) (hP : va_P D vwCl (wLw cI cJ cC cG h9 hn ap ht h0 pc u x ad oa out m1) H) (hD : va_D A (wLw cI cJ cC cG h9 hn ap ht h0 pc u x ad oa out m1)) (hS : va_S A s.heap H locs) (hl : lv_has ls 9 (lw_lv b h9 (ad 0) oa j)) (hj : j + 4 ≤ L) (hL : L ≤ 2048) {r : Int32} {x' : XT} {r' : Int32} {m' : MT} (hf : C + 0 ≤ room_1.cells ∧ S + 0 ≤ room_1.slots) (h1 : XN_append x (xs (j + 1)) = some (r, x')) (h2 : MN_append m1 (xs (j + 1)) = some (r', m')) (h3 : thr m' = 0) (h4 : (Int32.toInt64 r) = Int32.toInt64 r') (kk : ∀ (u : lwH) (H : Heap) (locs : List Loc) (ls : Array Slot), va_P D vwCl (wLw cI cJ cC cG h9 hn ap ht h0 pc u x' ad oa (vp_updL out (Int32.toNatClampNeg 0) (Int32.toInt64 r)) m') H → va_D A (wLw cI cJ cC cG h9 hn ap ht h0 pc u x' ad oa (vp_updL out (Int32.toNatClampNeg 0) (Int32.toInt64 r)) m') → va_S A s.heap H locs → lv_has ls 9 (lw_lv b h9 (ad 0) oa j) → W p l e room_1 s m #[Value.ref b] below meth c H locs C S Q (F0 m 2028 ls [])) : W p l e room_1 s m #[Value.ref b] below meth c H locs C S Q (F0 m 671 ls []) := by
  have hl : lv_has ls 9 [(4, .int (lw_i j)), (3, .ref oa), (2, .ref (ad 0)), (1, .ref h9), (0, .ref b)] := hl
  refine lv_aload_n K.hx K.hb dL_law_671 rfl (lv_at hl 3 rfl) ?_
  refine lw_arg1 K hS (lv_at hl 4 rfl) (lv_at hl 0 rfl) hj hL dL_law_672 dL_law_673 dL_law_675 dL_law_676 dL_law_677 ?_
  refine lv_aload_n K.hx K.hb dL_law_678 rfl (lv_at hl 1 rfl) ?_
  have hPc : va_P D vwCl (wX1 cI cJ cC cG h9 hn ap ht h0 pc u x oa out) _ := kp_l hP
  have hDc : va_D A (wX1 cI cJ cC cG h9 hn ap ht h0 pc u x oa out) := kd_l hD
  refine kj_i1 (k_rSW (As := [.ref h9, .int (xs (j + 1)), .ref oa]) (rest := []) ⟨K.hx, K.hb, K.hml, K.hown, K.hts⟩ K.hK K.hN hPc hDc (zB_append h1) (vx_cwSW (hh := [(0, 9, 12, 13), (0, 9, 15, 15)]) 3 K.hts gL_law_L_append rfl rfl rfl (by decide +kernel) ⟨Nat.le_of_ble_eq_true rfl, Nat.le_of_ble_eq_true rfl⟩) rfl hl.1 rfl (Nat.le_of_ble_eq_true rfl) dL_law_679 hf) hP hD hS K.hA (fun u H locs hP hD hS => ?_)
  have hP : va_P D vwCl (wLw cI cJ cC cG h9 hn ap ht h0 pc u x' ad oa (vp_updL out (Int32.toNatClampNeg 0) (Int32.toInt64 r)) m1) H := hP
  have hD : va_D A (wLw cI cJ cC cG h9 hn ap ht h0 pc u x' ad oa (vp_updL out (Int32.toNatClampNeg 0) (Int32.toInt64 r)) m1) := hD
  refine lv_istore (lv' := [(5, .int 0), (4, .int (lw_i j)), (3, .ref oa), (2, .ref (ad 0)), (1, .ref h9), (0, .ref b)]) K.hx K.hb dL_law_682 hl (by decide) rfl (fun ls hl => ?_)
  refine lv_aload_n K.hx K.hb dL_law_684 rfl (lv_at hl 3 rfl) ?_
  refine lw_arg1 K hS (lv_at hl 5 rfl) (lv_at hl 1 rfl) hj hL dL_law_685 dL_law_686 dL_law_688 dL_law_689 dL_law_690 ?_
  have hPc : va_P D vwCl (wMt cI cJ ad m1) _ := kp_r hP
  have hDc : va_D A (wMt cI cJ ad m1) := kd_r hD
  refine kj_i2 (k_rV (As := [.int (xs (j + 1))]) (rest := []) ⟨K.hx, K.hb, K.hml, K.hown, K.hts⟩ K.hK K.hN hPc hDc (zM_append h2) (cwV 1 K.hts gL_law_X10_append rfl rfl rfl (by decide +kernel) ⟨Nat.le_of_ble_eq_true rfl, Nat.le_of_ble_eq_true rfl⟩) rfl rfl rfl hl.1 rfl (Nat.le_of_ble_eq_true rfl) dL_law_691 hf) hP hD hS K.hA (fun H locs hP hD hS => ?_)
  have hP : va_P D vwCl (wLw cI cJ cC cG h9 hn ap ht h0 pc u x' ad oa (vp_updL out (Int32.toNatClampNeg 0) (Int32.toInt64 r)) m') H := hP
  have hD : va_D A (wLw cI cJ cC cG h9 hn ap ht h0 pc u x' ad oa (vp_updL out (Int32.toNatClampNeg 0) (Int32.toInt64 r)) m') := hD
  refine lv_istore (lv' := [(6, .int r'), (5, .int 0), (4, .int (lw_i j)), (3, .ref oa), (2, .ref (ad 0)), (1, .ref h9), (0, .ref b)]) K.hx K.hb dL_law_694 hl (by decide) rfl (fun ls hl => ?_)
  refine lv_aload_n K.hx K.hb dL_law_696 rfl (lv_at hl 4 rfl) ?_
  have hPc : va_P D vwCl (wMt cI cJ ad m') _ := kp_r hP
  have hDc : va_D A (wMt cI cJ ad m') := kd_r hD
  refine kj_i2 (k_rV (As := []) (rest := []) ⟨K.hx, K.hb, K.hml, K.hown, K.hts⟩ K.hK K.hN hPc hDc zM_thrown (cwV 0 K.hts gL_law_X10_thrown rfl rfl rfl (by decide +kernel) ⟨Nat.le_of_ble_eq_true rfl, Nat.le_of_ble_eq_true rfl⟩) rfl rfl rfl hl.1 rfl (Nat.le_of_ble_eq_true rfl) dL_law_697 hf) hP hD hS K.hA (fun H locs hP hD hS => ?_)
  have hP : va_P D vwCl (wLw cI cJ cC cG h9 hn ap ht h0 pc u x' ad oa (vp_updL out (Int32.toNatClampNeg 0) (Int32.toInt64 r)) m') H := hP
  have hD : va_D A (wLw cI cJ cC cG h9 hn ap ht h0 pc u x' ad oa (vp_updL out (Int32.toNatClampNeg 0) (Int32.toInt64 r)) m') := hD
  refine lv_iload K.hx K.hb dL_law_700 (lv_at hl 1 rfl) ?_
  refine lv_icmp_eq (tgt := 707) K.hx K.hb dL_law_702 (by decide) (fun cc => ?_) (fun cc => absurd h3 cc)
  refine lv_iload K.hx K.hb dL_law_707 (lv_at hl 1 rfl) ?_
  refine lv_if_ne (tgt := 724) K.hx K.hb dL_law_709 (by decide) (fun cc => absurd rfl cc) (fun cc => ?_)
  refine lv_aload_n K.hx K.hb dL_law_712 rfl (lv_at hl 3 rfl) ?_
  refine lv_iconst (v := 0) K.hx K.hb dL_law_713 (by decide) ?_
  refine va_lald K.hx K.hb K.hK hP 25 1 rfl rfl kv_01 dL_law_714 ?_
  refine W.eq (g2 := F0 m 715 _ (.long (Int32.toInt64 r) :: [])) (by rw [lw_out]) ?_
  refine lv_iload K.hx K.hb dL_law_715 (lv_at hl 0 rfl) ?_
  refine lv_i2l (v := Int32.toInt64 r') K.hx K.hb dL_law_717 rfl ?_
  refine W.lcmp K.hx K.hb dL_law_718 ?_
  refine lv_if_eq (tgt := 724) K.hx K.hb dL_law_719 (by decide) (fun cc => ?_) (fun cc => absurd (lw_ceq h4) cc)
  refine lv_goto (tgt := 2028) K.hx K.hb dL_law_724 (by decide) ?_
  exact kk u H locs ls hP hD hS (lv_sub hl [2, 3, 4, 5, 6] rfl)
set_option maxHeartbeats 8000000 in
set_option maxRecDepth 100000 in
theorem wlT_append_1 {p : Program} {l : Launch} {e : Env} {s : State} {m : MethodId} {b L : Nat} {xs : Nat → Int32} {below : List Frame} {meth : Method} {c : Code} {A : Nat → Prop} {D : va_G} {cI cJ cC cG : ClassId} {h9 hn h0 : Nat} {ap ht pc : Nat → Nat} {u : lwH} {x : XT} {m1 : MT} {ad : Nat → Nat} {oa : Nat} {out : Nat → Int64} {H : Heap} {locs : List Loc} {ls : Array Slot} {Q : State → Prop} {C S j : Nat} (K : lwK p l s m b L xs meth c A D cI cJ cC cG) (hP : va_P D vwCl (wLw cI cJ cC cG h9 hn ap ht h0 pc u x ad oa out m1) H) (hD : va_D A (wLw cI cJ cC cG h9 hn ap ht h0 pc u x ad oa out m1)) (hS : va_S A s.heap H locs) (hl : lv_has ls 9 (lw_lv b h9 (ad 0) oa j)) (hj : j + 4 ≤ L) (hL : L ≤ 2048) {r' : Int32} {m' : MT} (hf : C + 1 ≤ room_1.cells ∧ S + 6 ≤ room_1.slots) (h1 : XT_append x (xs (j + 1)) = some "java/lang/IllegalArgumentException") (h2 : MN_append m1 (xs (j + 1)) = some (r', m')) (h3 : thr m' = 1) (kk : ∀ (H : Heap) (locs : List Loc) (ls : Array Slot), va_P D vwCl (wLw cI cJ cC cG h9 hn ap ht h0 pc u x ad oa out m') H → va_D A (wLw cI cJ cC cG h9 hn ap ht h0 pc u x ad oa out m') → va_S A s.heap H locs → lv_has ls 9 (lw_lv b h9 (ad 0) oa j) → W p l e room_1 s m #[Value.ref b] below meth c H locs (C + 1) (S + 6) Q (F0 m 2028 ls [])) : W p l e room_1 s m #[Value.ref b] below meth c H locs C S Q (F0 m 671 ls []) := by
  have hl : lv_has ls 9 [(4, .int (lw_i j)), (3, .ref oa), (2, .ref (ad 0)), (1, .ref h9), (0, .ref b)] := hl
  refine lv_aload_n K.hx K.hb dL_law_671 rfl (lv_at hl 3 rfl) ?_
  refine lw_arg1 K hS (lv_at hl 4 rfl) (lv_at hl 0 rfl) hj hL dL_law_672 dL_law_673 dL_law_675 dL_law_676 dL_law_677 ?_
  refine lv_aload_n K.hx K.hb dL_law_678 rfl (lv_at hl 1 rfl) ?_
  have hPc : va_P D vwCl (wX1 cI cJ cC cG h9 hn ap ht h0 pc u x oa out) _ := kp_l hP
  have hDc : va_D A (wX1 cI cJ cC cG h9 hn ap ht h0 pc u x oa out) := kd_l hD
  refine kj_x1 (k_rSWT (As := [.ref h9, .int (xs (j + 1)), .ref oa]) (rest := []) ⟨K.hx, K.hb, K.hml, K.hown, K.hts⟩ K.hK K.hN K.hq hS (kj_F hD hS K.hA) hPc hDc (zBT_append_1 K.hst h1) (vx_cwSW (hh := [(0, 9, 12, 13), (0, 9, 15, 15)]) 3 K.hts gL_law_L_append rfl rfl rfl (by decide +kernel) ⟨Nat.le_of_ble_eq_true rfl, Nat.le_of_ble_eq_true rfl⟩) rfl hl.1 rfl (Nat.le_of_ble_eq_true rfl) dL_law_679 hf) hP hD hS K.hA (fun H locs hP hD hS => ?_)
  have hP : va_P D vwCl (wLw cI cJ cC cG h9 hn ap ht h0 pc u x ad oa out m1) H := hP
  have hD : va_D A (wLw cI cJ cC cG h9 hn ap ht h0 pc u x ad oa out m1) := hD
  refine lv_istore (lv' := [(5, .int 1), (4, .int (lw_i j)), (3, .ref oa), (2, .ref (ad 0)), (1, .ref h9), (0, .ref b)]) K.hx K.hb dL_law_682 hl (by decide) rfl (fun ls hl => ?_)
  refine lv_aload_n K.hx K.hb dL_law_684 rfl (lv_at hl 3 rfl) ?_
  refine lw_arg1 K hS (lv_at hl 5 rfl) (lv_at hl 1 rfl) hj hL dL_law_685 dL_law_686 dL_law_688 dL_law_689 dL_law_690 ?_
  have hPc : va_P D vwCl (wMt cI cJ ad m1) _ := kp_r hP
  have hDc : va_D A (wMt cI cJ ad m1) := kd_r hD
  refine kj_i2 (k_rV (As := [.int (xs (j + 1))]) (rest := []) ⟨K.hx, K.hb, K.hml, K.hown, K.hts⟩ K.hK K.hN hPc hDc (zM_append h2) (cwV 1 K.hts gL_law_X10_append rfl rfl rfl (by decide +kernel) ⟨Nat.le_of_ble_eq_true rfl, Nat.le_of_ble_eq_true rfl⟩) rfl rfl rfl hl.1 rfl (Nat.le_of_ble_eq_true rfl) dL_law_691 (lw_fit hf)) hP hD hS K.hA (fun H locs hP hD hS => ?_)
  have hP : va_P D vwCl (wLw cI cJ cC cG h9 hn ap ht h0 pc u x ad oa out m') H := hP
  have hD : va_D A (wLw cI cJ cC cG h9 hn ap ht h0 pc u x ad oa out m') := hD
  refine lv_istore (lv' := [(6, .int r'), (5, .int 1), (4, .int (lw_i j)), (3, .ref oa), (2, .ref (ad 0)), (1, .ref h9), (0, .ref b)]) K.hx K.hb dL_law_694 hl (by decide) rfl (fun ls hl => ?_)
  refine lv_aload_n K.hx K.hb dL_law_696 rfl (lv_at hl 4 rfl) ?_
  have hPc : va_P D vwCl (wMt cI cJ ad m') _ := kp_r hP
  have hDc : va_D A (wMt cI cJ ad m') := kd_r hD
  refine kj_i2 (k_rV (As := []) (rest := []) ⟨K.hx, K.hb, K.hml, K.hown, K.hts⟩ K.hK K.hN hPc hDc zM_thrown (cwV 0 K.hts gL_law_X10_thrown rfl rfl rfl (by decide +kernel) ⟨Nat.le_of_ble_eq_true rfl, Nat.le_of_ble_eq_true rfl⟩) rfl rfl rfl hl.1 rfl (Nat.le_of_ble_eq_true rfl) dL_law_697 (lw_fit hf)) hP hD hS K.hA (fun H locs hP hD hS => ?_)
  have hP : va_P D vwCl (wLw cI cJ cC cG h9 hn ap ht h0 pc u x ad oa out m') H := hP
  have hD : va_D A (wLw cI cJ cC cG h9 hn ap ht h0 pc u x ad oa out m') := hD
  refine lv_iload K.hx K.hb dL_law_700 (lv_at hl 1 rfl) ?_
  refine lv_icmp_eq (tgt := 707) K.hx K.hb dL_law_702 (by decide) (fun cc => ?_) (fun cc => absurd h3 cc)
  refine lv_iload K.hx K.hb dL_law_707 (lv_at hl 1 rfl) ?_
  refine lv_if_ne (tgt := 724) K.hx K.hb dL_law_709 (by decide) (fun cc => ?_) (fun cc => absurd cc (by decide))
  refine lv_goto (tgt := 2028) K.hx K.hb dL_law_724 (by decide) ?_
  exact kk H locs ls hP hD hS (lv_sub hl [2, 3, 4, 5, 6] rfl)
set_option maxHeartbeats 8000000 in
set_option maxRecDepth 100000 in
theorem wlT_append_2 {p : Program} {l : Launch} {e : Env} {s : State} {m : MethodId} {b L : Nat} {xs : Nat → Int32} {below : List Frame} {meth : Method} {c : Code} {A : Nat → Prop} {D : va_G} {cI cJ cC cG : ClassId} {h9 hn h0 : Nat} {ap ht pc : Nat → Nat} {u : lwH} {x : XT} {m1 : MT} {ad : Nat → Nat} {oa : Nat} {out : Nat → Int64} {H : Heap} {locs : List Loc} {ls : Array Slot} {Q : State → Prop} {C S j : Nat} (K : lwK p l s m b L xs meth c A D cI cJ cC cG) (hP : va_P D vwCl (wLw cI cJ cC cG h9 hn ap ht h0 pc u x ad oa out m1) H) (hD : va_D A (wLw cI cJ cC cG h9 hn ap ht h0 pc u x ad oa out m1)) (hS : va_S A s.heap H locs) (hl : lv_has ls 9 (lw_lv b h9 (ad 0) oa j)) (hj : j + 4 ≤ L) (hL : L ≤ 2048) {r' : Int32} {m' : MT} (hf : C + 1 ≤ room_1.cells ∧ S + 6 ≤ room_1.slots) (h1 : XT_append x (xs (j + 1)) = some "java/lang/IllegalStateException") (h2 : MN_append m1 (xs (j + 1)) = some (r', m')) (h3 : thr m' = 2) (kk : ∀ (H : Heap) (locs : List Loc) (ls : Array Slot), va_P D vwCl (wLw cI cJ cC cG h9 hn ap ht h0 pc u x ad oa out m') H → va_D A (wLw cI cJ cC cG h9 hn ap ht h0 pc u x ad oa out m') → va_S A s.heap H locs → lv_has ls 9 (lw_lv b h9 (ad 0) oa j) → W p l e room_1 s m #[Value.ref b] below meth c H locs (C + 1) (S + 6) Q (F0 m 2028 ls [])) : W p l e room_1 s m #[Value.ref b] below meth c H locs C S Q (F0 m 671 ls []) := by
  have hl : lv_has ls 9 [(4, .int (lw_i j)), (3, .ref oa), (2, .ref (ad 0)), (1, .ref h9), (0, .ref b)] := hl
  refine lv_aload_n K.hx K.hb dL_law_671 rfl (lv_at hl 3 rfl) ?_
  refine lw_arg1 K hS (lv_at hl 4 rfl) (lv_at hl 0 rfl) hj hL dL_law_672 dL_law_673 dL_law_675 dL_law_676 dL_law_677 ?_
  refine lv_aload_n K.hx K.hb dL_law_678 rfl (lv_at hl 1 rfl) ?_
  have hPc : va_P D vwCl (wX1 cI cJ cC cG h9 hn ap ht h0 pc u x oa out) _ := kp_l hP
  have hDc : va_D A (wX1 cI cJ cC cG h9 hn ap ht h0 pc u x oa out) := kd_l hD
  refine kj_x1 (k_rSWT (As := [.ref h9, .int (xs (j + 1)), .ref oa]) (rest := []) ⟨K.hx, K.hb, K.hml, K.hown, K.hts⟩ K.hK K.hN K.hq hS (kj_F hD hS K.hA) hPc hDc (zBT_append_2 K.hst h1) (vx_cwSW (hh := [(0, 9, 12, 13), (0, 9, 15, 15)]) 3 K.hts gL_law_L_append rfl rfl rfl (by decide +kernel) ⟨Nat.le_of_ble_eq_true rfl, Nat.le_of_ble_eq_true rfl⟩) rfl hl.1 rfl (Nat.le_of_ble_eq_true rfl) dL_law_679 hf) hP hD hS K.hA (fun H locs hP hD hS => ?_)
  have hP : va_P D vwCl (wLw cI cJ cC cG h9 hn ap ht h0 pc u x ad oa out m1) H := hP
  have hD : va_D A (wLw cI cJ cC cG h9 hn ap ht h0 pc u x ad oa out m1) := hD
  refine lv_istore (lv' := [(5, .int 2), (4, .int (lw_i j)), (3, .ref oa), (2, .ref (ad 0)), (1, .ref h9), (0, .ref b)]) K.hx K.hb dL_law_682 hl (by decide) rfl (fun ls hl => ?_)
  refine lv_aload_n K.hx K.hb dL_law_684 rfl (lv_at hl 3 rfl) ?_
  refine lw_arg1 K hS (lv_at hl 5 rfl) (lv_at hl 1 rfl) hj hL dL_law_685 dL_law_686 dL_law_688 dL_law_689 dL_law_690 ?_
  have hPc : va_P D vwCl (wMt cI cJ ad m1) _ := kp_r hP
  have hDc : va_D A (wMt cI cJ ad m1) := kd_r hD
  refine kj_i2 (k_rV (As := [.int (xs (j + 1))]) (rest := []) ⟨K.hx, K.hb, K.hml, K.hown, K.hts⟩ K.hK K.hN hPc hDc (zM_append h2) (cwV 1 K.hts gL_law_X10_append rfl rfl rfl (by decide +kernel) ⟨Nat.le_of_ble_eq_true rfl, Nat.le_of_ble_eq_true rfl⟩) rfl rfl rfl hl.1 rfl (Nat.le_of_ble_eq_true rfl) dL_law_691 (lw_fit hf)) hP hD hS K.hA (fun H locs hP hD hS => ?_)
  have hP : va_P D vwCl (wLw cI cJ cC cG h9 hn ap ht h0 pc u x ad oa out m') H := hP
  have hD : va_D A (wLw cI cJ cC cG h9 hn ap ht h0 pc u x ad oa out m') := hD
  refine lv_istore (lv' := [(6, .int r'), (5, .int 2), (4, .int (lw_i j)), (3, .ref oa), (2, .ref (ad 0)), (1, .ref h9), (0, .ref b)]) K.hx K.hb dL_law_694 hl (by decide) rfl (fun ls hl => ?_)
  refine lv_aload_n K.hx K.hb dL_law_696 rfl (lv_at hl 4 rfl) ?_
  have hPc : va_P D vwCl (wMt cI cJ ad m') _ := kp_r hP
  have hDc : va_D A (wMt cI cJ ad m') := kd_r hD
  refine kj_i2 (k_rV (As := []) (rest := []) ⟨K.hx, K.hb, K.hml, K.hown, K.hts⟩ K.hK K.hN hPc hDc zM_thrown (cwV 0 K.hts gL_law_X10_thrown rfl rfl rfl (by decide +kernel) ⟨Nat.le_of_ble_eq_true rfl, Nat.le_of_ble_eq_true rfl⟩) rfl rfl rfl hl.1 rfl (Nat.le_of_ble_eq_true rfl) dL_law_697 (lw_fit hf)) hP hD hS K.hA (fun H locs hP hD hS => ?_)
  have hP : va_P D vwCl (wLw cI cJ cC cG h9 hn ap ht h0 pc u x ad oa out m') H := hP
  have hD : va_D A (wLw cI cJ cC cG h9 hn ap ht h0 pc u x ad oa out m') := hD
  refine lv_iload K.hx K.hb dL_law_700 (lv_at hl 1 rfl) ?_
  refine lv_icmp_eq (tgt := 707) K.hx K.hb dL_law_702 (by decide) (fun cc => ?_) (fun cc => absurd h3 cc)
  refine lv_iload K.hx K.hb dL_law_707 (lv_at hl 1 rfl) ?_
  refine lv_if_ne (tgt := 724) K.hx K.hb dL_law_709 (by decide) (fun cc => ?_) (fun cc => absurd cc (by decide))
  refine lv_goto (tgt := 2028) K.hx K.hb dL_law_724 (by decide) ?_
  exact kk H locs ls hP hD hS (lv_sub hl [2, 3, 4, 5, 6] rfl)
set_option maxHeartbeats 8000000 in
set_option maxRecDepth 100000 in
theorem wl_clearBuffer {p : Program} {l : Launch} {e : Env} {s : State} {m : MethodId} {b L : Nat} {xs : Nat → Int32} {below : List Frame} {meth : Method} {c : Code} {A : Nat → Prop} {D : va_G} {cI cJ cC cG : ClassId} {h9 hn h0 : Nat} {ap ht pc : Nat → Nat} {u : lwH} {x : XT} {m1 : MT} {ad : Nat → Nat} {oa : Nat} {out : Nat → Int64} {H : Heap} {locs : List Loc} {ls : Array Slot} {Q : State → Prop} {C S j : Nat} (K : lwK p l s m b L xs meth c A D cI cJ cC cG) (hP : va_P D vwCl (wLw cI cJ cC cG h9 hn ap ht h0 pc u x ad oa out m1) H) (hD : va_D A (wLw cI cJ cC cG h9 hn ap ht h0 pc u x ad oa out m1)) (hS : va_S A s.heap H locs) (hl : lv_has ls 9 (lw_lv b h9 (ad 0) oa j)) (hj : j + 4 ≤ L) (hL : L ≤ 2048) {r : Int32} {x' : XT} {r' : Int32} {m' : MT} (hf : C + 0 ≤ room_1.cells ∧ S + 0 ≤ room_1.slots) (h1 : XN_clearBuffer x = some (r, x')) (h2 : MN_clearBuffer m1 = some (r', m')) (h4 : r = r') (kk : ∀ (u : lwH) (H : Heap) (locs : List Loc) (ls : Array Slot), va_P D vwCl (wLw cI cJ cC cG h9 hn ap ht h0 pc u x' ad oa out m') H → va_D A (wLw cI cJ cC cG h9 hn ap ht h0 pc u x' ad oa out m') → va_S A s.heap H locs → lv_has ls 9 (lw_lv b h9 (ad 0) oa j) → W p l e room_1 s m #[Value.ref b] below meth c H locs C S Q (F0 m 2028 ls [])) : W p l e room_1 s m #[Value.ref b] below meth c H locs C S Q (F0 m 727 ls []) := by
  have hl : lv_has ls 9 [(4, .int (lw_i j)), (3, .ref oa), (2, .ref (ad 0)), (1, .ref h9), (0, .ref b)] := hl
  refine lv_aload_n K.hx K.hb dL_law_727 rfl (lv_at hl 3 rfl) ?_
  have hP := kp_a hP
  have hD := kd_a hD
  have hPc : va_P D vwCl (wXt cI cJ cC cG h9 hn ap (u.1) ht h0 (u.2.1) (u.2.2.1) pc (u.2.2.2) x) _ := kp_l hP
  have hDc : va_D A (wXt cI cJ cC cG h9 hn ap (u.1) ht h0 (u.2.1) (u.2.2.1) pc (u.2.2.2) x) := kd_l hD
  refine kj_i1 (k_rV (As := []) (rest := []) ⟨K.hx, K.hb, K.hml, K.hown, K.hts⟩ K.hK K.hN hPc hDc (zB_clearBuffer h1) (cwV 0 K.hts gL_law_X9_clearBuffer rfl rfl rfl (by decide +kernel) ⟨Nat.le_of_ble_eq_true rfl, Nat.le_of_ble_eq_true rfl⟩) rfl rfl rfl hl.1 rfl (Nat.le_of_ble_eq_true rfl) dL_law_728 hf) hP hD hS K.hA (fun u H locs hP hD hS => ?_)
  have hP : va_P D vwCl (wLw cI cJ cC cG h9 hn ap ht h0 pc u x' ad oa out m1) H := kp_b hP
  have hD : va_D A (wLw cI cJ cC cG h9 hn ap ht h0 pc u x' ad oa out m1) := kd_b hD
  refine lv_aload_n K.hx K.hb dL_law_731 rfl (lv_at hl 2 rfl) ?_
  have hPc : va_P D vwCl (wMt cI cJ ad m1) _ := kp_r hP
  have hDc : va_D A (wMt cI cJ ad m1) := kd_r hD
  refine kj_i2 (k_rV (As := []) (rest := [.int r]) ⟨K.hx, K.hb, K.hml, K.hown, K.hts⟩ K.hK K.hN hPc hDc (zM_clearBuffer h2) (cwV 0 K.hts gL_law_X10_clearBuffer rfl rfl rfl (by decide +kernel) ⟨Nat.le_of_ble_eq_true rfl, Nat.le_of_ble_eq_true rfl⟩) rfl rfl rfl hl.1 rfl (Nat.le_of_ble_eq_true rfl) dL_law_732 hf) hP hD hS K.hA (fun H locs hP hD hS => ?_)
  have hP : va_P D vwCl (wLw cI cJ cC cG h9 hn ap ht h0 pc u x' ad oa out m') H := hP
  have hD : va_D A (wLw cI cJ cC cG h9 hn ap ht h0 pc u x' ad oa out m') := hD
  refine lv_icmp_eq (tgt := 2028) K.hx K.hb dL_law_735 (by decide) (fun cc => ?_) (fun cc => absurd h4 cc)
  exact kk u H locs ls hP hD hS (lv_sub hl [0, 1, 2, 3, 4] rfl)
set_option maxHeartbeats 8000000 in
set_option maxRecDepth 100000 in
theorem wl_firstError {p : Program} {l : Launch} {e : Env} {s : State} {m : MethodId} {b L : Nat} {xs : Nat → Int32} {below : List Frame} {meth : Method} {c : Code} {A : Nat → Prop} {D : va_G} {cI cJ cC cG : ClassId} {h9 hn h0 : Nat} {ap ht pc : Nat → Nat} {u : lwH} {x : XT} {m1 : MT} {ad : Nat → Nat} {oa : Nat} {out : Nat → Int64} {H : Heap} {locs : List Loc} {ls : Array Slot} {Q : State → Prop} {C S j : Nat} (K : lwK p l s m b L xs meth c A D cI cJ cC cG) (hP : va_P D vwCl (wLw cI cJ cC cG h9 hn ap ht h0 pc u x ad oa out m1) H) (hD : va_D A (wLw cI cJ cC cG h9 hn ap ht h0 pc u x ad oa out m1)) (hS : va_S A s.heap H locs) (hl : lv_has ls 9 (lw_lv b h9 (ad 0) oa j)) (hj : j + 4 ≤ L) (hL : L ≤ 2048) {r : Int32} {x' : XT} {r' : Int32} {m' : MT} (hf : C + 0 ≤ room_1.cells ∧ S + 0 ≤ room_1.slots) (h1 : XN_firstError x = some (r, x')) (h2 : MN_firstError m1 = some (r', m')) (h4 : r = r') (kk : ∀ (u : lwH) (H : Heap) (locs : List Loc) (ls : Array Slot), va_P D vwCl (wLw cI cJ cC cG h9 hn ap ht h0 pc u x' ad oa out m') H → va_D A (wLw cI cJ cC cG h9 hn ap ht h0 pc u x' ad oa out m') → va_S A s.heap H locs → lv_has ls 9 (lw_lv b h9 (ad 0) oa j) → W p l e room_1 s m #[Value.ref b] below meth c H locs C S Q (F0 m 2028 ls [])) : W p l e room_1 s m #[Value.ref b] below meth c H locs C S Q (F0 m 740 ls []) := by
  have hl : lv_has ls 9 [(4, .int (lw_i j)), (3, .ref oa), (2, .ref (ad 0)), (1, .ref h9), (0, .ref b)] := hl
  refine lv_aload_n K.hx K.hb dL_law_740 rfl (lv_at hl 3 rfl) ?_
  have hP := kp_a hP
  have hD := kd_a hD
  have hPc : va_P D vwCl (wXt cI cJ cC cG h9 hn ap (u.1) ht h0 (u.2.1) (u.2.2.1) pc (u.2.2.2) x) _ := kp_l hP
  have hDc : va_D A (wXt cI cJ cC cG h9 hn ap (u.1) ht h0 (u.2.1) (u.2.2.1) pc (u.2.2.2) x) := kd_l hD
  refine kj_i1 (k_rV (As := []) (rest := []) ⟨K.hx, K.hb, K.hml, K.hown, K.hts⟩ K.hK K.hN hPc hDc (zB_firstError h1) (cwV 0 K.hts gL_law_X9_firstError rfl rfl rfl (by decide +kernel) ⟨Nat.le_of_ble_eq_true rfl, Nat.le_of_ble_eq_true rfl⟩) rfl rfl rfl hl.1 rfl (Nat.le_of_ble_eq_true rfl) dL_law_741 hf) hP hD hS K.hA (fun u H locs hP hD hS => ?_)
  have hP : va_P D vwCl (wLw cI cJ cC cG h9 hn ap ht h0 pc u x' ad oa out m1) H := kp_b hP
  have hD : va_D A (wLw cI cJ cC cG h9 hn ap ht h0 pc u x' ad oa out m1) := kd_b hD
  refine lv_aload_n K.hx K.hb dL_law_744 rfl (lv_at hl 2 rfl) ?_
  have hPc : va_P D vwCl (wMt cI cJ ad m1) _ := kp_r hP
  have hDc : va_D A (wMt cI cJ ad m1) := kd_r hD
  refine kj_i2 (k_rV (As := []) (rest := [.int r]) ⟨K.hx, K.hb, K.hml, K.hown, K.hts⟩ K.hK K.hN hPc hDc (zM_firstError h2) (cwV 0 K.hts gL_law_X10_firstError rfl rfl rfl (by decide +kernel) ⟨Nat.le_of_ble_eq_true rfl, Nat.le_of_ble_eq_true rfl⟩) rfl rfl rfl hl.1 rfl (Nat.le_of_ble_eq_true rfl) dL_law_745 hf) hP hD hS K.hA (fun H locs hP hD hS => ?_)
  have hP : va_P D vwCl (wLw cI cJ cC cG h9 hn ap ht h0 pc u x' ad oa out m') H := hP
  have hD : va_D A (wLw cI cJ cC cG h9 hn ap ht h0 pc u x' ad oa out m') := hD
  refine lv_icmp_eq (tgt := 2028) K.hx K.hb dL_law_748 (by decide) (fun cc => ?_) (fun cc => absurd h4 cc)
  exact kk u H locs ls hP hD hS (lv_sub hl [0, 1, 2, 3, 4] rfl)
set_option maxHeartbeats 8000000 in
set_option maxRecDepth 100000 in
theorem wl_play {p : Program} {l : Launch} {e : Env} {s : State} {m : MethodId} {b L : Nat} {xs : Nat → Int32} {below : List Frame} {meth : Method} {c : Code} {A : Nat → Prop} {D : va_G} {cI cJ cC cG : ClassId} {h9 hn h0 : Nat} {ap ht pc : Nat → Nat} {u : lwH} {x : XT} {m1 : MT} {ad : Nat → Nat} {oa : Nat} {out : Nat → Int64} {H : Heap} {locs : List Loc} {ls : Array Slot} {Q : State → Prop} {C S j : Nat} (K : lwK p l s m b L xs meth c A D cI cJ cC cG) (hP : va_P D vwCl (wLw cI cJ cC cG h9 hn ap ht h0 pc u x ad oa out m1) H) (hD : va_D A (wLw cI cJ cC cG h9 hn ap ht h0 pc u x ad oa out m1)) (hS : va_S A s.heap H locs) (hl : lv_has ls 9 (lw_lv b h9 (ad 0) oa j)) (hj : j + 4 ≤ L) (hL : L ≤ 2048) {r : Int32} {x' : XT} {r' : Int32} {m' : MT} (hf : C + 0 ≤ room_1.cells ∧ S + 0 ≤ room_1.slots) (h1 : XN_play x = some (r, x')) (h2 : MN_play m1 = some (r', m')) (h3 : thr m' = 0) (h4 : (Int32.toInt64 r) = Int32.toInt64 r') (kk : ∀ (u : lwH) (H : Heap) (locs : List Loc) (ls : Array Slot), va_P D vwCl (wLw cI cJ cC cG h9 hn ap ht h0 pc u x' ad oa (vp_updL out (Int32.toNatClampNeg 0) (Int32.toInt64 r)) m') H → va_D A (wLw cI cJ cC cG h9 hn ap ht h0 pc u x' ad oa (vp_updL out (Int32.toNatClampNeg 0) (Int32.toInt64 r)) m') → va_S A s.heap H locs → lv_has ls 9 (lw_lv b h9 (ad 0) oa j) → W p l e room_1 s m #[Value.ref b] below meth c H locs C S Q (F0 m 2028 ls [])) : W p l e room_1 s m #[Value.ref b] below meth c H locs C S Q (F0 m 753 ls []) := by
  have hl : lv_has ls 9 [(4, .int (lw_i j)), (3, .ref oa), (2, .ref (ad 0)), (1, .ref h9), (0, .ref b)] := hl
  refine lv_aload_n K.hx K.hb dL_law_753 rfl (lv_at hl 3 rfl) ?_
  refine lv_aload_n K.hx K.hb dL_law_754 rfl (lv_at hl 1 rfl) ?_
  have hPc : va_P D vwCl (wX1 cI cJ cC cG h9 hn ap ht h0 pc u x oa out) _ := kp_l hP
  have hDc : va_D A (wX1 cI cJ cC cG h9 hn ap ht h0 pc u x oa out) := kd_l hD
  refine kj_i1 (k_rSW (As := [.ref h9, .ref oa]) (rest := []) ⟨K.hx, K.hb, K.hml, K.hown, K.hts⟩ K.hK K.hN hPc hDc (zB_play h1) (vx_cwSW (hh := [(0, 8, 11, 13)]) 2 K.hts gL_law_L_play rfl rfl rfl (by decide +kernel) ⟨Nat.le_of_ble_eq_true rfl, Nat.le_of_ble_eq_true rfl⟩) rfl hl.1 rfl (Nat.le_of_ble_eq_true rfl) dL_law_755 hf) hP hD hS K.hA (fun u H locs hP hD hS => ?_)
  have hP : va_P D vwCl (wLw cI cJ cC cG h9 hn ap ht h0 pc u x' ad oa (vp_updL out (Int32.toNatClampNeg 0) (Int32.toInt64 r)) m1) H := hP
  have hD : va_D A (wLw cI cJ cC cG h9 hn ap ht h0 pc u x' ad oa (vp_updL out (Int32.toNatClampNeg 0) (Int32.toInt64 r)) m1) := hD
  refine lv_istore (lv' := [(5, .int 0), (4, .int (lw_i j)), (3, .ref oa), (2, .ref (ad 0)), (1, .ref h9), (0, .ref b)]) K.hx K.hb dL_law_758 hl (by decide) rfl (fun ls hl => ?_)
  refine lv_aload_n K.hx K.hb dL_law_760 rfl (lv_at hl 3 rfl) ?_
  have hPc : va_P D vwCl (wMt cI cJ ad m1) _ := kp_r hP
  have hDc : va_D A (wMt cI cJ ad m1) := kd_r hD
  refine kj_i2 (k_rV (As := []) (rest := []) ⟨K.hx, K.hb, K.hml, K.hown, K.hts⟩ K.hK K.hN hPc hDc (zM_play h2) (cwV 0 K.hts gL_law_X10_play rfl rfl rfl (by decide +kernel) ⟨Nat.le_of_ble_eq_true rfl, Nat.le_of_ble_eq_true rfl⟩) rfl rfl rfl hl.1 rfl (Nat.le_of_ble_eq_true rfl) dL_law_761 hf) hP hD hS K.hA (fun H locs hP hD hS => ?_)
  have hP : va_P D vwCl (wLw cI cJ cC cG h9 hn ap ht h0 pc u x' ad oa (vp_updL out (Int32.toNatClampNeg 0) (Int32.toInt64 r)) m') H := hP
  have hD : va_D A (wLw cI cJ cC cG h9 hn ap ht h0 pc u x' ad oa (vp_updL out (Int32.toNatClampNeg 0) (Int32.toInt64 r)) m') := hD
  refine lv_istore (lv' := [(6, .int r'), (5, .int 0), (4, .int (lw_i j)), (3, .ref oa), (2, .ref (ad 0)), (1, .ref h9), (0, .ref b)]) K.hx K.hb dL_law_764 hl (by decide) rfl (fun ls hl => ?_)
  refine lv_aload_n K.hx K.hb dL_law_766 rfl (lv_at hl 4 rfl) ?_
  have hPc : va_P D vwCl (wMt cI cJ ad m') _ := kp_r hP
  have hDc : va_D A (wMt cI cJ ad m') := kd_r hD
  refine kj_i2 (k_rV (As := []) (rest := []) ⟨K.hx, K.hb, K.hml, K.hown, K.hts⟩ K.hK K.hN hPc hDc zM_thrown (cwV 0 K.hts gL_law_X10_thrown rfl rfl rfl (by decide +kernel) ⟨Nat.le_of_ble_eq_true rfl, Nat.le_of_ble_eq_true rfl⟩) rfl rfl rfl hl.1 rfl (Nat.le_of_ble_eq_true rfl) dL_law_767 hf) hP hD hS K.hA (fun H locs hP hD hS => ?_)
  have hP : va_P D vwCl (wLw cI cJ cC cG h9 hn ap ht h0 pc u x' ad oa (vp_updL out (Int32.toNatClampNeg 0) (Int32.toInt64 r)) m') H := hP
  have hD : va_D A (wLw cI cJ cC cG h9 hn ap ht h0 pc u x' ad oa (vp_updL out (Int32.toNatClampNeg 0) (Int32.toInt64 r)) m') := hD
  refine lv_iload K.hx K.hb dL_law_770 (lv_at hl 1 rfl) ?_
  refine lv_icmp_eq (tgt := 777) K.hx K.hb dL_law_772 (by decide) (fun cc => ?_) (fun cc => absurd h3 cc)
  refine lv_iload K.hx K.hb dL_law_777 (lv_at hl 1 rfl) ?_
  refine lv_if_ne (tgt := 794) K.hx K.hb dL_law_779 (by decide) (fun cc => absurd rfl cc) (fun cc => ?_)
  refine lv_aload_n K.hx K.hb dL_law_782 rfl (lv_at hl 3 rfl) ?_
  refine lv_iconst (v := 0) K.hx K.hb dL_law_783 (by decide) ?_
  refine va_lald K.hx K.hb K.hK hP 25 1 rfl rfl kv_01 dL_law_784 ?_
  refine W.eq (g2 := F0 m 785 _ (.long (Int32.toInt64 r) :: [])) (by rw [lw_out]) ?_
  refine lv_iload K.hx K.hb dL_law_785 (lv_at hl 0 rfl) ?_
  refine lv_i2l (v := Int32.toInt64 r') K.hx K.hb dL_law_787 rfl ?_
  refine W.lcmp K.hx K.hb dL_law_788 ?_
  refine lv_if_eq (tgt := 794) K.hx K.hb dL_law_789 (by decide) (fun cc => ?_) (fun cc => absurd (lw_ceq h4) cc)
  refine lv_goto (tgt := 2028) K.hx K.hb dL_law_794 (by decide) ?_
  exact kk u H locs ls hP hD hS (lv_sub hl [2, 3, 4, 5, 6] rfl)
set_option maxHeartbeats 8000000 in
set_option maxRecDepth 100000 in
theorem wlT_play_1 {p : Program} {l : Launch} {e : Env} {s : State} {m : MethodId} {b L : Nat} {xs : Nat → Int32} {below : List Frame} {meth : Method} {c : Code} {A : Nat → Prop} {D : va_G} {cI cJ cC cG : ClassId} {h9 hn h0 : Nat} {ap ht pc : Nat → Nat} {u : lwH} {x : XT} {m1 : MT} {ad : Nat → Nat} {oa : Nat} {out : Nat → Int64} {H : Heap} {locs : List Loc} {ls : Array Slot} {Q : State → Prop} {C S j : Nat} (K : lwK p l s m b L xs meth c A D cI cJ cC cG) (hP : va_P D vwCl (wLw cI cJ cC cG h9 hn ap ht h0 pc u x ad oa out m1) H) (hD : va_D A (wLw cI cJ cC cG h9 hn ap ht h0 pc u x ad oa out m1)) (hS : va_S A s.heap H locs) (hl : lv_has ls 9 (lw_lv b h9 (ad 0) oa j)) (hj : j + 4 ≤ L) (hL : L ≤ 2048) {r' : Int32} {m' : MT} (hf : C + 1 ≤ room_1.cells ∧ S + 6 ≤ room_1.slots) (h1 : XT_play x = some "java/lang/IllegalArgumentException") (h2 : MN_play m1 = some (r', m')) (h3 : thr m' = 1) (kk : ∀ (H : Heap) (locs : List Loc) (ls : Array Slot), va_P D vwCl (wLw cI cJ cC cG h9 hn ap ht h0 pc u x ad oa out m') H → va_D A (wLw cI cJ cC cG h9 hn ap ht h0 pc u x ad oa out m') → va_S A s.heap H locs → lv_has ls 9 (lw_lv b h9 (ad 0) oa j) → W p l e room_1 s m #[Value.ref b] below meth c H locs (C + 1) (S + 6) Q (F0 m 2028 ls [])) : W p l e room_1 s m #[Value.ref b] below meth c H locs C S Q (F0 m 753 ls []) := by
  have hl : lv_has ls 9 [(4, .int (lw_i j)), (3, .ref oa), (2, .ref (ad 0)), (1, .ref h9), (0, .ref b)] := hl
  refine lv_aload_n K.hx K.hb dL_law_753 rfl (lv_at hl 3 rfl) ?_
  refine lv_aload_n K.hx K.hb dL_law_754 rfl (lv_at hl 1 rfl) ?_
  have hPc : va_P D vwCl (wX1 cI cJ cC cG h9 hn ap ht h0 pc u x oa out) _ := kp_l hP
  have hDc : va_D A (wX1 cI cJ cC cG h9 hn ap ht h0 pc u x oa out) := kd_l hD
  refine kj_x1 (k_rSWT (As := [.ref h9, .ref oa]) (rest := []) ⟨K.hx, K.hb, K.hml, K.hown, K.hts⟩ K.hK K.hN K.hq hS (kj_F hD hS K.hA) hPc hDc (zBT_play_1 K.hst h1) (vx_cwSW (hh := [(0, 8, 11, 13)]) 2 K.hts gL_law_L_play rfl rfl rfl (by decide +kernel) ⟨Nat.le_of_ble_eq_true rfl, Nat.le_of_ble_eq_true rfl⟩) rfl hl.1 rfl (Nat.le_of_ble_eq_true rfl) dL_law_755 hf) hP hD hS K.hA (fun H locs hP hD hS => ?_)
  have hP : va_P D vwCl (wLw cI cJ cC cG h9 hn ap ht h0 pc u x ad oa out m1) H := hP
  have hD : va_D A (wLw cI cJ cC cG h9 hn ap ht h0 pc u x ad oa out m1) := hD
  refine lv_istore (lv' := [(5, .int 1), (4, .int (lw_i j)), (3, .ref oa), (2, .ref (ad 0)), (1, .ref h9), (0, .ref b)]) K.hx K.hb dL_law_758 hl (by decide) rfl (fun ls hl => ?_)
  refine lv_aload_n K.hx K.hb dL_law_760 rfl (lv_at hl 3 rfl) ?_
  have hPc : va_P D vwCl (wMt cI cJ ad m1) _ := kp_r hP
  have hDc : va_D A (wMt cI cJ ad m1) := kd_r hD
  refine kj_i2 (k_rV (As := []) (rest := []) ⟨K.hx, K.hb, K.hml, K.hown, K.hts⟩ K.hK K.hN hPc hDc (zM_play h2) (cwV 0 K.hts gL_law_X10_play rfl rfl rfl (by decide +kernel) ⟨Nat.le_of_ble_eq_true rfl, Nat.le_of_ble_eq_true rfl⟩) rfl rfl rfl hl.1 rfl (Nat.le_of_ble_eq_true rfl) dL_law_761 (lw_fit hf)) hP hD hS K.hA (fun H locs hP hD hS => ?_)
  have hP : va_P D vwCl (wLw cI cJ cC cG h9 hn ap ht h0 pc u x ad oa out m') H := hP
  have hD : va_D A (wLw cI cJ cC cG h9 hn ap ht h0 pc u x ad oa out m') := hD
  refine lv_istore (lv' := [(6, .int r'), (5, .int 1), (4, .int (lw_i j)), (3, .ref oa), (2, .ref (ad 0)), (1, .ref h9), (0, .ref b)]) K.hx K.hb dL_law_764 hl (by decide) rfl (fun ls hl => ?_)
  refine lv_aload_n K.hx K.hb dL_law_766 rfl (lv_at hl 4 rfl) ?_
  have hPc : va_P D vwCl (wMt cI cJ ad m') _ := kp_r hP
  have hDc : va_D A (wMt cI cJ ad m') := kd_r hD
  refine kj_i2 (k_rV (As := []) (rest := []) ⟨K.hx, K.hb, K.hml, K.hown, K.hts⟩ K.hK K.hN hPc hDc zM_thrown (cwV 0 K.hts gL_law_X10_thrown rfl rfl rfl (by decide +kernel) ⟨Nat.le_of_ble_eq_true rfl, Nat.le_of_ble_eq_true rfl⟩) rfl rfl rfl hl.1 rfl (Nat.le_of_ble_eq_true rfl) dL_law_767 (lw_fit hf)) hP hD hS K.hA (fun H locs hP hD hS => ?_)
  have hP : va_P D vwCl (wLw cI cJ cC cG h9 hn ap ht h0 pc u x ad oa out m') H := hP
  have hD : va_D A (wLw cI cJ cC cG h9 hn ap ht h0 pc u x ad oa out m') := hD
  refine lv_iload K.hx K.hb dL_law_770 (lv_at hl 1 rfl) ?_
  refine lv_icmp_eq (tgt := 777) K.hx K.hb dL_law_772 (by decide) (fun cc => ?_) (fun cc => absurd h3 cc)
  refine lv_iload K.hx K.hb dL_law_777 (lv_at hl 1 rfl) ?_
  refine lv_if_ne (tgt := 794) K.hx K.hb dL_law_779 (by decide) (fun cc => ?_) (fun cc => absurd cc (by decide))
  refine lv_goto (tgt := 2028) K.hx K.hb dL_law_794 (by decide) ?_
  exact kk H locs ls hP hD hS (lv_sub hl [2, 3, 4, 5, 6] rfl)
set_option maxHeartbeats 8000000 in
set_option maxRecDepth 100000 in
theorem wl_hasStopped {p : Program} {l : Launch} {e : Env} {s : State} {m : MethodId} {b L : Nat} {xs : Nat → Int32} {below : List Frame} {meth : Method} {c : Code} {A : Nat → Prop} {D : va_G} {cI cJ cC cG : ClassId} {h9 hn h0 : Nat} {ap ht pc : Nat → Nat} {u : lwH} {x : XT} {m1 : MT} {ad : Nat → Nat} {oa : Nat} {out : Nat → Int64} {H : Heap} {locs : List Loc} {ls : Array Slot} {Q : State → Prop} {C S j : Nat} (K : lwK p l s m b L xs meth c A D cI cJ cC cG) (hP : va_P D vwCl (wLw cI cJ cC cG h9 hn ap ht h0 pc u x ad oa out m1) H) (hD : va_D A (wLw cI cJ cC cG h9 hn ap ht h0 pc u x ad oa out m1)) (hS : va_S A s.heap H locs) (hl : lv_has ls 9 (lw_lv b h9 (ad 0) oa j)) (hj : j + 4 ≤ L) (hL : L ≤ 2048) {r : Bool} {x' : XT} {r' : Bool} {m' : MT} (hf : C + 0 ≤ room_1.cells ∧ S + 0 ≤ room_1.slots) (h1 : XN_hasStopped x = some (r, x')) (h2 : MN_hasStopped m1 = some (r', m')) (h4 : r = r') (kk : ∀ (u : lwH) (H : Heap) (locs : List Loc) (ls : Array Slot), va_P D vwCl (wLw cI cJ cC cG h9 hn ap ht h0 pc u x' ad oa out m') H → va_D A (wLw cI cJ cC cG h9 hn ap ht h0 pc u x' ad oa out m') → va_S A s.heap H locs → lv_has ls 9 (lw_lv b h9 (ad 0) oa j) → W p l e room_1 s m #[Value.ref b] below meth c H locs C S Q (F0 m 2028 ls [])) : W p l e room_1 s m #[Value.ref b] below meth c H locs C S Q (F0 m 797 ls []) := by
  have hl : lv_has ls 9 [(4, .int (lw_i j)), (3, .ref oa), (2, .ref (ad 0)), (1, .ref h9), (0, .ref b)] := hl
  refine lv_aload_n K.hx K.hb dL_law_797 rfl (lv_at hl 3 rfl) ?_
  have hP := kp_a hP
  have hD := kd_a hD
  have hPc : va_P D vwCl (wXt cI cJ cC cG h9 hn ap (u.1) ht h0 (u.2.1) (u.2.2.1) pc (u.2.2.2) x) _ := kp_l hP
  have hDc : va_D A (wXt cI cJ cC cG h9 hn ap (u.1) ht h0 (u.2.1) (u.2.2.1) pc (u.2.2.2) x) := kd_l hD
  refine kj_i1 (k_rV (As := []) (rest := []) ⟨K.hx, K.hb, K.hml, K.hown, K.hts⟩ K.hK K.hN hPc hDc (zB_hasStopped h1) (cwV 0 K.hts gL_law_X9_hasStopped rfl rfl rfl (by decide +kernel) ⟨Nat.le_of_ble_eq_true rfl, Nat.le_of_ble_eq_true rfl⟩) rfl rfl rfl hl.1 rfl (Nat.le_of_ble_eq_true rfl) dL_law_798 hf) hP hD hS K.hA (fun u H locs hP hD hS => ?_)
  have hP : va_P D vwCl (wLw cI cJ cC cG h9 hn ap ht h0 pc u x' ad oa out m1) H := kp_b hP
  have hD : va_D A (wLw cI cJ cC cG h9 hn ap ht h0 pc u x' ad oa out m1) := kd_b hD
  refine lv_aload_n K.hx K.hb dL_law_801 rfl (lv_at hl 2 rfl) ?_
  have hPc : va_P D vwCl (wMt cI cJ ad m1) _ := kp_r hP
  have hDc : va_D A (wMt cI cJ ad m1) := kd_r hD
  refine kj_i2 (k_rV (As := []) (rest := [.int (k_b r)]) ⟨K.hx, K.hb, K.hml, K.hown, K.hts⟩ K.hK K.hN hPc hDc (zM_hasStopped h2) (cwV 0 K.hts gL_law_X10_hasStopped rfl rfl rfl (by decide +kernel) ⟨Nat.le_of_ble_eq_true rfl, Nat.le_of_ble_eq_true rfl⟩) rfl rfl rfl hl.1 rfl (Nat.le_of_ble_eq_true rfl) dL_law_802 hf) hP hD hS K.hA (fun H locs hP hD hS => ?_)
  have hP : va_P D vwCl (wLw cI cJ cC cG h9 hn ap ht h0 pc u x' ad oa out m') H := hP
  have hD : va_D A (wLw cI cJ cC cG h9 hn ap ht h0 pc u x' ad oa out m') := hD
  refine lv_icmp_eq (tgt := 2028) K.hx K.hb dL_law_805 (by decide) (fun cc => ?_) (fun cc => absurd (congrArg k_b h4) cc)
  exact kk u H locs ls hP hD hS (lv_sub hl [0, 1, 2, 3, 4] rfl)
set_option maxHeartbeats 8000000 in
set_option maxRecDepth 100000 in
theorem wl_stoppedPart {p : Program} {l : Launch} {e : Env} {s : State} {m : MethodId} {b L : Nat} {xs : Nat → Int32} {below : List Frame} {meth : Method} {c : Code} {A : Nat → Prop} {D : va_G} {cI cJ cC cG : ClassId} {h9 hn h0 : Nat} {ap ht pc : Nat → Nat} {u : lwH} {x : XT} {m1 : MT} {ad : Nat → Nat} {oa : Nat} {out : Nat → Int64} {H : Heap} {locs : List Loc} {ls : Array Slot} {Q : State → Prop} {C S j : Nat} (K : lwK p l s m b L xs meth c A D cI cJ cC cG) (hP : va_P D vwCl (wLw cI cJ cC cG h9 hn ap ht h0 pc u x ad oa out m1) H) (hD : va_D A (wLw cI cJ cC cG h9 hn ap ht h0 pc u x ad oa out m1)) (hS : va_S A s.heap H locs) (hl : lv_has ls 9 (lw_lv b h9 (ad 0) oa j)) (hj : j + 4 ≤ L) (hL : L ≤ 2048) {r : Int32} {x' : XT} {r' : Int32} {m' : MT} (hf : C + 0 ≤ room_1.cells ∧ S + 0 ≤ room_1.slots) (h1 : XN_stoppedPart x = some (r, x')) (h2 : MN_stoppedPart m1 = some (r', m')) (h3 : thr m' = 0) (h4 : (Int32.toInt64 r) = Int32.toInt64 r') (kk : ∀ (u : lwH) (H : Heap) (locs : List Loc) (ls : Array Slot), va_P D vwCl (wLw cI cJ cC cG h9 hn ap ht h0 pc u x' ad oa (vp_updL out (Int32.toNatClampNeg 0) (Int32.toInt64 r)) m') H → va_D A (wLw cI cJ cC cG h9 hn ap ht h0 pc u x' ad oa (vp_updL out (Int32.toNatClampNeg 0) (Int32.toInt64 r)) m') → va_S A s.heap H locs → lv_has ls 9 (lw_lv b h9 (ad 0) oa j) → W p l e room_1 s m #[Value.ref b] below meth c H locs C S Q (F0 m 2028 ls [])) : W p l e room_1 s m #[Value.ref b] below meth c H locs C S Q (F0 m 810 ls []) := by
  have hl : lv_has ls 9 [(4, .int (lw_i j)), (3, .ref oa), (2, .ref (ad 0)), (1, .ref h9), (0, .ref b)] := hl
  refine lv_aload_n K.hx K.hb dL_law_810 rfl (lv_at hl 3 rfl) ?_
  refine lv_aload_n K.hx K.hb dL_law_811 rfl (lv_at hl 1 rfl) ?_
  have hPc : va_P D vwCl (wX1 cI cJ cC cG h9 hn ap ht h0 pc u x oa out) _ := kp_l hP
  have hDc : va_D A (wX1 cI cJ cC cG h9 hn ap ht h0 pc u x oa out) := kd_l hD
  refine kj_i1 (k_rSW (As := [.ref h9, .ref oa]) (rest := []) ⟨K.hx, K.hb, K.hml, K.hown, K.hts⟩ K.hK K.hN hPc hDc (zB_stoppedPart h1) (vx_cwSW (hh := [(0, 8, 11, 15)]) 2 K.hts gL_law_L_stoppedPart rfl rfl rfl (by decide +kernel) ⟨Nat.le_of_ble_eq_true rfl, Nat.le_of_ble_eq_true rfl⟩) rfl hl.1 rfl (Nat.le_of_ble_eq_true rfl) dL_law_812 hf) hP hD hS K.hA (fun u H locs hP hD hS => ?_)
  have hP : va_P D vwCl (wLw cI cJ cC cG h9 hn ap ht h0 pc u x' ad oa (vp_updL out (Int32.toNatClampNeg 0) (Int32.toInt64 r)) m1) H := hP
  have hD : va_D A (wLw cI cJ cC cG h9 hn ap ht h0 pc u x' ad oa (vp_updL out (Int32.toNatClampNeg 0) (Int32.toInt64 r)) m1) := hD
  refine lv_istore (lv' := [(5, .int 0), (4, .int (lw_i j)), (3, .ref oa), (2, .ref (ad 0)), (1, .ref h9), (0, .ref b)]) K.hx K.hb dL_law_815 hl (by decide) rfl (fun ls hl => ?_)
  refine lv_aload_n K.hx K.hb dL_law_817 rfl (lv_at hl 3 rfl) ?_
  have hPc : va_P D vwCl (wMt cI cJ ad m1) _ := kp_r hP
  have hDc : va_D A (wMt cI cJ ad m1) := kd_r hD
  refine kj_i2 (k_rV (As := []) (rest := []) ⟨K.hx, K.hb, K.hml, K.hown, K.hts⟩ K.hK K.hN hPc hDc (zM_stoppedPart h2) (cwV 0 K.hts gL_law_X10_stoppedPart rfl rfl rfl (by decide +kernel) ⟨Nat.le_of_ble_eq_true rfl, Nat.le_of_ble_eq_true rfl⟩) rfl rfl rfl hl.1 rfl (Nat.le_of_ble_eq_true rfl) dL_law_818 hf) hP hD hS K.hA (fun H locs hP hD hS => ?_)
  have hP : va_P D vwCl (wLw cI cJ cC cG h9 hn ap ht h0 pc u x' ad oa (vp_updL out (Int32.toNatClampNeg 0) (Int32.toInt64 r)) m') H := hP
  have hD : va_D A (wLw cI cJ cC cG h9 hn ap ht h0 pc u x' ad oa (vp_updL out (Int32.toNatClampNeg 0) (Int32.toInt64 r)) m') := hD
  refine lv_istore (lv' := [(6, .int r'), (5, .int 0), (4, .int (lw_i j)), (3, .ref oa), (2, .ref (ad 0)), (1, .ref h9), (0, .ref b)]) K.hx K.hb dL_law_821 hl (by decide) rfl (fun ls hl => ?_)
  refine lv_aload_n K.hx K.hb dL_law_823 rfl (lv_at hl 4 rfl) ?_
  have hPc : va_P D vwCl (wMt cI cJ ad m') _ := kp_r hP
  have hDc : va_D A (wMt cI cJ ad m') := kd_r hD
  refine kj_i2 (k_rV (As := []) (rest := []) ⟨K.hx, K.hb, K.hml, K.hown, K.hts⟩ K.hK K.hN hPc hDc zM_thrown (cwV 0 K.hts gL_law_X10_thrown rfl rfl rfl (by decide +kernel) ⟨Nat.le_of_ble_eq_true rfl, Nat.le_of_ble_eq_true rfl⟩) rfl rfl rfl hl.1 rfl (Nat.le_of_ble_eq_true rfl) dL_law_824 hf) hP hD hS K.hA (fun H locs hP hD hS => ?_)
  have hP : va_P D vwCl (wLw cI cJ cC cG h9 hn ap ht h0 pc u x' ad oa (vp_updL out (Int32.toNatClampNeg 0) (Int32.toInt64 r)) m') H := hP
  have hD : va_D A (wLw cI cJ cC cG h9 hn ap ht h0 pc u x' ad oa (vp_updL out (Int32.toNatClampNeg 0) (Int32.toInt64 r)) m') := hD
  refine lv_iload K.hx K.hb dL_law_827 (lv_at hl 1 rfl) ?_
  refine lv_icmp_eq (tgt := 834) K.hx K.hb dL_law_829 (by decide) (fun cc => ?_) (fun cc => absurd h3 cc)
  refine lv_iload K.hx K.hb dL_law_834 (lv_at hl 1 rfl) ?_
  refine lv_if_ne (tgt := 851) K.hx K.hb dL_law_836 (by decide) (fun cc => absurd rfl cc) (fun cc => ?_)
  refine lv_aload_n K.hx K.hb dL_law_839 rfl (lv_at hl 3 rfl) ?_
  refine lv_iconst (v := 0) K.hx K.hb dL_law_840 (by decide) ?_
  refine va_lald K.hx K.hb K.hK hP 25 1 rfl rfl kv_01 dL_law_841 ?_
  refine W.eq (g2 := F0 m 842 _ (.long (Int32.toInt64 r) :: [])) (by rw [lw_out]) ?_
  refine lv_iload K.hx K.hb dL_law_842 (lv_at hl 0 rfl) ?_
  refine lv_i2l (v := Int32.toInt64 r') K.hx K.hb dL_law_844 rfl ?_
  refine W.lcmp K.hx K.hb dL_law_845 ?_
  refine lv_if_eq (tgt := 851) K.hx K.hb dL_law_846 (by decide) (fun cc => ?_) (fun cc => absurd (lw_ceq h4) cc)
  refine lv_goto (tgt := 2028) K.hx K.hb dL_law_851 (by decide) ?_
  exact kk u H locs ls hP hD hS (lv_sub hl [2, 3, 4, 5, 6] rfl)
set_option maxHeartbeats 8000000 in
set_option maxRecDepth 100000 in
theorem wlT_stoppedPart_1 {p : Program} {l : Launch} {e : Env} {s : State} {m : MethodId} {b L : Nat} {xs : Nat → Int32} {below : List Frame} {meth : Method} {c : Code} {A : Nat → Prop} {D : va_G} {cI cJ cC cG : ClassId} {h9 hn h0 : Nat} {ap ht pc : Nat → Nat} {u : lwH} {x : XT} {m1 : MT} {ad : Nat → Nat} {oa : Nat} {out : Nat → Int64} {H : Heap} {locs : List Loc} {ls : Array Slot} {Q : State → Prop} {C S j : Nat} (K : lwK p l s m b L xs meth c A D cI cJ cC cG) (hP : va_P D vwCl (wLw cI cJ cC cG h9 hn ap ht h0 pc u x ad oa out m1) H) (hD : va_D A (wLw cI cJ cC cG h9 hn ap ht h0 pc u x ad oa out m1)) (hS : va_S A s.heap H locs) (hl : lv_has ls 9 (lw_lv b h9 (ad 0) oa j)) (hj : j + 4 ≤ L) (hL : L ≤ 2048) {r' : Int32} {m' : MT} (hf : C + 1 ≤ room_1.cells ∧ S + 6 ≤ room_1.slots) (h1 : XT_stoppedPart x = some "java/lang/IllegalStateException") (h2 : MN_stoppedPart m1 = some (r', m')) (h3 : thr m' = 1) (kk : ∀ (H : Heap) (locs : List Loc) (ls : Array Slot), va_P D vwCl (wLw cI cJ cC cG h9 hn ap ht h0 pc u x ad oa out m') H → va_D A (wLw cI cJ cC cG h9 hn ap ht h0 pc u x ad oa out m') → va_S A s.heap H locs → lv_has ls 9 (lw_lv b h9 (ad 0) oa j) → W p l e room_1 s m #[Value.ref b] below meth c H locs (C + 1) (S + 6) Q (F0 m 2028 ls [])) : W p l e room_1 s m #[Value.ref b] below meth c H locs C S Q (F0 m 810 ls []) := by
  have hl : lv_has ls 9 [(4, .int (lw_i j)), (3, .ref oa), (2, .ref (ad 0)), (1, .ref h9), (0, .ref b)] := hl
  refine lv_aload_n K.hx K.hb dL_law_810 rfl (lv_at hl 3 rfl) ?_
  refine lv_aload_n K.hx K.hb dL_law_811 rfl (lv_at hl 1 rfl) ?_
  have hPc : va_P D vwCl (wX1 cI cJ cC cG h9 hn ap ht h0 pc u x oa out) _ := kp_l hP
  have hDc : va_D A (wX1 cI cJ cC cG h9 hn ap ht h0 pc u x oa out) := kd_l hD
  refine kj_x1 (k_rSWT (As := [.ref h9, .ref oa]) (rest := []) ⟨K.hx, K.hb, K.hml, K.hown, K.hts⟩ K.hK K.hN K.hq hS (kj_F hD hS K.hA) hPc hDc (zBT_stoppedPart_1 K.hst h1) (vx_cwSW (hh := [(0, 8, 11, 15)]) 2 K.hts gL_law_L_stoppedPart rfl rfl rfl (by decide +kernel) ⟨Nat.le_of_ble_eq_true rfl, Nat.le_of_ble_eq_true rfl⟩) rfl hl.1 rfl (Nat.le_of_ble_eq_true rfl) dL_law_812 hf) hP hD hS K.hA (fun H locs hP hD hS => ?_)
  have hP : va_P D vwCl (wLw cI cJ cC cG h9 hn ap ht h0 pc u x ad oa out m1) H := hP
  have hD : va_D A (wLw cI cJ cC cG h9 hn ap ht h0 pc u x ad oa out m1) := hD
  refine lv_istore (lv' := [(5, .int 1), (4, .int (lw_i j)), (3, .ref oa), (2, .ref (ad 0)), (1, .ref h9), (0, .ref b)]) K.hx K.hb dL_law_815 hl (by decide) rfl (fun ls hl => ?_)
  refine lv_aload_n K.hx K.hb dL_law_817 rfl (lv_at hl 3 rfl) ?_
  have hPc : va_P D vwCl (wMt cI cJ ad m1) _ := kp_r hP
  have hDc : va_D A (wMt cI cJ ad m1) := kd_r hD
  refine kj_i2 (k_rV (As := []) (rest := []) ⟨K.hx, K.hb, K.hml, K.hown, K.hts⟩ K.hK K.hN hPc hDc (zM_stoppedPart h2) (cwV 0 K.hts gL_law_X10_stoppedPart rfl rfl rfl (by decide +kernel) ⟨Nat.le_of_ble_eq_true rfl, Nat.le_of_ble_eq_true rfl⟩) rfl rfl rfl hl.1 rfl (Nat.le_of_ble_eq_true rfl) dL_law_818 (lw_fit hf)) hP hD hS K.hA (fun H locs hP hD hS => ?_)
  have hP : va_P D vwCl (wLw cI cJ cC cG h9 hn ap ht h0 pc u x ad oa out m') H := hP
  have hD : va_D A (wLw cI cJ cC cG h9 hn ap ht h0 pc u x ad oa out m') := hD
  refine lv_istore (lv' := [(6, .int r'), (5, .int 1), (4, .int (lw_i j)), (3, .ref oa), (2, .ref (ad 0)), (1, .ref h9), (0, .ref b)]) K.hx K.hb dL_law_821 hl (by decide) rfl (fun ls hl => ?_)
  refine lv_aload_n K.hx K.hb dL_law_823 rfl (lv_at hl 4 rfl) ?_
  have hPc : va_P D vwCl (wMt cI cJ ad m') _ := kp_r hP
  have hDc : va_D A (wMt cI cJ ad m') := kd_r hD
  refine kj_i2 (k_rV (As := []) (rest := []) ⟨K.hx, K.hb, K.hml, K.hown, K.hts⟩ K.hK K.hN hPc hDc zM_thrown (cwV 0 K.hts gL_law_X10_thrown rfl rfl rfl (by decide +kernel) ⟨Nat.le_of_ble_eq_true rfl, Nat.le_of_ble_eq_true rfl⟩) rfl rfl rfl hl.1 rfl (Nat.le_of_ble_eq_true rfl) dL_law_824 (lw_fit hf)) hP hD hS K.hA (fun H locs hP hD hS => ?_)
  have hP : va_P D vwCl (wLw cI cJ cC cG h9 hn ap ht h0 pc u x ad oa out m') H := hP
  have hD : va_D A (wLw cI cJ cC cG h9 hn ap ht h0 pc u x ad oa out m') := hD
  refine lv_iload K.hx K.hb dL_law_827 (lv_at hl 1 rfl) ?_
  refine lv_icmp_eq (tgt := 834) K.hx K.hb dL_law_829 (by decide) (fun cc => ?_) (fun cc => absurd h3 cc)
  refine lv_iload K.hx K.hb dL_law_834 (lv_at hl 1 rfl) ?_
  refine lv_if_ne (tgt := 851) K.hx K.hb dL_law_836 (by decide) (fun cc => ?_) (fun cc => absurd cc (by decide))
  refine lv_goto (tgt := 2028) K.hx K.hb dL_law_851 (by decide) ?_
  exact kk H locs ls hP hD hS (lv_sub hl [2, 3, 4, 5, 6] rfl)
set_option maxHeartbeats 8000000 in
set_option maxRecDepth 100000 in
theorem wl_undo {p : Program} {l : Launch} {e : Env} {s : State} {m : MethodId} {b L : Nat} {xs : Nat → Int32} {below : List Frame} {meth : Method} {c : Code} {A : Nat → Prop} {D : va_G} {cI cJ cC cG : ClassId} {h9 hn h0 : Nat} {ap ht pc : Nat → Nat} {u : lwH} {x : XT} {m1 : MT} {ad : Nat → Nat} {oa : Nat} {out : Nat → Int64} {H : Heap} {locs : List Loc} {ls : Array Slot} {Q : State → Prop} {C S j : Nat} (K : lwK p l s m b L xs meth c A D cI cJ cC cG) (hP : va_P D vwCl (wLw cI cJ cC cG h9 hn ap ht h0 pc u x ad oa out m1) H) (hD : va_D A (wLw cI cJ cC cG h9 hn ap ht h0 pc u x ad oa out m1)) (hS : va_S A s.heap H locs) (hl : lv_has ls 9 (lw_lv b h9 (ad 0) oa j)) (hj : j + 4 ≤ L) (hL : L ≤ 2048) {r : Int32} {x' : XT} {r' : Int32} {m' : MT} (hf : C + 0 ≤ room_1.cells ∧ S + 0 ≤ room_1.slots) (h1 : XN_undo x = some (r, x')) (h2 : MN_undo m1 = some (r', m')) (h3 : thr m' = 0) (h4 : (Int32.toInt64 r) = Int32.toInt64 r') (kk : ∀ (u : lwH) (H : Heap) (locs : List Loc) (ls : Array Slot), va_P D vwCl (wLw cI cJ cC cG h9 hn ap ht h0 pc u x' ad oa (vp_updL out (Int32.toNatClampNeg 0) (Int32.toInt64 r)) m') H → va_D A (wLw cI cJ cC cG h9 hn ap ht h0 pc u x' ad oa (vp_updL out (Int32.toNatClampNeg 0) (Int32.toInt64 r)) m') → va_S A s.heap H locs → lv_has ls 9 (lw_lv b h9 (ad 0) oa j) → W p l e room_1 s m #[Value.ref b] below meth c H locs C S Q (F0 m 2028 ls [])) : W p l e room_1 s m #[Value.ref b] below meth c H locs C S Q (F0 m 854 ls []) := by
  have hl : lv_has ls 9 [(4, .int (lw_i j)), (3, .ref oa), (2, .ref (ad 0)), (1, .ref h9), (0, .ref b)] := hl
  refine lv_aload_n K.hx K.hb dL_law_854 rfl (lv_at hl 3 rfl) ?_
  refine lv_aload_n K.hx K.hb dL_law_855 rfl (lv_at hl 1 rfl) ?_
  have hPc : va_P D vwCl (wX1 cI cJ cC cG h9 hn ap ht h0 pc u x oa out) _ := kp_l hP
  have hDc : va_D A (wX1 cI cJ cC cG h9 hn ap ht h0 pc u x oa out) := kd_l hD
  refine kj_i1 (k_rSW (As := [.ref h9, .ref oa]) (rest := []) ⟨K.hx, K.hb, K.hml, K.hown, K.hts⟩ K.hK K.hN hPc hDc (zB_undo h1) (vx_cwSW (hh := [(0, 8, 11, 15)]) 2 K.hts gL_law_L_undo rfl rfl rfl (by decide +kernel) ⟨Nat.le_of_ble_eq_true rfl, Nat.le_of_ble_eq_true rfl⟩) rfl hl.1 rfl (Nat.le_of_ble_eq_true rfl) dL_law_856 hf) hP hD hS K.hA (fun u H locs hP hD hS => ?_)
  have hP : va_P D vwCl (wLw cI cJ cC cG h9 hn ap ht h0 pc u x' ad oa (vp_updL out (Int32.toNatClampNeg 0) (Int32.toInt64 r)) m1) H := hP
  have hD : va_D A (wLw cI cJ cC cG h9 hn ap ht h0 pc u x' ad oa (vp_updL out (Int32.toNatClampNeg 0) (Int32.toInt64 r)) m1) := hD
  refine lv_istore (lv' := [(5, .int 0), (4, .int (lw_i j)), (3, .ref oa), (2, .ref (ad 0)), (1, .ref h9), (0, .ref b)]) K.hx K.hb dL_law_859 hl (by decide) rfl (fun ls hl => ?_)
  refine lv_aload_n K.hx K.hb dL_law_861 rfl (lv_at hl 3 rfl) ?_
  have hPc : va_P D vwCl (wMt cI cJ ad m1) _ := kp_r hP
  have hDc : va_D A (wMt cI cJ ad m1) := kd_r hD
  refine kj_i2 (k_rV (As := []) (rest := []) ⟨K.hx, K.hb, K.hml, K.hown, K.hts⟩ K.hK K.hN hPc hDc (zM_undo h2) (cwV 0 K.hts gL_law_X10_undo rfl rfl rfl (by decide +kernel) ⟨Nat.le_of_ble_eq_true rfl, Nat.le_of_ble_eq_true rfl⟩) rfl rfl rfl hl.1 rfl (Nat.le_of_ble_eq_true rfl) dL_law_862 hf) hP hD hS K.hA (fun H locs hP hD hS => ?_)
  have hP : va_P D vwCl (wLw cI cJ cC cG h9 hn ap ht h0 pc u x' ad oa (vp_updL out (Int32.toNatClampNeg 0) (Int32.toInt64 r)) m') H := hP
  have hD : va_D A (wLw cI cJ cC cG h9 hn ap ht h0 pc u x' ad oa (vp_updL out (Int32.toNatClampNeg 0) (Int32.toInt64 r)) m') := hD
  refine lv_istore (lv' := [(6, .int r'), (5, .int 0), (4, .int (lw_i j)), (3, .ref oa), (2, .ref (ad 0)), (1, .ref h9), (0, .ref b)]) K.hx K.hb dL_law_865 hl (by decide) rfl (fun ls hl => ?_)
  refine lv_aload_n K.hx K.hb dL_law_867 rfl (lv_at hl 4 rfl) ?_
  have hPc : va_P D vwCl (wMt cI cJ ad m') _ := kp_r hP
  have hDc : va_D A (wMt cI cJ ad m') := kd_r hD
  refine kj_i2 (k_rV (As := []) (rest := []) ⟨K.hx, K.hb, K.hml, K.hown, K.hts⟩ K.hK K.hN hPc hDc zM_thrown (cwV 0 K.hts gL_law_X10_thrown rfl rfl rfl (by decide +kernel) ⟨Nat.le_of_ble_eq_true rfl, Nat.le_of_ble_eq_true rfl⟩) rfl rfl rfl hl.1 rfl (Nat.le_of_ble_eq_true rfl) dL_law_868 hf) hP hD hS K.hA (fun H locs hP hD hS => ?_)
  have hP : va_P D vwCl (wLw cI cJ cC cG h9 hn ap ht h0 pc u x' ad oa (vp_updL out (Int32.toNatClampNeg 0) (Int32.toInt64 r)) m') H := hP
  have hD : va_D A (wLw cI cJ cC cG h9 hn ap ht h0 pc u x' ad oa (vp_updL out (Int32.toNatClampNeg 0) (Int32.toInt64 r)) m') := hD
  refine lv_iload K.hx K.hb dL_law_871 (lv_at hl 1 rfl) ?_
  refine lv_icmp_eq (tgt := 878) K.hx K.hb dL_law_873 (by decide) (fun cc => ?_) (fun cc => absurd h3 cc)
  refine lv_iload K.hx K.hb dL_law_878 (lv_at hl 1 rfl) ?_
  refine lv_if_ne (tgt := 895) K.hx K.hb dL_law_880 (by decide) (fun cc => absurd rfl cc) (fun cc => ?_)
  refine lv_aload_n K.hx K.hb dL_law_883 rfl (lv_at hl 3 rfl) ?_
  refine lv_iconst (v := 0) K.hx K.hb dL_law_884 (by decide) ?_
  refine va_lald K.hx K.hb K.hK hP 25 1 rfl rfl kv_01 dL_law_885 ?_
  refine W.eq (g2 := F0 m 886 _ (.long (Int32.toInt64 r) :: [])) (by rw [lw_out]) ?_
  refine lv_iload K.hx K.hb dL_law_886 (lv_at hl 0 rfl) ?_
  refine lv_i2l (v := Int32.toInt64 r') K.hx K.hb dL_law_888 rfl ?_
  refine W.lcmp K.hx K.hb dL_law_889 ?_
  refine lv_if_eq (tgt := 895) K.hx K.hb dL_law_890 (by decide) (fun cc => ?_) (fun cc => absurd (lw_ceq h4) cc)
  refine lv_goto (tgt := 2028) K.hx K.hb dL_law_895 (by decide) ?_
  exact kk u H locs ls hP hD hS (lv_sub hl [2, 3, 4, 5, 6] rfl)
set_option maxHeartbeats 8000000 in
set_option maxRecDepth 100000 in
theorem wlT_undo_1 {p : Program} {l : Launch} {e : Env} {s : State} {m : MethodId} {b L : Nat} {xs : Nat → Int32} {below : List Frame} {meth : Method} {c : Code} {A : Nat → Prop} {D : va_G} {cI cJ cC cG : ClassId} {h9 hn h0 : Nat} {ap ht pc : Nat → Nat} {u : lwH} {x : XT} {m1 : MT} {ad : Nat → Nat} {oa : Nat} {out : Nat → Int64} {H : Heap} {locs : List Loc} {ls : Array Slot} {Q : State → Prop} {C S j : Nat} (K : lwK p l s m b L xs meth c A D cI cJ cC cG) (hP : va_P D vwCl (wLw cI cJ cC cG h9 hn ap ht h0 pc u x ad oa out m1) H) (hD : va_D A (wLw cI cJ cC cG h9 hn ap ht h0 pc u x ad oa out m1)) (hS : va_S A s.heap H locs) (hl : lv_has ls 9 (lw_lv b h9 (ad 0) oa j)) (hj : j + 4 ≤ L) (hL : L ≤ 2048) {r' : Int32} {m' : MT} (hf : C + 1 ≤ room_1.cells ∧ S + 6 ≤ room_1.slots) (h1 : XT_undo x = some "java/lang/IllegalStateException") (h2 : MN_undo m1 = some (r', m')) (h3 : thr m' = 1) (kk : ∀ (H : Heap) (locs : List Loc) (ls : Array Slot), va_P D vwCl (wLw cI cJ cC cG h9 hn ap ht h0 pc u x ad oa out m') H → va_D A (wLw cI cJ cC cG h9 hn ap ht h0 pc u x ad oa out m') → va_S A s.heap H locs → lv_has ls 9 (lw_lv b h9 (ad 0) oa j) → W p l e room_1 s m #[Value.ref b] below meth c H locs (C + 1) (S + 6) Q (F0 m 2028 ls [])) : W p l e room_1 s m #[Value.ref b] below meth c H locs C S Q (F0 m 854 ls []) := by
  have hl : lv_has ls 9 [(4, .int (lw_i j)), (3, .ref oa), (2, .ref (ad 0)), (1, .ref h9), (0, .ref b)] := hl
  refine lv_aload_n K.hx K.hb dL_law_854 rfl (lv_at hl 3 rfl) ?_
  refine lv_aload_n K.hx K.hb dL_law_855 rfl (lv_at hl 1 rfl) ?_
  have hPc : va_P D vwCl (wX1 cI cJ cC cG h9 hn ap ht h0 pc u x oa out) _ := kp_l hP
  have hDc : va_D A (wX1 cI cJ cC cG h9 hn ap ht h0 pc u x oa out) := kd_l hD
  refine kj_x1 (k_rSWT (As := [.ref h9, .ref oa]) (rest := []) ⟨K.hx, K.hb, K.hml, K.hown, K.hts⟩ K.hK K.hN K.hq hS (kj_F hD hS K.hA) hPc hDc (zBT_undo_1 K.hst h1) (vx_cwSW (hh := [(0, 8, 11, 15)]) 2 K.hts gL_law_L_undo rfl rfl rfl (by decide +kernel) ⟨Nat.le_of_ble_eq_true rfl, Nat.le_of_ble_eq_true rfl⟩) rfl hl.1 rfl (Nat.le_of_ble_eq_true rfl) dL_law_856 hf) hP hD hS K.hA (fun H locs hP hD hS => ?_)
  have hP : va_P D vwCl (wLw cI cJ cC cG h9 hn ap ht h0 pc u x ad oa out m1) H := hP
  have hD : va_D A (wLw cI cJ cC cG h9 hn ap ht h0 pc u x ad oa out m1) := hD
  refine lv_istore (lv' := [(5, .int 1), (4, .int (lw_i j)), (3, .ref oa), (2, .ref (ad 0)), (1, .ref h9), (0, .ref b)]) K.hx K.hb dL_law_859 hl (by decide) rfl (fun ls hl => ?_)
  refine lv_aload_n K.hx K.hb dL_law_861 rfl (lv_at hl 3 rfl) ?_
  have hPc : va_P D vwCl (wMt cI cJ ad m1) _ := kp_r hP
  have hDc : va_D A (wMt cI cJ ad m1) := kd_r hD
  refine kj_i2 (k_rV (As := []) (rest := []) ⟨K.hx, K.hb, K.hml, K.hown, K.hts⟩ K.hK K.hN hPc hDc (zM_undo h2) (cwV 0 K.hts gL_law_X10_undo rfl rfl rfl (by decide +kernel) ⟨Nat.le_of_ble_eq_true rfl, Nat.le_of_ble_eq_true rfl⟩) rfl rfl rfl hl.1 rfl (Nat.le_of_ble_eq_true rfl) dL_law_862 (lw_fit hf)) hP hD hS K.hA (fun H locs hP hD hS => ?_)
  have hP : va_P D vwCl (wLw cI cJ cC cG h9 hn ap ht h0 pc u x ad oa out m') H := hP
  have hD : va_D A (wLw cI cJ cC cG h9 hn ap ht h0 pc u x ad oa out m') := hD
  refine lv_istore (lv' := [(6, .int r'), (5, .int 1), (4, .int (lw_i j)), (3, .ref oa), (2, .ref (ad 0)), (1, .ref h9), (0, .ref b)]) K.hx K.hb dL_law_865 hl (by decide) rfl (fun ls hl => ?_)
  refine lv_aload_n K.hx K.hb dL_law_867 rfl (lv_at hl 4 rfl) ?_
  have hPc : va_P D vwCl (wMt cI cJ ad m') _ := kp_r hP
  have hDc : va_D A (wMt cI cJ ad m') := kd_r hD
  refine kj_i2 (k_rV (As := []) (rest := []) ⟨K.hx, K.hb, K.hml, K.hown, K.hts⟩ K.hK K.hN hPc hDc zM_thrown (cwV 0 K.hts gL_law_X10_thrown rfl rfl rfl (by decide +kernel) ⟨Nat.le_of_ble_eq_true rfl, Nat.le_of_ble_eq_true rfl⟩) rfl rfl rfl hl.1 rfl (Nat.le_of_ble_eq_true rfl) dL_law_868 (lw_fit hf)) hP hD hS K.hA (fun H locs hP hD hS => ?_)
  have hP : va_P D vwCl (wLw cI cJ cC cG h9 hn ap ht h0 pc u x ad oa out m') H := hP
  have hD : va_D A (wLw cI cJ cC cG h9 hn ap ht h0 pc u x ad oa out m') := hD
  refine lv_iload K.hx K.hb dL_law_871 (lv_at hl 1 rfl) ?_
  refine lv_icmp_eq (tgt := 878) K.hx K.hb dL_law_873 (by decide) (fun cc => ?_) (fun cc => absurd h3 cc)
  refine lv_iload K.hx K.hb dL_law_878 (lv_at hl 1 rfl) ?_
  refine lv_if_ne (tgt := 895) K.hx K.hb dL_law_880 (by decide) (fun cc => ?_) (fun cc => absurd cc (by decide))
  refine lv_goto (tgt := 2028) K.hx K.hb dL_law_895 (by decide) ?_
  exact kk H locs ls hP hD hS (lv_sub hl [2, 3, 4, 5, 6] rfl)
set_option maxHeartbeats 8000000 in
set_option maxRecDepth 100000 in
theorem wl_keep {p : Program} {l : Launch} {e : Env} {s : State} {m : MethodId} {b L : Nat} {xs : Nat → Int32} {below : List Frame} {meth : Method} {c : Code} {A : Nat → Prop} {D : va_G} {cI cJ cC cG : ClassId} {h9 hn h0 : Nat} {ap ht pc : Nat → Nat} {u : lwH} {x : XT} {m1 : MT} {ad : Nat → Nat} {oa : Nat} {out : Nat → Int64} {H : Heap} {locs : List Loc} {ls : Array Slot} {Q : State → Prop} {C S j : Nat} (K : lwK p l s m b L xs meth c A D cI cJ cC cG) (hP : va_P D vwCl (wLw cI cJ cC cG h9 hn ap ht h0 pc u x ad oa out m1) H) (hD : va_D A (wLw cI cJ cC cG h9 hn ap ht h0 pc u x ad oa out m1)) (hS : va_S A s.heap H locs) (hl : lv_has ls 9 (lw_lv b h9 (ad 0) oa j)) (hj : j + 4 ≤ L) (hL : L ≤ 2048) {r : Int32} {x' : XT} {r' : Int32} {m' : MT} (hf : C + 0 ≤ room_1.cells ∧ S + 0 ≤ room_1.slots) (h1 : XN_keep x = some (r, x')) (h2 : MN_keep m1 = some (r', m')) (h4 : r = r') (kk : ∀ (u : lwH) (H : Heap) (locs : List Loc) (ls : Array Slot), va_P D vwCl (wLw cI cJ cC cG h9 hn ap ht h0 pc u x' ad oa out m') H → va_D A (wLw cI cJ cC cG h9 hn ap ht h0 pc u x' ad oa out m') → va_S A s.heap H locs → lv_has ls 9 (lw_lv b h9 (ad 0) oa j) → W p l e room_1 s m #[Value.ref b] below meth c H locs C S Q (F0 m 2028 ls [])) : W p l e room_1 s m #[Value.ref b] below meth c H locs C S Q (F0 m 898 ls []) := by
  have hl : lv_has ls 9 [(4, .int (lw_i j)), (3, .ref oa), (2, .ref (ad 0)), (1, .ref h9), (0, .ref b)] := hl
  refine lv_aload_n K.hx K.hb dL_law_898 rfl (lv_at hl 3 rfl) ?_
  have hP := kp_a hP
  have hD := kd_a hD
  have hPc : va_P D vwCl (wXt cI cJ cC cG h9 hn ap (u.1) ht h0 (u.2.1) (u.2.2.1) pc (u.2.2.2) x) _ := kp_l hP
  have hDc : va_D A (wXt cI cJ cC cG h9 hn ap (u.1) ht h0 (u.2.1) (u.2.2.1) pc (u.2.2.2) x) := kd_l hD
  refine kj_i1 (k_rV (As := []) (rest := []) ⟨K.hx, K.hb, K.hml, K.hown, K.hts⟩ K.hK K.hN hPc hDc (zB_keep h1) (cwV 0 K.hts gL_law_X9_keep rfl rfl rfl (by decide +kernel) ⟨Nat.le_of_ble_eq_true rfl, Nat.le_of_ble_eq_true rfl⟩) rfl rfl rfl hl.1 rfl (Nat.le_of_ble_eq_true rfl) dL_law_899 hf) hP hD hS K.hA (fun u H locs hP hD hS => ?_)
  have hP : va_P D vwCl (wLw cI cJ cC cG h9 hn ap ht h0 pc u x' ad oa out m1) H := kp_b hP
  have hD : va_D A (wLw cI cJ cC cG h9 hn ap ht h0 pc u x' ad oa out m1) := kd_b hD
  refine lv_aload_n K.hx K.hb dL_law_902 rfl (lv_at hl 2 rfl) ?_
  have hPc : va_P D vwCl (wMt cI cJ ad m1) _ := kp_r hP
  have hDc : va_D A (wMt cI cJ ad m1) := kd_r hD
  refine kj_i2 (k_rV (As := []) (rest := [.int r]) ⟨K.hx, K.hb, K.hml, K.hown, K.hts⟩ K.hK K.hN hPc hDc (zM_keep h2) (cwV 0 K.hts gL_law_X10_keep rfl rfl rfl (by decide +kernel) ⟨Nat.le_of_ble_eq_true rfl, Nat.le_of_ble_eq_true rfl⟩) rfl rfl rfl hl.1 rfl (Nat.le_of_ble_eq_true rfl) dL_law_903 hf) hP hD hS K.hA (fun H locs hP hD hS => ?_)
  have hP : va_P D vwCl (wLw cI cJ cC cG h9 hn ap ht h0 pc u x' ad oa out m') H := hP
  have hD : va_D A (wLw cI cJ cC cG h9 hn ap ht h0 pc u x' ad oa out m') := hD
  refine lv_icmp_eq (tgt := 2028) K.hx K.hb dL_law_906 (by decide) (fun cc => ?_) (fun cc => absurd h4 cc)
  exact kk u H locs ls hP hD hS (lv_sub hl [0, 1, 2, 3, 4] rfl)
set_option maxHeartbeats 8000000 in
set_option maxRecDepth 100000 in
theorem wl_restore {p : Program} {l : Launch} {e : Env} {s : State} {m : MethodId} {b L : Nat} {xs : Nat → Int32} {below : List Frame} {meth : Method} {c : Code} {A : Nat → Prop} {D : va_G} {cI cJ cC cG : ClassId} {h9 hn h0 : Nat} {ap ht pc : Nat → Nat} {u : lwH} {x : XT} {m1 : MT} {ad : Nat → Nat} {oa : Nat} {out : Nat → Int64} {H : Heap} {locs : List Loc} {ls : Array Slot} {Q : State → Prop} {C S j : Nat} (K : lwK p l s m b L xs meth c A D cI cJ cC cG) (hP : va_P D vwCl (wLw cI cJ cC cG h9 hn ap ht h0 pc u x ad oa out m1) H) (hD : va_D A (wLw cI cJ cC cG h9 hn ap ht h0 pc u x ad oa out m1)) (hS : va_S A s.heap H locs) (hl : lv_has ls 9 (lw_lv b h9 (ad 0) oa j)) (hj : j + 4 ≤ L) (hL : L ≤ 2048) {r : Int32} {x' : XT} {r' : Int32} {m' : MT} (hf : C + 0 ≤ room_1.cells ∧ S + 0 ≤ room_1.slots) (h1 : XN_restore x = some (r, x')) (h2 : MN_restore m1 = some (r', m')) (h3 : thr m' = 0) (h4 : (Int32.toInt64 r) = Int32.toInt64 r') (kk : ∀ (u : lwH) (H : Heap) (locs : List Loc) (ls : Array Slot), va_P D vwCl (wLw cI cJ cC cG h9 hn ap ht h0 pc u x' ad oa (vp_updL out (Int32.toNatClampNeg 0) (Int32.toInt64 r)) m') H → va_D A (wLw cI cJ cC cG h9 hn ap ht h0 pc u x' ad oa (vp_updL out (Int32.toNatClampNeg 0) (Int32.toInt64 r)) m') → va_S A s.heap H locs → lv_has ls 9 (lw_lv b h9 (ad 0) oa j) → W p l e room_1 s m #[Value.ref b] below meth c H locs C S Q (F0 m 2028 ls [])) : W p l e room_1 s m #[Value.ref b] below meth c H locs C S Q (F0 m 911 ls []) := by
  have hl : lv_has ls 9 [(4, .int (lw_i j)), (3, .ref oa), (2, .ref (ad 0)), (1, .ref h9), (0, .ref b)] := hl
  refine lv_aload_n K.hx K.hb dL_law_911 rfl (lv_at hl 3 rfl) ?_
  refine lv_aload_n K.hx K.hb dL_law_912 rfl (lv_at hl 1 rfl) ?_
  have hPc : va_P D vwCl (wX1 cI cJ cC cG h9 hn ap ht h0 pc u x oa out) _ := kp_l hP
  have hDc : va_D A (wX1 cI cJ cC cG h9 hn ap ht h0 pc u x oa out) := kd_l hD
  refine kj_i1 (k_rSW (As := [.ref h9, .ref oa]) (rest := []) ⟨K.hx, K.hb, K.hml, K.hown, K.hts⟩ K.hK K.hN hPc hDc (zB_restore h1) (vx_cwSW (hh := [(0, 8, 11, 15)]) 2 K.hts gL_law_L_restore rfl rfl rfl (by decide +kernel) ⟨Nat.le_of_ble_eq_true rfl, Nat.le_of_ble_eq_true rfl⟩) rfl hl.1 rfl (Nat.le_of_ble_eq_true rfl) dL_law_913 hf) hP hD hS K.hA (fun u H locs hP hD hS => ?_)
  have hP : va_P D vwCl (wLw cI cJ cC cG h9 hn ap ht h0 pc u x' ad oa (vp_updL out (Int32.toNatClampNeg 0) (Int32.toInt64 r)) m1) H := hP
  have hD : va_D A (wLw cI cJ cC cG h9 hn ap ht h0 pc u x' ad oa (vp_updL out (Int32.toNatClampNeg 0) (Int32.toInt64 r)) m1) := hD
  refine lv_istore (lv' := [(5, .int 0), (4, .int (lw_i j)), (3, .ref oa), (2, .ref (ad 0)), (1, .ref h9), (0, .ref b)]) K.hx K.hb dL_law_916 hl (by decide) rfl (fun ls hl => ?_)
  refine lv_aload_n K.hx K.hb dL_law_918 rfl (lv_at hl 3 rfl) ?_
  have hPc : va_P D vwCl (wMt cI cJ ad m1) _ := kp_r hP
  have hDc : va_D A (wMt cI cJ ad m1) := kd_r hD
  refine kj_i2 (k_rV (As := []) (rest := []) ⟨K.hx, K.hb, K.hml, K.hown, K.hts⟩ K.hK K.hN hPc hDc (zM_restore h2) (cwV 0 K.hts gL_law_X10_restore rfl rfl rfl (by decide +kernel) ⟨Nat.le_of_ble_eq_true rfl, Nat.le_of_ble_eq_true rfl⟩) rfl rfl rfl hl.1 rfl (Nat.le_of_ble_eq_true rfl) dL_law_919 hf) hP hD hS K.hA (fun H locs hP hD hS => ?_)
  have hP : va_P D vwCl (wLw cI cJ cC cG h9 hn ap ht h0 pc u x' ad oa (vp_updL out (Int32.toNatClampNeg 0) (Int32.toInt64 r)) m') H := hP
  have hD : va_D A (wLw cI cJ cC cG h9 hn ap ht h0 pc u x' ad oa (vp_updL out (Int32.toNatClampNeg 0) (Int32.toInt64 r)) m') := hD
  refine lv_istore (lv' := [(6, .int r'), (5, .int 0), (4, .int (lw_i j)), (3, .ref oa), (2, .ref (ad 0)), (1, .ref h9), (0, .ref b)]) K.hx K.hb dL_law_922 hl (by decide) rfl (fun ls hl => ?_)
  refine lv_aload_n K.hx K.hb dL_law_924 rfl (lv_at hl 4 rfl) ?_
  have hPc : va_P D vwCl (wMt cI cJ ad m') _ := kp_r hP
  have hDc : va_D A (wMt cI cJ ad m') := kd_r hD
  refine kj_i2 (k_rV (As := []) (rest := []) ⟨K.hx, K.hb, K.hml, K.hown, K.hts⟩ K.hK K.hN hPc hDc zM_thrown (cwV 0 K.hts gL_law_X10_thrown rfl rfl rfl (by decide +kernel) ⟨Nat.le_of_ble_eq_true rfl, Nat.le_of_ble_eq_true rfl⟩) rfl rfl rfl hl.1 rfl (Nat.le_of_ble_eq_true rfl) dL_law_925 hf) hP hD hS K.hA (fun H locs hP hD hS => ?_)
  have hP : va_P D vwCl (wLw cI cJ cC cG h9 hn ap ht h0 pc u x' ad oa (vp_updL out (Int32.toNatClampNeg 0) (Int32.toInt64 r)) m') H := hP
  have hD : va_D A (wLw cI cJ cC cG h9 hn ap ht h0 pc u x' ad oa (vp_updL out (Int32.toNatClampNeg 0) (Int32.toInt64 r)) m') := hD
  refine lv_iload K.hx K.hb dL_law_928 (lv_at hl 1 rfl) ?_
  refine lv_icmp_eq (tgt := 935) K.hx K.hb dL_law_930 (by decide) (fun cc => ?_) (fun cc => absurd h3 cc)
  refine lv_iload K.hx K.hb dL_law_935 (lv_at hl 1 rfl) ?_
  refine lv_if_ne (tgt := 952) K.hx K.hb dL_law_937 (by decide) (fun cc => absurd rfl cc) (fun cc => ?_)
  refine lv_aload_n K.hx K.hb dL_law_940 rfl (lv_at hl 3 rfl) ?_
  refine lv_iconst (v := 0) K.hx K.hb dL_law_941 (by decide) ?_
  refine va_lald K.hx K.hb K.hK hP 25 1 rfl rfl kv_01 dL_law_942 ?_
  refine W.eq (g2 := F0 m 943 _ (.long (Int32.toInt64 r) :: [])) (by rw [lw_out]) ?_
  refine lv_iload K.hx K.hb dL_law_943 (lv_at hl 0 rfl) ?_
  refine lv_i2l (v := Int32.toInt64 r') K.hx K.hb dL_law_945 rfl ?_
  refine W.lcmp K.hx K.hb dL_law_946 ?_
  refine lv_if_eq (tgt := 952) K.hx K.hb dL_law_947 (by decide) (fun cc => ?_) (fun cc => absurd (lw_ceq h4) cc)
  refine lv_goto (tgt := 2028) K.hx K.hb dL_law_952 (by decide) ?_
  exact kk u H locs ls hP hD hS (lv_sub hl [2, 3, 4, 5, 6] rfl)
set_option maxHeartbeats 8000000 in
set_option maxRecDepth 100000 in
theorem wlT_restore_1 {p : Program} {l : Launch} {e : Env} {s : State} {m : MethodId} {b L : Nat} {xs : Nat → Int32} {below : List Frame} {meth : Method} {c : Code} {A : Nat → Prop} {D : va_G} {cI cJ cC cG : ClassId} {h9 hn h0 : Nat} {ap ht pc : Nat → Nat} {u : lwH} {x : XT} {m1 : MT} {ad : Nat → Nat} {oa : Nat} {out : Nat → Int64} {H : Heap} {locs : List Loc} {ls : Array Slot} {Q : State → Prop} {C S j : Nat} (K : lwK p l s m b L xs meth c A D cI cJ cC cG) (hP : va_P D vwCl (wLw cI cJ cC cG h9 hn ap ht h0 pc u x ad oa out m1) H) (hD : va_D A (wLw cI cJ cC cG h9 hn ap ht h0 pc u x ad oa out m1)) (hS : va_S A s.heap H locs) (hl : lv_has ls 9 (lw_lv b h9 (ad 0) oa j)) (hj : j + 4 ≤ L) (hL : L ≤ 2048) {r' : Int32} {m' : MT} (hf : C + 1 ≤ room_1.cells ∧ S + 6 ≤ room_1.slots) (h1 : XT_restore x = some "java/lang/IllegalStateException") (h2 : MN_restore m1 = some (r', m')) (h3 : thr m' = 1) (kk : ∀ (H : Heap) (locs : List Loc) (ls : Array Slot), va_P D vwCl (wLw cI cJ cC cG h9 hn ap ht h0 pc u x ad oa out m') H → va_D A (wLw cI cJ cC cG h9 hn ap ht h0 pc u x ad oa out m') → va_S A s.heap H locs → lv_has ls 9 (lw_lv b h9 (ad 0) oa j) → W p l e room_1 s m #[Value.ref b] below meth c H locs (C + 1) (S + 6) Q (F0 m 2028 ls [])) : W p l e room_1 s m #[Value.ref b] below meth c H locs C S Q (F0 m 911 ls []) := by
  have hl : lv_has ls 9 [(4, .int (lw_i j)), (3, .ref oa), (2, .ref (ad 0)), (1, .ref h9), (0, .ref b)] := hl
  refine lv_aload_n K.hx K.hb dL_law_911 rfl (lv_at hl 3 rfl) ?_
  refine lv_aload_n K.hx K.hb dL_law_912 rfl (lv_at hl 1 rfl) ?_
  have hPc : va_P D vwCl (wX1 cI cJ cC cG h9 hn ap ht h0 pc u x oa out) _ := kp_l hP
  have hDc : va_D A (wX1 cI cJ cC cG h9 hn ap ht h0 pc u x oa out) := kd_l hD
  refine kj_x1 (k_rSWT (As := [.ref h9, .ref oa]) (rest := []) ⟨K.hx, K.hb, K.hml, K.hown, K.hts⟩ K.hK K.hN K.hq hS (kj_F hD hS K.hA) hPc hDc (zBT_restore_1 K.hst h1) (vx_cwSW (hh := [(0, 8, 11, 15)]) 2 K.hts gL_law_L_restore rfl rfl rfl (by decide +kernel) ⟨Nat.le_of_ble_eq_true rfl, Nat.le_of_ble_eq_true rfl⟩) rfl hl.1 rfl (Nat.le_of_ble_eq_true rfl) dL_law_913 hf) hP hD hS K.hA (fun H locs hP hD hS => ?_)
  have hP : va_P D vwCl (wLw cI cJ cC cG h9 hn ap ht h0 pc u x ad oa out m1) H := hP
  have hD : va_D A (wLw cI cJ cC cG h9 hn ap ht h0 pc u x ad oa out m1) := hD
  refine lv_istore (lv' := [(5, .int 1), (4, .int (lw_i j)), (3, .ref oa), (2, .ref (ad 0)), (1, .ref h9), (0, .ref b)]) K.hx K.hb dL_law_916 hl (by decide) rfl (fun ls hl => ?_)
  refine lv_aload_n K.hx K.hb dL_law_918 rfl (lv_at hl 3 rfl) ?_
  have hPc : va_P D vwCl (wMt cI cJ ad m1) _ := kp_r hP
  have hDc : va_D A (wMt cI cJ ad m1) := kd_r hD
  refine kj_i2 (k_rV (As := []) (rest := []) ⟨K.hx, K.hb, K.hml, K.hown, K.hts⟩ K.hK K.hN hPc hDc (zM_restore h2) (cwV 0 K.hts gL_law_X10_restore rfl rfl rfl (by decide +kernel) ⟨Nat.le_of_ble_eq_true rfl, Nat.le_of_ble_eq_true rfl⟩) rfl rfl rfl hl.1 rfl (Nat.le_of_ble_eq_true rfl) dL_law_919 (lw_fit hf)) hP hD hS K.hA (fun H locs hP hD hS => ?_)
  have hP : va_P D vwCl (wLw cI cJ cC cG h9 hn ap ht h0 pc u x ad oa out m') H := hP
  have hD : va_D A (wLw cI cJ cC cG h9 hn ap ht h0 pc u x ad oa out m') := hD
  refine lv_istore (lv' := [(6, .int r'), (5, .int 1), (4, .int (lw_i j)), (3, .ref oa), (2, .ref (ad 0)), (1, .ref h9), (0, .ref b)]) K.hx K.hb dL_law_922 hl (by decide) rfl (fun ls hl => ?_)
  refine lv_aload_n K.hx K.hb dL_law_924 rfl (lv_at hl 4 rfl) ?_
  have hPc : va_P D vwCl (wMt cI cJ ad m') _ := kp_r hP
  have hDc : va_D A (wMt cI cJ ad m') := kd_r hD
  refine kj_i2 (k_rV (As := []) (rest := []) ⟨K.hx, K.hb, K.hml, K.hown, K.hts⟩ K.hK K.hN hPc hDc zM_thrown (cwV 0 K.hts gL_law_X10_thrown rfl rfl rfl (by decide +kernel) ⟨Nat.le_of_ble_eq_true rfl, Nat.le_of_ble_eq_true rfl⟩) rfl rfl rfl hl.1 rfl (Nat.le_of_ble_eq_true rfl) dL_law_925 (lw_fit hf)) hP hD hS K.hA (fun H locs hP hD hS => ?_)
  have hP : va_P D vwCl (wLw cI cJ cC cG h9 hn ap ht h0 pc u x ad oa out m') H := hP
  have hD : va_D A (wLw cI cJ cC cG h9 hn ap ht h0 pc u x ad oa out m') := hD
  refine lv_iload K.hx K.hb dL_law_928 (lv_at hl 1 rfl) ?_
  refine lv_icmp_eq (tgt := 935) K.hx K.hb dL_law_930 (by decide) (fun cc => ?_) (fun cc => absurd h3 cc)
  refine lv_iload K.hx K.hb dL_law_935 (lv_at hl 1 rfl) ?_
  refine lv_if_ne (tgt := 952) K.hx K.hb dL_law_937 (by decide) (fun cc => ?_) (fun cc => absurd cc (by decide))
  refine lv_goto (tgt := 2028) K.hx K.hb dL_law_952 (by decide) ?_
  exact kk H locs ls hP hD hS (lv_sub hl [2, 3, 4, 5, 6] rfl)
set_option maxHeartbeats 8000000 in
set_option maxRecDepth 100000 in
theorem wl_savedStates {p : Program} {l : Launch} {e : Env} {s : State} {m : MethodId} {b L : Nat} {xs : Nat → Int32} {below : List Frame} {meth : Method} {c : Code} {A : Nat → Prop} {D : va_G} {cI cJ cC cG : ClassId} {h9 hn h0 : Nat} {ap ht pc : Nat → Nat} {u : lwH} {x : XT} {m1 : MT} {ad : Nat → Nat} {oa : Nat} {out : Nat → Int64} {H : Heap} {locs : List Loc} {ls : Array Slot} {Q : State → Prop} {C S j : Nat} (K : lwK p l s m b L xs meth c A D cI cJ cC cG) (hP : va_P D vwCl (wLw cI cJ cC cG h9 hn ap ht h0 pc u x ad oa out m1) H) (hD : va_D A (wLw cI cJ cC cG h9 hn ap ht h0 pc u x ad oa out m1)) (hS : va_S A s.heap H locs) (hl : lv_has ls 9 (lw_lv b h9 (ad 0) oa j)) (hj : j + 4 ≤ L) (hL : L ≤ 2048) {r : Int32} {x' : XT} {r' : Int32} {m' : MT} (hf : C + 0 ≤ room_1.cells ∧ S + 0 ≤ room_1.slots) (h1 : XN_savedStates x = some (r, x')) (h2 : MN_savedStates m1 = some (r', m')) (h4 : r = r') (kk : ∀ (u : lwH) (H : Heap) (locs : List Loc) (ls : Array Slot), va_P D vwCl (wLw cI cJ cC cG h9 hn ap ht h0 pc u x' ad oa out m') H → va_D A (wLw cI cJ cC cG h9 hn ap ht h0 pc u x' ad oa out m') → va_S A s.heap H locs → lv_has ls 9 (lw_lv b h9 (ad 0) oa j) → W p l e room_1 s m #[Value.ref b] below meth c H locs C S Q (F0 m 2028 ls [])) : W p l e room_1 s m #[Value.ref b] below meth c H locs C S Q (F0 m 955 ls []) := by
  have hl : lv_has ls 9 [(4, .int (lw_i j)), (3, .ref oa), (2, .ref (ad 0)), (1, .ref h9), (0, .ref b)] := hl
  refine lv_aload_n K.hx K.hb dL_law_955 rfl (lv_at hl 3 rfl) ?_
  have hP := kp_a hP
  have hD := kd_a hD
  have hPc : va_P D vwCl (wXt cI cJ cC cG h9 hn ap (u.1) ht h0 (u.2.1) (u.2.2.1) pc (u.2.2.2) x) _ := kp_l hP
  have hDc : va_D A (wXt cI cJ cC cG h9 hn ap (u.1) ht h0 (u.2.1) (u.2.2.1) pc (u.2.2.2) x) := kd_l hD
  refine kj_i1 (k_rV (As := []) (rest := []) ⟨K.hx, K.hb, K.hml, K.hown, K.hts⟩ K.hK K.hN hPc hDc (zB_savedStates h1) (cwV 0 K.hts gL_law_X9_savedStates rfl rfl rfl (by decide +kernel) ⟨Nat.le_of_ble_eq_true rfl, Nat.le_of_ble_eq_true rfl⟩) rfl rfl rfl hl.1 rfl (Nat.le_of_ble_eq_true rfl) dL_law_956 hf) hP hD hS K.hA (fun u H locs hP hD hS => ?_)
  have hP : va_P D vwCl (wLw cI cJ cC cG h9 hn ap ht h0 pc u x' ad oa out m1) H := kp_b hP
  have hD : va_D A (wLw cI cJ cC cG h9 hn ap ht h0 pc u x' ad oa out m1) := kd_b hD
  refine lv_aload_n K.hx K.hb dL_law_959 rfl (lv_at hl 2 rfl) ?_
  have hPc : va_P D vwCl (wMt cI cJ ad m1) _ := kp_r hP
  have hDc : va_D A (wMt cI cJ ad m1) := kd_r hD
  refine kj_i2 (k_rV (As := []) (rest := [.int r]) ⟨K.hx, K.hb, K.hml, K.hown, K.hts⟩ K.hK K.hN hPc hDc (zM_savedStates h2) (cwV 0 K.hts gL_law_X10_savedStates rfl rfl rfl (by decide +kernel) ⟨Nat.le_of_ble_eq_true rfl, Nat.le_of_ble_eq_true rfl⟩) rfl rfl rfl hl.1 rfl (Nat.le_of_ble_eq_true rfl) dL_law_960 hf) hP hD hS K.hA (fun H locs hP hD hS => ?_)
  have hP : va_P D vwCl (wLw cI cJ cC cG h9 hn ap ht h0 pc u x' ad oa out m') H := hP
  have hD : va_D A (wLw cI cJ cC cG h9 hn ap ht h0 pc u x' ad oa out m') := hD
  refine lv_icmp_eq (tgt := 2028) K.hx K.hb dL_law_963 (by decide) (fun cc => ?_) (fun cc => absurd h4 cc)
  exact kk u H locs ls hP hD hS (lv_sub hl [0, 1, 2, 3, 4] rfl)
set_option maxHeartbeats 8000000 in
set_option maxRecDepth 100000 in
theorem wl_mover {p : Program} {l : Launch} {e : Env} {s : State} {m : MethodId} {b L : Nat} {xs : Nat → Int32} {below : List Frame} {meth : Method} {c : Code} {A : Nat → Prop} {D : va_G} {cI cJ cC cG : ClassId} {h9 hn h0 : Nat} {ap ht pc : Nat → Nat} {u : lwH} {x : XT} {m1 : MT} {ad : Nat → Nat} {oa : Nat} {out : Nat → Int64} {H : Heap} {locs : List Loc} {ls : Array Slot} {Q : State → Prop} {C S j : Nat} (K : lwK p l s m b L xs meth c A D cI cJ cC cG) (hP : va_P D vwCl (wLw cI cJ cC cG h9 hn ap ht h0 pc u x ad oa out m1) H) (hD : va_D A (wLw cI cJ cC cG h9 hn ap ht h0 pc u x ad oa out m1)) (hS : va_S A s.heap H locs) (hl : lv_has ls 9 (lw_lv b h9 (ad 0) oa j)) (hj : j + 4 ≤ L) (hL : L ≤ 2048) {r : Int32} {x' : XT} {r' : Int32} {m' : MT} (hf : C + 0 ≤ room_1.cells ∧ S + 0 ≤ room_1.slots) (h1 : XN_mover x = some (r, x')) (h2 : MN_mover m1 = some (r', m')) (h4 : r = r') (kk : ∀ (u : lwH) (H : Heap) (locs : List Loc) (ls : Array Slot), va_P D vwCl (wLw cI cJ cC cG h9 hn ap ht h0 pc u x' ad oa out m') H → va_D A (wLw cI cJ cC cG h9 hn ap ht h0 pc u x' ad oa out m') → va_S A s.heap H locs → lv_has ls 9 (lw_lv b h9 (ad 0) oa j) → W p l e room_1 s m #[Value.ref b] below meth c H locs C S Q (F0 m 2028 ls [])) : W p l e room_1 s m #[Value.ref b] below meth c H locs C S Q (F0 m 968 ls []) := by
  have hl : lv_has ls 9 [(4, .int (lw_i j)), (3, .ref oa), (2, .ref (ad 0)), (1, .ref h9), (0, .ref b)] := hl
  refine lv_aload_n K.hx K.hb dL_law_968 rfl (lv_at hl 3 rfl) ?_
  have hP := kp_a hP
  have hD := kd_a hD
  have hPc : va_P D vwCl (wXt cI cJ cC cG h9 hn ap (u.1) ht h0 (u.2.1) (u.2.2.1) pc (u.2.2.2) x) _ := kp_l hP
  have hDc : va_D A (wXt cI cJ cC cG h9 hn ap (u.1) ht h0 (u.2.1) (u.2.2.1) pc (u.2.2.2) x) := kd_l hD
  refine kj_i1 (k_rV (As := []) (rest := []) ⟨K.hx, K.hb, K.hml, K.hown, K.hts⟩ K.hK K.hN hPc hDc (zB_mover h1) (cwV 0 K.hts gL_law_X9_mover rfl rfl rfl (by decide +kernel) ⟨Nat.le_of_ble_eq_true rfl, Nat.le_of_ble_eq_true rfl⟩) rfl rfl rfl hl.1 rfl (Nat.le_of_ble_eq_true rfl) dL_law_969 hf) hP hD hS K.hA (fun u H locs hP hD hS => ?_)
  have hP : va_P D vwCl (wLw cI cJ cC cG h9 hn ap ht h0 pc u x' ad oa out m1) H := kp_b hP
  have hD : va_D A (wLw cI cJ cC cG h9 hn ap ht h0 pc u x' ad oa out m1) := kd_b hD
  refine lv_aload_n K.hx K.hb dL_law_972 rfl (lv_at hl 2 rfl) ?_
  have hPc : va_P D vwCl (wMt cI cJ ad m1) _ := kp_r hP
  have hDc : va_D A (wMt cI cJ ad m1) := kd_r hD
  refine kj_i2 (k_rV (As := []) (rest := [.int r]) ⟨K.hx, K.hb, K.hml, K.hown, K.hts⟩ K.hK K.hN hPc hDc (zM_mover h2) (cwV 0 K.hts gL_law_X10_mover rfl rfl rfl (by decide +kernel) ⟨Nat.le_of_ble_eq_true rfl, Nat.le_of_ble_eq_true rfl⟩) rfl rfl rfl hl.1 rfl (Nat.le_of_ble_eq_true rfl) dL_law_973 hf) hP hD hS K.hA (fun H locs hP hD hS => ?_)
  have hP : va_P D vwCl (wLw cI cJ cC cG h9 hn ap ht h0 pc u x' ad oa out m') H := hP
  have hD : va_D A (wLw cI cJ cC cG h9 hn ap ht h0 pc u x' ad oa out m') := hD
  refine lv_icmp_eq (tgt := 2028) K.hx K.hb dL_law_976 (by decide) (fun cc => ?_) (fun cc => absurd h4 cc)
  exact kk u H locs ls hP hD hS (lv_sub hl [0, 1, 2, 3, 4] rfl)
set_option maxHeartbeats 8000000 in
set_option maxRecDepth 100000 in
theorem wl_phase {p : Program} {l : Launch} {e : Env} {s : State} {m : MethodId} {b L : Nat} {xs : Nat → Int32} {below : List Frame} {meth : Method} {c : Code} {A : Nat → Prop} {D : va_G} {cI cJ cC cG : ClassId} {h9 hn h0 : Nat} {ap ht pc : Nat → Nat} {u : lwH} {x : XT} {m1 : MT} {ad : Nat → Nat} {oa : Nat} {out : Nat → Int64} {H : Heap} {locs : List Loc} {ls : Array Slot} {Q : State → Prop} {C S j : Nat} (K : lwK p l s m b L xs meth c A D cI cJ cC cG) (hP : va_P D vwCl (wLw cI cJ cC cG h9 hn ap ht h0 pc u x ad oa out m1) H) (hD : va_D A (wLw cI cJ cC cG h9 hn ap ht h0 pc u x ad oa out m1)) (hS : va_S A s.heap H locs) (hl : lv_has ls 9 (lw_lv b h9 (ad 0) oa j)) (hj : j + 4 ≤ L) (hL : L ≤ 2048) {r : Int32} {x' : XT} {r' : Int32} {m' : MT} (hf : C + 0 ≤ room_1.cells ∧ S + 0 ≤ room_1.slots) (h1 : XN_phase x = some (r, x')) (h2 : MN_phase m1 = some (r', m')) (h4 : r = r') (kk : ∀ (u : lwH) (H : Heap) (locs : List Loc) (ls : Array Slot), va_P D vwCl (wLw cI cJ cC cG h9 hn ap ht h0 pc u x' ad oa out m') H → va_D A (wLw cI cJ cC cG h9 hn ap ht h0 pc u x' ad oa out m') → va_S A s.heap H locs → lv_has ls 9 (lw_lv b h9 (ad 0) oa j) → W p l e room_1 s m #[Value.ref b] below meth c H locs C S Q (F0 m 2028 ls [])) : W p l e room_1 s m #[Value.ref b] below meth c H locs C S Q (F0 m 981 ls []) := by
  have hl : lv_has ls 9 [(4, .int (lw_i j)), (3, .ref oa), (2, .ref (ad 0)), (1, .ref h9), (0, .ref b)] := hl
  refine lv_aload_n K.hx K.hb dL_law_981 rfl (lv_at hl 3 rfl) ?_
  have hP := kp_a hP
  have hD := kd_a hD
  have hPc : va_P D vwCl (wXt cI cJ cC cG h9 hn ap (u.1) ht h0 (u.2.1) (u.2.2.1) pc (u.2.2.2) x) _ := kp_l hP
  have hDc : va_D A (wXt cI cJ cC cG h9 hn ap (u.1) ht h0 (u.2.1) (u.2.2.1) pc (u.2.2.2) x) := kd_l hD
  refine kj_i1 (k_rV (As := []) (rest := []) ⟨K.hx, K.hb, K.hml, K.hown, K.hts⟩ K.hK K.hN hPc hDc (zB_phase h1) (cwV 0 K.hts gL_law_X9_phase rfl rfl rfl (by decide +kernel) ⟨Nat.le_of_ble_eq_true rfl, Nat.le_of_ble_eq_true rfl⟩) rfl rfl rfl hl.1 rfl (Nat.le_of_ble_eq_true rfl) dL_law_982 hf) hP hD hS K.hA (fun u H locs hP hD hS => ?_)
  have hP : va_P D vwCl (wLw cI cJ cC cG h9 hn ap ht h0 pc u x' ad oa out m1) H := kp_b hP
  have hD : va_D A (wLw cI cJ cC cG h9 hn ap ht h0 pc u x' ad oa out m1) := kd_b hD
  refine lv_aload_n K.hx K.hb dL_law_985 rfl (lv_at hl 2 rfl) ?_
  have hPc : va_P D vwCl (wMt cI cJ ad m1) _ := kp_r hP
  have hDc : va_D A (wMt cI cJ ad m1) := kd_r hD
  refine kj_i2 (k_rV (As := []) (rest := [.int r]) ⟨K.hx, K.hb, K.hml, K.hown, K.hts⟩ K.hK K.hN hPc hDc (zM_phase h2) (cwV 0 K.hts gL_law_X10_phase rfl rfl rfl (by decide +kernel) ⟨Nat.le_of_ble_eq_true rfl, Nat.le_of_ble_eq_true rfl⟩) rfl rfl rfl hl.1 rfl (Nat.le_of_ble_eq_true rfl) dL_law_986 hf) hP hD hS K.hA (fun H locs hP hD hS => ?_)
  have hP : va_P D vwCl (wLw cI cJ cC cG h9 hn ap ht h0 pc u x' ad oa out m') H := hP
  have hD : va_D A (wLw cI cJ cC cG h9 hn ap ht h0 pc u x' ad oa out m') := hD
  refine lv_icmp_eq (tgt := 2028) K.hx K.hb dL_law_989 (by decide) (fun cc => ?_) (fun cc => absurd h4 cc)
  exact kk u H locs ls hP hD hS (lv_sub hl [0, 1, 2, 3, 4] rfl)
set_option maxHeartbeats 8000000 in
set_option maxRecDepth 100000 in
theorem wl_diceLeft {p : Program} {l : Launch} {e : Env} {s : State} {m : MethodId} {b L : Nat} {xs : Nat → Int32} {below : List Frame} {meth : Method} {c : Code} {A : Nat → Prop} {D : va_G} {cI cJ cC cG : ClassId} {h9 hn h0 : Nat} {ap ht pc : Nat → Nat} {u : lwH} {x : XT} {m1 : MT} {ad : Nat → Nat} {oa : Nat} {out : Nat → Int64} {H : Heap} {locs : List Loc} {ls : Array Slot} {Q : State → Prop} {C S j : Nat} (K : lwK p l s m b L xs meth c A D cI cJ cC cG) (hP : va_P D vwCl (wLw cI cJ cC cG h9 hn ap ht h0 pc u x ad oa out m1) H) (hD : va_D A (wLw cI cJ cC cG h9 hn ap ht h0 pc u x ad oa out m1)) (hS : va_S A s.heap H locs) (hl : lv_has ls 9 (lw_lv b h9 (ad 0) oa j)) (hj : j + 4 ≤ L) (hL : L ≤ 2048) {r : Int32} {x' : XT} {r' : Int32} {m' : MT} (hf : C + 0 ≤ room_1.cells ∧ S + 0 ≤ room_1.slots) (h1 : XN_diceLeft x = some (r, x')) (h2 : MN_diceLeft m1 = some (r', m')) (h4 : r = r') (kk : ∀ (u : lwH) (H : Heap) (locs : List Loc) (ls : Array Slot), va_P D vwCl (wLw cI cJ cC cG h9 hn ap ht h0 pc u x' ad oa out m') H → va_D A (wLw cI cJ cC cG h9 hn ap ht h0 pc u x' ad oa out m') → va_S A s.heap H locs → lv_has ls 9 (lw_lv b h9 (ad 0) oa j) → W p l e room_1 s m #[Value.ref b] below meth c H locs C S Q (F0 m 2028 ls [])) : W p l e room_1 s m #[Value.ref b] below meth c H locs C S Q (F0 m 994 ls []) := by
  have hl : lv_has ls 9 [(4, .int (lw_i j)), (3, .ref oa), (2, .ref (ad 0)), (1, .ref h9), (0, .ref b)] := hl
  refine lv_aload_n K.hx K.hb dL_law_994 rfl (lv_at hl 3 rfl) ?_
  have hP := kp_a hP
  have hD := kd_a hD
  have hPc : va_P D vwCl (wXt cI cJ cC cG h9 hn ap (u.1) ht h0 (u.2.1) (u.2.2.1) pc (u.2.2.2) x) _ := kp_l hP
  have hDc : va_D A (wXt cI cJ cC cG h9 hn ap (u.1) ht h0 (u.2.1) (u.2.2.1) pc (u.2.2.2) x) := kd_l hD
  refine kj_i1 (k_rV (As := []) (rest := []) ⟨K.hx, K.hb, K.hml, K.hown, K.hts⟩ K.hK K.hN hPc hDc (zB_diceLeft h1) (cwV 0 K.hts gL_law_X9_diceLeft rfl rfl rfl (by decide +kernel) ⟨Nat.le_of_ble_eq_true rfl, Nat.le_of_ble_eq_true rfl⟩) rfl rfl rfl hl.1 rfl (Nat.le_of_ble_eq_true rfl) dL_law_995 hf) hP hD hS K.hA (fun u H locs hP hD hS => ?_)
  have hP : va_P D vwCl (wLw cI cJ cC cG h9 hn ap ht h0 pc u x' ad oa out m1) H := kp_b hP
  have hD : va_D A (wLw cI cJ cC cG h9 hn ap ht h0 pc u x' ad oa out m1) := kd_b hD
  refine lv_aload_n K.hx K.hb dL_law_998 rfl (lv_at hl 2 rfl) ?_
  have hPc : va_P D vwCl (wMt cI cJ ad m1) _ := kp_r hP
  have hDc : va_D A (wMt cI cJ ad m1) := kd_r hD
  refine kj_i2 (k_rV (As := []) (rest := [.int r]) ⟨K.hx, K.hb, K.hml, K.hown, K.hts⟩ K.hK K.hN hPc hDc (zM_diceLeft h2) (cwV 0 K.hts gL_law_X10_diceLeft rfl rfl rfl (by decide +kernel) ⟨Nat.le_of_ble_eq_true rfl, Nat.le_of_ble_eq_true rfl⟩) rfl rfl rfl hl.1 rfl (Nat.le_of_ble_eq_true rfl) dL_law_999 hf) hP hD hS K.hA (fun H locs hP hD hS => ?_)
  have hP : va_P D vwCl (wLw cI cJ cC cG h9 hn ap ht h0 pc u x' ad oa out m') H := hP
  have hD : va_D A (wLw cI cJ cC cG h9 hn ap ht h0 pc u x' ad oa out m') := hD
  refine lv_icmp_eq (tgt := 2028) K.hx K.hb dL_law_1002 (by decide) (fun cc => ?_) (fun cc => absurd h4 cc)
  exact kk u H locs ls hP hD hS (lv_sub hl [0, 1, 2, 3, 4] rfl)
set_option maxHeartbeats 8000000 in
set_option maxRecDepth 100000 in
theorem wl_dieLeft {p : Program} {l : Launch} {e : Env} {s : State} {m : MethodId} {b L : Nat} {xs : Nat → Int32} {below : List Frame} {meth : Method} {c : Code} {A : Nat → Prop} {D : va_G} {cI cJ cC cG : ClassId} {h9 hn h0 : Nat} {ap ht pc : Nat → Nat} {u : lwH} {x : XT} {m1 : MT} {ad : Nat → Nat} {oa : Nat} {out : Nat → Int64} {H : Heap} {locs : List Loc} {ls : Array Slot} {Q : State → Prop} {C S j : Nat} (K : lwK p l s m b L xs meth c A D cI cJ cC cG) (hP : va_P D vwCl (wLw cI cJ cC cG h9 hn ap ht h0 pc u x ad oa out m1) H) (hD : va_D A (wLw cI cJ cC cG h9 hn ap ht h0 pc u x ad oa out m1)) (hS : va_S A s.heap H locs) (hl : lv_has ls 9 (lw_lv b h9 (ad 0) oa j)) (hj : j + 4 ≤ L) (hL : L ≤ 2048) {r : Int32} {x' : XT} {r' : Int32} {m' : MT} (hf : C + 0 ≤ room_1.cells ∧ S + 0 ≤ room_1.slots) (h1 : XN_dieLeft x (xs (j + 1)) = some (r, x')) (h2 : MN_dieLeft m1 (xs (j + 1)) = some (r', m')) (h3 : thr m' = 0) (h4 : (Int32.toInt64 r) = Int32.toInt64 r') (kk : ∀ (u : lwH) (H : Heap) (locs : List Loc) (ls : Array Slot), va_P D vwCl (wLw cI cJ cC cG h9 hn ap ht h0 pc u x' ad oa (vp_updL out (Int32.toNatClampNeg 0) (Int32.toInt64 r)) m') H → va_D A (wLw cI cJ cC cG h9 hn ap ht h0 pc u x' ad oa (vp_updL out (Int32.toNatClampNeg 0) (Int32.toInt64 r)) m') → va_S A s.heap H locs → lv_has ls 9 (lw_lv b h9 (ad 0) oa j) → W p l e room_1 s m #[Value.ref b] below meth c H locs C S Q (F0 m 2028 ls [])) : W p l e room_1 s m #[Value.ref b] below meth c H locs C S Q (F0 m 1007 ls []) := by
  have hl : lv_has ls 9 [(4, .int (lw_i j)), (3, .ref oa), (2, .ref (ad 0)), (1, .ref h9), (0, .ref b)] := hl
  refine lv_aload_n K.hx K.hb dL_law_1007 rfl (lv_at hl 3 rfl) ?_
  refine lw_arg1 K hS (lv_at hl 4 rfl) (lv_at hl 0 rfl) hj hL dL_law_1008 dL_law_1009 dL_law_1011 dL_law_1012 dL_law_1013 ?_
  refine lv_aload_n K.hx K.hb dL_law_1014 rfl (lv_at hl 1 rfl) ?_
  have hPc : va_P D vwCl (wX1 cI cJ cC cG h9 hn ap ht h0 pc u x oa out) _ := kp_l hP
  have hDc : va_D A (wX1 cI cJ cC cG h9 hn ap ht h0 pc u x oa out) := kd_l hD
  refine kj_i1 (k_rSW (As := [.ref h9, .int (xs (j + 1)), .ref oa]) (rest := []) ⟨K.hx, K.hb, K.hml, K.hown, K.hts⟩ K.hK K.hN hPc hDc (zB_dieLeft h1) (vx_cwSW (hh := [(0, 9, 12, 21)]) 3 K.hts gL_law_L_dieLeft rfl rfl rfl (by decide +kernel) ⟨Nat.le_of_ble_eq_true rfl, Nat.le_of_ble_eq_true rfl⟩) rfl hl.1 rfl (Nat.le_of_ble_eq_true rfl) dL_law_1015 hf) hP hD hS K.hA (fun u H locs hP hD hS => ?_)
  have hP : va_P D vwCl (wLw cI cJ cC cG h9 hn ap ht h0 pc u x' ad oa (vp_updL out (Int32.toNatClampNeg 0) (Int32.toInt64 r)) m1) H := hP
  have hD : va_D A (wLw cI cJ cC cG h9 hn ap ht h0 pc u x' ad oa (vp_updL out (Int32.toNatClampNeg 0) (Int32.toInt64 r)) m1) := hD
  refine lv_istore (lv' := [(5, .int 0), (4, .int (lw_i j)), (3, .ref oa), (2, .ref (ad 0)), (1, .ref h9), (0, .ref b)]) K.hx K.hb dL_law_1018 hl (by decide) rfl (fun ls hl => ?_)
  refine lv_aload_n K.hx K.hb dL_law_1020 rfl (lv_at hl 3 rfl) ?_
  refine lw_arg1 K hS (lv_at hl 5 rfl) (lv_at hl 1 rfl) hj hL dL_law_1021 dL_law_1022 dL_law_1024 dL_law_1025 dL_law_1026 ?_
  have hPc : va_P D vwCl (wMt cI cJ ad m1) _ := kp_r hP
  have hDc : va_D A (wMt cI cJ ad m1) := kd_r hD
  refine kj_i2 (k_rV (As := [.int (xs (j + 1))]) (rest := []) ⟨K.hx, K.hb, K.hml, K.hown, K.hts⟩ K.hK K.hN hPc hDc (zM_dieLeft h2) (cwV 1 K.hts gL_law_X10_dieLeft rfl rfl rfl (by decide +kernel) ⟨Nat.le_of_ble_eq_true rfl, Nat.le_of_ble_eq_true rfl⟩) rfl rfl rfl hl.1 rfl (Nat.le_of_ble_eq_true rfl) dL_law_1027 hf) hP hD hS K.hA (fun H locs hP hD hS => ?_)
  have hP : va_P D vwCl (wLw cI cJ cC cG h9 hn ap ht h0 pc u x' ad oa (vp_updL out (Int32.toNatClampNeg 0) (Int32.toInt64 r)) m') H := hP
  have hD : va_D A (wLw cI cJ cC cG h9 hn ap ht h0 pc u x' ad oa (vp_updL out (Int32.toNatClampNeg 0) (Int32.toInt64 r)) m') := hD
  refine lv_istore (lv' := [(6, .int r'), (5, .int 0), (4, .int (lw_i j)), (3, .ref oa), (2, .ref (ad 0)), (1, .ref h9), (0, .ref b)]) K.hx K.hb dL_law_1030 hl (by decide) rfl (fun ls hl => ?_)
  refine lv_aload_n K.hx K.hb dL_law_1032 rfl (lv_at hl 4 rfl) ?_
  have hPc : va_P D vwCl (wMt cI cJ ad m') _ := kp_r hP
  have hDc : va_D A (wMt cI cJ ad m') := kd_r hD
  refine kj_i2 (k_rV (As := []) (rest := []) ⟨K.hx, K.hb, K.hml, K.hown, K.hts⟩ K.hK K.hN hPc hDc zM_thrown (cwV 0 K.hts gL_law_X10_thrown rfl rfl rfl (by decide +kernel) ⟨Nat.le_of_ble_eq_true rfl, Nat.le_of_ble_eq_true rfl⟩) rfl rfl rfl hl.1 rfl (Nat.le_of_ble_eq_true rfl) dL_law_1033 hf) hP hD hS K.hA (fun H locs hP hD hS => ?_)
  have hP : va_P D vwCl (wLw cI cJ cC cG h9 hn ap ht h0 pc u x' ad oa (vp_updL out (Int32.toNatClampNeg 0) (Int32.toInt64 r)) m') H := hP
  have hD : va_D A (wLw cI cJ cC cG h9 hn ap ht h0 pc u x' ad oa (vp_updL out (Int32.toNatClampNeg 0) (Int32.toInt64 r)) m') := hD
  refine lv_iload K.hx K.hb dL_law_1036 (lv_at hl 1 rfl) ?_
  refine lv_icmp_eq (tgt := 1043) K.hx K.hb dL_law_1038 (by decide) (fun cc => ?_) (fun cc => absurd h3 cc)
  refine lv_iload K.hx K.hb dL_law_1043 (lv_at hl 1 rfl) ?_
  refine lv_if_ne (tgt := 1060) K.hx K.hb dL_law_1045 (by decide) (fun cc => absurd rfl cc) (fun cc => ?_)
  refine lv_aload_n K.hx K.hb dL_law_1048 rfl (lv_at hl 3 rfl) ?_
  refine lv_iconst (v := 0) K.hx K.hb dL_law_1049 (by decide) ?_
  refine va_lald K.hx K.hb K.hK hP 25 1 rfl rfl kv_01 dL_law_1050 ?_
  refine W.eq (g2 := F0 m 1051 _ (.long (Int32.toInt64 r) :: [])) (by rw [lw_out]) ?_
  refine lv_iload K.hx K.hb dL_law_1051 (lv_at hl 0 rfl) ?_
  refine lv_i2l (v := Int32.toInt64 r') K.hx K.hb dL_law_1053 rfl ?_
  refine W.lcmp K.hx K.hb dL_law_1054 ?_
  refine lv_if_eq (tgt := 1060) K.hx K.hb dL_law_1055 (by decide) (fun cc => ?_) (fun cc => absurd (lw_ceq h4) cc)
  refine lv_goto (tgt := 2028) K.hx K.hb dL_law_1060 (by decide) ?_
  exact kk u H locs ls hP hD hS (lv_sub hl [2, 3, 4, 5, 6] rfl)
