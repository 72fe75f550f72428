set_option maxHeartbeats 8000000 in
set_option maxRecDepth 100000 in
theorem wlT_dieLeft_1 {p : Program} {l : Launch} {e : Env} {s : State} {m : MethodId} {b L : Nat} {xs : Nat → Int32} {below : List Frame} {meth : Method} {c : Code} {A : Nat → Prop} {D : va_G} {cI cJ cC cG : ClassId} {h9 hn h0 : Nat} {ap ht pc : Nat → Nat} {u : lwH} {x : XT} {m1 : MT} {ad : Nat → Nat} {oa : Nat} {out : Nat → Int64} {H : Heap} {locs : List Loc} {ls : Array Slot} {Q : State → Prop} {C S j : Nat} (K : lwK p l s m b L xs meth c A D cI cJ cC cG) (hP : va_P D vwCl (wLw cI cJ cC cG h9 hn ap ht h0 pc u x ad oa out m1) H) (hD : va_D A (wLw cI cJ cC cG h9 hn ap ht h0 pc u x ad oa out m1)) (hS : va_S A s.heap H locs) (hl : lv_has ls 9 (lw_lv b h9 (ad 0) oa j)) (hj : j + 4 ≤ L) (hL : L ≤ 2048) {r' : Int32} {m' : MT} (hf : C + 1 ≤ room_1.cells ∧ S + 6 ≤ room_1.slots) (h1 : XT_dieLeft x (xs (j + 1)) = some "java/lang/IndexOutOfBoundsException") (h2 : MN_dieLeft m1 (xs (j + 1)) = some (r', m')) (h3 : thr m' = 1) (kk : ∀ (H : Heap) (locs : List Loc) (ls : Array Slot), va_P D vwCl (wLw cI cJ cC cG h9 hn ap ht h0 pc u x ad oa out m') H → va_D A (wLw cI cJ cC cG h9 hn ap ht h0 pc u x ad oa out m') → va_S A s.heap H locs → lv_has ls 9 (lw_lv b h9 (ad 0) oa j) → W p l e room_1 s m #[Value.ref b] below meth c H locs (C + 1) (S + 6) Q (F0 m 2028 ls [])) : W p l e room_1 s m #[Value.ref b] below meth c H locs C S Q (F0 m 1007 ls []) := by
  have hl : lv_has ls 9 [(4, .int (lw_i j)), (3, .ref oa), (2, .ref (ad 0)), (1, .ref h9), (0, .ref b)] := hl
  refine lv_aload_n K.hx K.hb dL_law_1007 rfl (lv_at hl 3 rfl) ?_
  refine lw_arg1 K hS (lv_at hl 4 rfl) (lv_at hl 0 rfl) hj hL dL_law_1008 dL_law_1009 dL_law_1011 dL_law_1012 dL_law_1013 ?_
  refine lv_aload_n K.hx K.hb dL_law_1014 rfl (lv_at hl 1 rfl) ?_
  have hPc : va_P D vwCl (wX1 cI cJ cC cG h9 hn ap ht h0 pc u x oa out) _ := kp_l hP
  have hDc : va_D A (wX1 cI cJ cC cG h9 hn ap ht h0 pc u x oa out) := kd_l hD
  refine kj_x1 (k_rSWT (As := [.ref h9, .int (xs (j + 1)), .ref oa]) (rest := []) ⟨K.hx, K.hb, K.hml, K.hown, K.hts⟩ K.hK K.hN K.hq hS (kj_F hD hS K.hA) hPc hDc (zBT_dieLeft_1 K.hst h1) (vx_cwSW (hh := [(0, 9, 12, 21)]) 3 K.hts gL_law_L_dieLeft rfl rfl rfl (by decide +kernel) ⟨Nat.le_of_ble_eq_true rfl, Nat.le_of_ble_eq_true rfl⟩) rfl hl.1 rfl (Nat.le_of_ble_eq_true rfl) dL_law_1015 hf) hP hD hS K.hA (fun H locs hP hD hS => ?_)
  have hP : va_P D vwCl (wLw cI cJ cC cG h9 hn ap ht h0 pc u x ad oa out m1) H := hP
  have hD : va_D A (wLw cI cJ cC cG h9 hn ap ht h0 pc u x ad oa out m1) := hD
  refine lv_istore (lv' := [(5, .int 1), (4, .int (lw_i j)), (3, .ref oa), (2, .ref (ad 0)), (1, .ref h9), (0, .ref b)]) K.hx K.hb dL_law_1018 hl (by decide) rfl (fun ls hl => ?_)
  refine lv_aload_n K.hx K.hb dL_law_1020 rfl (lv_at hl 3 rfl) ?_
  refine lw_arg1 K hS (lv_at hl 5 rfl) (lv_at hl 1 rfl) hj hL dL_law_1021 dL_law_1022 dL_law_1024 dL_law_1025 dL_law_1026 ?_
  have hPc : va_P D vwCl (wMt cI cJ ad m1) _ := kp_r hP
  have hDc : va_D A (wMt cI cJ ad m1) := kd_r hD
  refine kj_i2 (k_rV (As := [.int (xs (j + 1))]) (rest := []) ⟨K.hx, K.hb, K.hml, K.hown, K.hts⟩ K.hK K.hN hPc hDc (zM_dieLeft h2) (cwV 1 K.hts gL_law_X10_dieLeft rfl rfl rfl (by decide +kernel) ⟨Nat.le_of_ble_eq_true rfl, Nat.le_of_ble_eq_true rfl⟩) rfl rfl rfl hl.1 rfl (Nat.le_of_ble_eq_true rfl) dL_law_1027 (lw_fit hf)) hP hD hS K.hA (fun H locs hP hD hS => ?_)
  have hP : va_P D vwCl (wLw cI cJ cC cG h9 hn ap ht h0 pc u x ad oa out m') H := hP
  have hD : va_D A (wLw cI cJ cC cG h9 hn ap ht h0 pc u x ad oa out m') := hD
  refine lv_istore (lv' := [(6, .int r'), (5, .int 1), (4, .int (lw_i j)), (3, .ref oa), (2, .ref (ad 0)), (1, .ref h9), (0, .ref b)]) K.hx K.hb dL_law_1030 hl (by decide) rfl (fun ls hl => ?_)
  refine lv_aload_n K.hx K.hb dL_law_1032 rfl (lv_at hl 4 rfl) ?_
  have hPc : va_P D vwCl (wMt cI cJ ad m') _ := kp_r hP
  have hDc : va_D A (wMt cI cJ ad m') := kd_r hD
  refine kj_i2 (k_rV (As := []) (rest := []) ⟨K.hx, K.hb, K.hml, K.hown, K.hts⟩ K.hK K.hN hPc hDc zM_thrown (cwV 0 K.hts gL_law_X10_thrown rfl rfl rfl (by decide +kernel) ⟨Nat.le_of_ble_eq_true rfl, Nat.le_of_ble_eq_true rfl⟩) rfl rfl rfl hl.1 rfl (Nat.le_of_ble_eq_true rfl) dL_law_1033 (lw_fit hf)) hP hD hS K.hA (fun H locs hP hD hS => ?_)
  have hP : va_P D vwCl (wLw cI cJ cC cG h9 hn ap ht h0 pc u x ad oa out m') H := hP
  have hD : va_D A (wLw cI cJ cC cG h9 hn ap ht h0 pc u x ad oa out m') := hD
  refine lv_iload K.hx K.hb dL_law_1036 (lv_at hl 1 rfl) ?_
  refine lv_icmp_eq (tgt := 1043) K.hx K.hb dL_law_1038 (by decide) (fun cc => ?_) (fun cc => absurd h3 cc)
  refine lv_iload K.hx K.hb dL_law_1043 (lv_at hl 1 rfl) ?_
  refine lv_if_ne (tgt := 1060) K.hx K.hb dL_law_1045 (by decide) (fun cc => ?_) (fun cc => absurd cc (by decide))
  refine lv_goto (tgt := 2028) K.hx K.hb dL_law_1060 (by decide) ?_
  exact kk H locs ls hP hD hS (lv_sub hl [2, 3, 4, 5, 6] rfl)
set_option maxHeartbeats 8000000 in
set_option maxRecDepth 100000 in
theorem wl_piecesOn {p : Program} {l : Launch} {e : Env} {s : State} {m : MethodId} {b L : Nat} {xs : Nat → Int32} {below : List Frame} {meth : Method} {c : Code} {A : Nat → Prop} {D : va_G} {cI cJ cC cG : ClassId} {h9 hn h0 : Nat} {ap ht pc : Nat → Nat} {u : lwH} {x : XT} {m1 : MT} {ad : Nat → Nat} {oa : Nat} {out : Nat → Int64} {H : Heap} {locs : List Loc} {ls : Array Slot} {Q : State → Prop} {C S j : Nat} (K : lwK p l s m b L xs meth c A D cI cJ cC cG) (hP : va_P D vwCl (wLw cI cJ cC cG h9 hn ap ht h0 pc u x ad oa out m1) H) (hD : va_D A (wLw cI cJ cC cG h9 hn ap ht h0 pc u x ad oa out m1)) (hS : va_S A s.heap H locs) (hl : lv_has ls 9 (lw_lv b h9 (ad 0) oa j)) (hj : j + 4 ≤ L) (hL : L ≤ 2048) {r : Int32} {x' : XT} {r' : Int32} {m' : MT} (hf : C + 0 ≤ room_1.cells ∧ S + 0 ≤ room_1.slots) (h1 : XN_piecesOn x (xs (j + 1)) (xs (j + 2)) = some (r, x')) (h2 : MN_piecesOn m1 (xs (j + 1)) (xs (j + 2)) = some (r', m')) (h3 : thr m' = 0) (h4 : (Int32.toInt64 r) = Int32.toInt64 r') (kk : ∀ (u : lwH) (H : Heap) (locs : List Loc) (ls : Array Slot), va_P D vwCl (wLw cI cJ cC cG h9 hn ap ht h0 pc u x' ad oa (vp_updL out (Int32.toNatClampNeg 0) (Int32.toInt64 r)) m') H → va_D A (wLw cI cJ cC cG h9 hn ap ht h0 pc u x' ad oa (vp_updL out (Int32.toNatClampNeg 0) (Int32.toInt64 r)) m') → va_S A s.heap H locs → lv_has ls 9 (lw_lv b h9 (ad 0) oa j) → W p l e room_1 s m #[Value.ref b] below meth c H locs C S Q (F0 m 2028 ls [])) : W p l e room_1 s m #[Value.ref b] below meth c H locs C S Q (F0 m 1063 ls []) := by
  have hl : lv_has ls 9 [(4, .int (lw_i j)), (3, .ref oa), (2, .ref (ad 0)), (1, .ref h9), (0, .ref b)] := hl
  refine lv_aload_n K.hx K.hb dL_law_1063 rfl (lv_at hl 3 rfl) ?_
  refine lw_arg1 K hS (lv_at hl 4 rfl) (lv_at hl 0 rfl) hj hL dL_law_1064 dL_law_1065 dL_law_1067 dL_law_1068 dL_law_1069 ?_
  refine lw_arg2 K hS (lv_at hl 4 rfl) (lv_at hl 0 rfl) hj hL dL_law_1070 dL_law_1071 dL_law_1073 dL_law_1074 dL_law_1075 ?_
  refine lv_aload_n K.hx K.hb dL_law_1076 rfl (lv_at hl 1 rfl) ?_
  have hPc : va_P D vwCl (wX1 cI cJ cC cG h9 hn ap ht h0 pc u x oa out) _ := kp_l hP
  have hDc : va_D A (wX1 cI cJ cC cG h9 hn ap ht h0 pc u x oa out) := kd_l hD
  refine kj_i1 (k_rSW (As := [.ref h9, .int (xs (j + 1)), .int (xs (j + 2)), .ref oa]) (rest := []) ⟨K.hx, K.hb, K.hml, K.hown, K.hts⟩ K.hK K.hN hPc hDc (zB_piecesOn h1) (vx_cwSW (hh := [(0, 10, 13, 21)]) 4 K.hts gL_law_L_piecesOn rfl rfl rfl (by decide +kernel) ⟨Nat.le_of_ble_eq_true rfl, Nat.le_of_ble_eq_true rfl⟩) rfl hl.1 rfl (Nat.le_of_ble_eq_true rfl) dL_law_1077 hf) hP hD hS K.hA (fun u H locs hP hD hS => ?_)
  have hP : va_P D vwCl (wLw cI cJ cC cG h9 hn ap ht h0 pc u x' ad oa (vp_updL out (Int32.toNatClampNeg 0) (Int32.toInt64 r)) m1) H := hP
  have hD : va_D A (wLw cI cJ cC cG h9 hn ap ht h0 pc u x' ad oa (vp_updL out (Int32.toNatClampNeg 0) (Int32.toInt64 r)) m1) := hD
  refine lv_istore (lv' := [(5, .int 0), (4, .int (lw_i j)), (3, .ref oa), (2, .ref (ad 0)), (1, .ref h9), (0, .ref b)]) K.hx K.hb dL_law_1080 hl (by decide) rfl (fun ls hl => ?_)
  refine lv_aload_n K.hx K.hb dL_law_1082 rfl (lv_at hl 3 rfl) ?_
  refine lw_arg1 K hS (lv_at hl 5 rfl) (lv_at hl 1 rfl) hj hL dL_law_1083 dL_law_1084 dL_law_1086 dL_law_1087 dL_law_1088 ?_
  refine lw_arg2 K hS (lv_at hl 5 rfl) (lv_at hl 1 rfl) hj hL dL_law_1089 dL_law_1090 dL_law_1092 dL_law_1093 dL_law_1094 ?_
  have hPc : va_P D vwCl (wMt cI cJ ad m1) _ := kp_r hP
  have hDc : va_D A (wMt cI cJ ad m1) := kd_r hD
  refine kj_i2 (k_rV (As := [.int (xs (j + 1)), .int (xs (j + 2))]) (rest := []) ⟨K.hx, K.hb, K.hml, K.hown, K.hts⟩ K.hK K.hN hPc hDc (zM_piecesOn h2) (cwV 2 K.hts gL_law_X10_piecesOn rfl rfl rfl (by decide +kernel) ⟨Nat.le_of_ble_eq_true rfl, Nat.le_of_ble_eq_true rfl⟩) rfl rfl rfl hl.1 rfl (Nat.le_of_ble_eq_true rfl) dL_law_1095 hf) hP hD hS K.hA (fun H locs hP hD hS => ?_)
  have hP : va_P D vwCl (wLw cI cJ cC cG h9 hn ap ht h0 pc u x' ad oa (vp_updL out (Int32.toNatClampNeg 0) (Int32.toInt64 r)) m') H := hP
  have hD : va_D A (wLw cI cJ cC cG h9 hn ap ht h0 pc u x' ad oa (vp_updL out (Int32.toNatClampNeg 0) (Int32.toInt64 r)) m') := hD
  refine lv_istore (lv' := [(6, .int r'), (5, .int 0), (4, .int (lw_i j)), (3, .ref oa), (2, .ref (ad 0)), (1, .ref h9), (0, .ref b)]) K.hx K.hb dL_law_1098 hl (by decide) rfl (fun ls hl => ?_)
  refine lv_aload_n K.hx K.hb dL_law_1100 rfl (lv_at hl 4 rfl) ?_
  have hPc : va_P D vwCl (wMt cI cJ ad m') _ := kp_r hP
  have hDc : va_D A (wMt cI cJ ad m') := kd_r hD
  refine kj_i2 (k_rV (As := []) (rest := []) ⟨K.hx, K.hb, K.hml, K.hown, K.hts⟩ K.hK K.hN hPc hDc zM_thrown (cwV 0 K.hts gL_law_X10_thrown rfl rfl rfl (by decide +kernel) ⟨Nat.le_of_ble_eq_true rfl, Nat.le_of_ble_eq_true rfl⟩) rfl rfl rfl hl.1 rfl (Nat.le_of_ble_eq_true rfl) dL_law_1101 hf) hP hD hS K.hA (fun H locs hP hD hS => ?_)
  have hP : va_P D vwCl (wLw cI cJ cC cG h9 hn ap ht h0 pc u x' ad oa (vp_updL out (Int32.toNatClampNeg 0) (Int32.toInt64 r)) m') H := hP
  have hD : va_D A (wLw cI cJ cC cG h9 hn ap ht h0 pc u x' ad oa (vp_updL out (Int32.toNatClampNeg 0) (Int32.toInt64 r)) m') := hD
  refine lv_iload K.hx K.hb dL_law_1104 (lv_at hl 1 rfl) ?_
  refine lv_icmp_eq (tgt := 1111) K.hx K.hb dL_law_1106 (by decide) (fun cc => ?_) (fun cc => absurd h3 cc)
  refine lv_iload K.hx K.hb dL_law_1111 (lv_at hl 1 rfl) ?_
  refine lv_if_ne (tgt := 1128) K.hx K.hb dL_law_1113 (by decide) (fun cc => absurd rfl cc) (fun cc => ?_)
  refine lv_aload_n K.hx K.hb dL_law_1116 rfl (lv_at hl 3 rfl) ?_
  refine lv_iconst (v := 0) K.hx K.hb dL_law_1117 (by decide) ?_
  refine va_lald K.hx K.hb K.hK hP 25 1 rfl rfl kv_01 dL_law_1118 ?_
  refine W.eq (g2 := F0 m 1119 _ (.long (Int32.toInt64 r) :: [])) (by rw [lw_out]) ?_
  refine lv_iload K.hx K.hb dL_law_1119 (lv_at hl 0 rfl) ?_
  refine lv_i2l (v := Int32.toInt64 r') K.hx K.hb dL_law_1121 rfl ?_
  refine W.lcmp K.hx K.hb dL_law_1122 ?_
  refine lv_if_eq (tgt := 1128) K.hx K.hb dL_law_1123 (by decide) (fun cc => ?_) (fun cc => absurd (lw_ceq h4) cc)
  refine lv_goto (tgt := 2028) K.hx K.hb dL_law_1128 (by decide) ?_
  exact kk u H locs ls hP hD hS (lv_sub hl [2, 3, 4, 5, 6] rfl)
set_option maxHeartbeats 8000000 in
set_option maxRecDepth 100000 in
theorem wlT_piecesOn_1 {p : Program} {l : Launch} {e : Env} {s : State} {m : MethodId} {b L : Nat} {xs : Nat → Int32} {below : List Frame} {meth : Method} {c : Code} {A : Nat → Prop} {D : va_G} {cI cJ cC cG : ClassId} {h9 hn h0 : Nat} {ap ht pc : Nat → Nat} {u : lwH} {x : XT} {m1 : MT} {ad : Nat → Nat} {oa : Nat} {out : Nat → Int64} {H : Heap} {locs : List Loc} {ls : Array Slot} {Q : State → Prop} {C S j : Nat} (K : lwK p l s m b L xs meth c A D cI cJ cC cG) (hP : va_P D vwCl (wLw cI cJ cC cG h9 hn ap ht h0 pc u x ad oa out m1) H) (hD : va_D A (wLw cI cJ cC cG h9 hn ap ht h0 pc u x ad oa out m1)) (hS : va_S A s.heap H locs) (hl : lv_has ls 9 (lw_lv b h9 (ad 0) oa j)) (hj : j + 4 ≤ L) (hL : L ≤ 2048) {r' : Int32} {m' : MT} (hf : C + 1 ≤ room_1.cells ∧ S + 6 ≤ room_1.slots) (h1 : XT_piecesOn x (xs (j + 1)) (xs (j + 2)) = some "java/lang/IndexOutOfBoundsException") (h2 : MN_piecesOn m1 (xs (j + 1)) (xs (j + 2)) = some (r', m')) (h3 : thr m' = 1) (kk : ∀ (H : Heap) (locs : List Loc) (ls : Array Slot), va_P D vwCl (wLw cI cJ cC cG h9 hn ap ht h0 pc u x ad oa out m') H → va_D A (wLw cI cJ cC cG h9 hn ap ht h0 pc u x ad oa out m') → va_S A s.heap H locs → lv_has ls 9 (lw_lv b h9 (ad 0) oa j) → W p l e room_1 s m #[Value.ref b] below meth c H locs (C + 1) (S + 6) Q (F0 m 2028 ls [])) : W p l e room_1 s m #[Value.ref b] below meth c H locs C S Q (F0 m 1063 ls []) := by
  have hl : lv_has ls 9 [(4, .int (lw_i j)), (3, .ref oa), (2, .ref (ad 0)), (1, .ref h9), (0, .ref b)] := hl
  refine lv_aload_n K.hx K.hb dL_law_1063 rfl (lv_at hl 3 rfl) ?_
  refine lw_arg1 K hS (lv_at hl 4 rfl) (lv_at hl 0 rfl) hj hL dL_law_1064 dL_law_1065 dL_law_1067 dL_law_1068 dL_law_1069 ?_
  refine lw_arg2 K hS (lv_at hl 4 rfl) (lv_at hl 0 rfl) hj hL dL_law_1070 dL_law_1071 dL_law_1073 dL_law_1074 dL_law_1075 ?_
  refine lv_aload_n K.hx K.hb dL_law_1076 rfl (lv_at hl 1 rfl) ?_
  have hPc : va_P D vwCl (wX1 cI cJ cC cG h9 hn ap ht h0 pc u x oa out) _ := kp_l hP
  have hDc : va_D A (wX1 cI cJ cC cG h9 hn ap ht h0 pc u x oa out) := kd_l hD
  refine kj_x1 (k_rSWT (As := [.ref h9, .int (xs (j + 1)), .int (xs (j + 2)), .ref oa]) (rest := []) ⟨K.hx, K.hb, K.hml, K.hown, K.hts⟩ K.hK K.hN K.hq hS (kj_F hD hS K.hA) hPc hDc (zBT_piecesOn_1 K.hst h1) (vx_cwSW (hh := [(0, 10, 13, 21)]) 4 K.hts gL_law_L_piecesOn rfl rfl rfl (by decide +kernel) ⟨Nat.le_of_ble_eq_true rfl, Nat.le_of_ble_eq_true rfl⟩) rfl hl.1 rfl (Nat.le_of_ble_eq_true rfl) dL_law_1077 hf) hP hD hS K.hA (fun H locs hP hD hS => ?_)
  have hP : va_P D vwCl (wLw cI cJ cC cG h9 hn ap ht h0 pc u x ad oa out m1) H := hP
  have hD : va_D A (wLw cI cJ cC cG h9 hn ap ht h0 pc u x ad oa out m1) := hD
  refine lv_istore (lv' := [(5, .int 1), (4, .int (lw_i j)), (3, .ref oa), (2, .ref (ad 0)), (1, .ref h9), (0, .ref b)]) K.hx K.hb dL_law_1080 hl (by decide) rfl (fun ls hl => ?_)
  refine lv_aload_n K.hx K.hb dL_law_1082 rfl (lv_at hl 3 rfl) ?_
  refine lw_arg1 K hS (lv_at hl 5 rfl) (lv_at hl 1 rfl) hj hL dL_law_1083 dL_law_1084 dL_law_1086 dL_law_1087 dL_law_1088 ?_
  refine lw_arg2 K hS (lv_at hl 5 rfl) (lv_at hl 1 rfl) hj hL dL_law_1089 dL_law_1090 dL_law_1092 dL_law_1093 dL_law_1094 ?_
  have hPc : va_P D vwCl (wMt cI cJ ad m1) _ := kp_r hP
  have hDc : va_D A (wMt cI cJ ad m1) := kd_r hD
  refine kj_i2 (k_rV (As := [.int (xs (j + 1)), .int (xs (j + 2))]) (rest := []) ⟨K.hx, K.hb, K.hml, K.hown, K.hts⟩ K.hK K.hN hPc hDc (zM_piecesOn h2) (cwV 2 K.hts gL_law_X10_piecesOn rfl rfl rfl (by decide +kernel) ⟨Nat.le_of_ble_eq_true rfl, Nat.le_of_ble_eq_true rfl⟩) rfl rfl rfl hl.1 rfl (Nat.le_of_ble_eq_true rfl) dL_law_1095 (lw_fit hf)) hP hD hS K.hA (fun H locs hP hD hS => ?_)
  have hP : va_P D vwCl (wLw cI cJ cC cG h9 hn ap ht h0 pc u x ad oa out m') H := hP
  have hD : va_D A (wLw cI cJ cC cG h9 hn ap ht h0 pc u x ad oa out m') := hD
  refine lv_istore (lv' := [(6, .int r'), (5, .int 1), (4, .int (lw_i j)), (3, .ref oa), (2, .ref (ad 0)), (1, .ref h9), (0, .ref b)]) K.hx K.hb dL_law_1098 hl (by decide) rfl (fun ls hl => ?_)
  refine lv_aload_n K.hx K.hb dL_law_1100 rfl (lv_at hl 4 rfl) ?_
  have hPc : va_P D vwCl (wMt cI cJ ad m') _ := kp_r hP
  have hDc : va_D A (wMt cI cJ ad m') := kd_r hD
  refine kj_i2 (k_rV (As := []) (rest := []) ⟨K.hx, K.hb, K.hml, K.hown, K.hts⟩ K.hK K.hN hPc hDc zM_thrown (cwV 0 K.hts gL_law_X10_thrown rfl rfl rfl (by decide +kernel) ⟨Nat.le_of_ble_eq_true rfl, Nat.le_of_ble_eq_true rfl⟩) rfl rfl rfl hl.1 rfl (Nat.le_of_ble_eq_true rfl) dL_law_1101 (lw_fit hf)) hP hD hS K.hA (fun H locs hP hD hS => ?_)
  have hP : va_P D vwCl (wLw cI cJ cC cG h9 hn ap ht h0 pc u x ad oa out m') H := hP
  have hD : va_D A (wLw cI cJ cC cG h9 hn ap ht h0 pc u x ad oa out m') := hD
  refine lv_iload K.hx K.hb dL_law_1104 (lv_at hl 1 rfl) ?_
  refine lv_icmp_eq (tgt := 1111) K.hx K.hb dL_law_1106 (by decide) (fun cc => ?_) (fun cc => absurd h3 cc)
  refine lv_iload K.hx K.hb dL_law_1111 (lv_at hl 1 rfl) ?_
  refine lv_if_ne (tgt := 1128) K.hx K.hb dL_law_1113 (by decide) (fun cc => ?_) (fun cc => absurd cc (by decide))
  refine lv_goto (tgt := 2028) K.hx K.hb dL_law_1128 (by decide) ?_
  exact kk H locs ls hP hD hS (lv_sub hl [2, 3, 4, 5, 6] rfl)
set_option maxHeartbeats 8000000 in
set_option maxRecDepth 100000 in
theorem wl_onBar {p : Program} {l : Launch} {e : Env} {s : State} {m : MethodId} {b L : Nat} {xs : Nat → Int32} {below : List Frame} {meth : Method} {c : Code} {A : Nat → Prop} {D : va_G} {cI cJ cC cG : ClassId} {h9 hn h0 : Nat} {ap ht pc : Nat → Nat} {u : lwH} {x : XT} {m1 : MT} {ad : Nat → Nat} {oa : Nat} {out : Nat → Int64} {H : Heap} {locs : List Loc} {ls : Array Slot} {Q : State → Prop} {C S j : Nat} (K : lwK p l s m b L xs meth c A D cI cJ cC cG) (hP : va_P D vwCl (wLw cI cJ cC cG h9 hn ap ht h0 pc u x ad oa out m1) H) (hD : va_D A (wLw cI cJ cC cG h9 hn ap ht h0 pc u x ad oa out m1)) (hS : va_S A s.heap H locs) (hl : lv_has ls 9 (lw_lv b h9 (ad 0) oa j)) (hj : j + 4 ≤ L) (hL : L ≤ 2048) {r : Int32} {x' : XT} {r' : Int32} {m' : MT} (hf : C + 0 ≤ room_1.cells ∧ S + 0 ≤ room_1.slots) (h1 : XN_onBar x (xs (j + 1)) = some (r, x')) (h2 : MN_onBar m1 (xs (j + 1)) = some (r', m')) (h3 : thr m' = 0) (h4 : (Int32.toInt64 r) = Int32.toInt64 r') (kk : ∀ (u : lwH) (H : Heap) (locs : List Loc) (ls : Array Slot), va_P D vwCl (wLw cI cJ cC cG h9 hn ap ht h0 pc u x' ad oa (vp_updL out (Int32.toNatClampNeg 0) (Int32.toInt64 r)) m') H → va_D A (wLw cI cJ cC cG h9 hn ap ht h0 pc u x' ad oa (vp_updL out (Int32.toNatClampNeg 0) (Int32.toInt64 r)) m') → va_S A s.heap H locs → lv_has ls 9 (lw_lv b h9 (ad 0) oa j) → W p l e room_1 s m #[Value.ref b] below meth c H locs C S Q (F0 m 2028 ls [])) : W p l e room_1 s m #[Value.ref b] below meth c H locs C S Q (F0 m 1131 ls []) := by
  have hl : lv_has ls 9 [(4, .int (lw_i j)), (3, .ref oa), (2, .ref (ad 0)), (1, .ref h9), (0, .ref b)] := hl
  refine lv_aload_n K.hx K.hb dL_law_1131 rfl (lv_at hl 3 rfl) ?_
  refine lw_arg1 K hS (lv_at hl 4 rfl) (lv_at hl 0 rfl) hj hL dL_law_1132 dL_law_1133 dL_law_1135 dL_law_1136 dL_law_1137 ?_
  refine lv_aload_n K.hx K.hb dL_law_1138 rfl (lv_at hl 1 rfl) ?_
  have hPc : va_P D vwCl (wX1 cI cJ cC cG h9 hn ap ht h0 pc u x oa out) _ := kp_l hP
  have hDc : va_D A (wX1 cI cJ cC cG h9 hn ap ht h0 pc u x oa out) := kd_l hD
  refine kj_i1 (k_rSW (As := [.ref h9, .int (xs (j + 1)), .ref oa]) (rest := []) ⟨K.hx, K.hb, K.hml, K.hown, K.hts⟩ K.hK K.hN hPc hDc (zB_onBar h1) (vx_cwSW (hh := [(0, 9, 12, 21)]) 3 K.hts gL_law_L_onBar rfl rfl rfl (by decide +kernel) ⟨Nat.le_of_ble_eq_true rfl, Nat.le_of_ble_eq_true rfl⟩) rfl hl.1 rfl (Nat.le_of_ble_eq_true rfl) dL_law_1139 hf) hP hD hS K.hA (fun u H locs hP hD hS => ?_)
  have hP : va_P D vwCl (wLw cI cJ cC cG h9 hn ap ht h0 pc u x' ad oa (vp_updL out (Int32.toNatClampNeg 0) (Int32.toInt64 r)) m1) H := hP
  have hD : va_D A (wLw cI cJ cC cG h9 hn ap ht h0 pc u x' ad oa (vp_updL out (Int32.toNatClampNeg 0) (Int32.toInt64 r)) m1) := hD
  refine lv_istore (lv' := [(5, .int 0), (4, .int (lw_i j)), (3, .ref oa), (2, .ref (ad 0)), (1, .ref h9), (0, .ref b)]) K.hx K.hb dL_law_1142 hl (by decide) rfl (fun ls hl => ?_)
  refine lv_aload_n K.hx K.hb dL_law_1144 rfl (lv_at hl 3 rfl) ?_
  refine lw_arg1 K hS (lv_at hl 5 rfl) (lv_at hl 1 rfl) hj hL dL_law_1145 dL_law_1146 dL_law_1148 dL_law_1149 dL_law_1150 ?_
  have hPc : va_P D vwCl (wMt cI cJ ad m1) _ := kp_r hP
  have hDc : va_D A (wMt cI cJ ad m1) := kd_r hD
  refine kj_i2 (k_rV (As := [.int (xs (j + 1))]) (rest := []) ⟨K.hx, K.hb, K.hml, K.hown, K.hts⟩ K.hK K.hN hPc hDc (zM_onBar h2) (cwV 1 K.hts gL_law_X10_onBar rfl rfl rfl (by decide +kernel) ⟨Nat.le_of_ble_eq_true rfl, Nat.le_of_ble_eq_true rfl⟩) rfl rfl rfl hl.1 rfl (Nat.le_of_ble_eq_true rfl) dL_law_1151 hf) hP hD hS K.hA (fun H locs hP hD hS => ?_)
  have hP : va_P D vwCl (wLw cI cJ cC cG h9 hn ap ht h0 pc u x' ad oa (vp_updL out (Int32.toNatClampNeg 0) (Int32.toInt64 r)) m') H := hP
  have hD : va_D A (wLw cI cJ cC cG h9 hn ap ht h0 pc u x' ad oa (vp_updL out (Int32.toNatClampNeg 0) (Int32.toInt64 r)) m') := hD
  refine lv_istore (lv' := [(6, .int r'), (5, .int 0), (4, .int (lw_i j)), (3, .ref oa), (2, .ref (ad 0)), (1, .ref h9), (0, .ref b)]) K.hx K.hb dL_law_1154 hl (by decide) rfl (fun ls hl => ?_)
  refine lv_aload_n K.hx K.hb dL_law_1156 rfl (lv_at hl 4 rfl) ?_
  have hPc : va_P D vwCl (wMt cI cJ ad m') _ := kp_r hP
  have hDc : va_D A (wMt cI cJ ad m') := kd_r hD
  refine kj_i2 (k_rV (As := []) (rest := []) ⟨K.hx, K.hb, K.hml, K.hown, K.hts⟩ K.hK K.hN hPc hDc zM_thrown (cwV 0 K.hts gL_law_X10_thrown rfl rfl rfl (by decide +kernel) ⟨Nat.le_of_ble_eq_true rfl, Nat.le_of_ble_eq_true rfl⟩) rfl rfl rfl hl.1 rfl (Nat.le_of_ble_eq_true rfl) dL_law_1157 hf) hP hD hS K.hA (fun H locs hP hD hS => ?_)
  have hP : va_P D vwCl (wLw cI cJ cC cG h9 hn ap ht h0 pc u x' ad oa (vp_updL out (Int32.toNatClampNeg 0) (Int32.toInt64 r)) m') H := hP
  have hD : va_D A (wLw cI cJ cC cG h9 hn ap ht h0 pc u x' ad oa (vp_updL out (Int32.toNatClampNeg 0) (Int32.toInt64 r)) m') := hD
  refine lv_iload K.hx K.hb dL_law_1160 (lv_at hl 1 rfl) ?_
  refine lv_icmp_eq (tgt := 1167) K.hx K.hb dL_law_1162 (by decide) (fun cc => ?_) (fun cc => absurd h3 cc)
  refine lv_iload K.hx K.hb dL_law_1167 (lv_at hl 1 rfl) ?_
  refine lv_if_ne (tgt := 1184) K.hx K.hb dL_law_1169 (by decide) (fun cc => absurd rfl cc) (fun cc => ?_)
  refine lv_aload_n K.hx K.hb dL_law_1172 rfl (lv_at hl 3 rfl) ?_
  refine lv_iconst (v := 0) K.hx K.hb dL_law_1173 (by decide) ?_
  refine va_lald K.hx K.hb K.hK hP 25 1 rfl rfl kv_01 dL_law_1174 ?_
  refine W.eq (g2 := F0 m 1175 _ (.long (Int32.toInt64 r) :: [])) (by rw [lw_out]) ?_
  refine lv_iload K.hx K.hb dL_law_1175 (lv_at hl 0 rfl) ?_
  refine lv_i2l (v := Int32.toInt64 r') K.hx K.hb dL_law_1177 rfl ?_
  refine W.lcmp K.hx K.hb dL_law_1178 ?_
  refine lv_if_eq (tgt := 1184) K.hx K.hb dL_law_1179 (by decide) (fun cc => ?_) (fun cc => absurd (lw_ceq h4) cc)
  refine lv_goto (tgt := 2028) K.hx K.hb dL_law_1184 (by decide) ?_
  exact kk u H locs ls hP hD hS (lv_sub hl [2, 3, 4, 5, 6] rfl)
set_option maxHeartbeats 8000000 in
set_option maxRecDepth 100000 in
theorem wlT_onBar_1 {p : Program} {l : Launch} {e : Env} {s : State} {m : MethodId} {b L : Nat} {xs : Nat → Int32} {below : List Frame} {meth : Method} {c : Code} {A : Nat → Prop} {D : va_G} {cI cJ cC cG : ClassId} {h9 hn h0 : Nat} {ap ht pc : Nat → Nat} {u : lwH} {x : XT} {m1 : MT} {ad : Nat → Nat} {oa : Nat} {out : Nat → Int64} {H : Heap} {locs : List Loc} {ls : Array Slot} {Q : State → Prop} {C S j : Nat} (K : lwK p l s m b L xs meth c A D cI cJ cC cG) (hP : va_P D vwCl (wLw cI cJ cC cG h9 hn ap ht h0 pc u x ad oa out m1) H) (hD : va_D A (wLw cI cJ cC cG h9 hn ap ht h0 pc u x ad oa out m1)) (hS : va_S A s.heap H locs) (hl : lv_has ls 9 (lw_lv b h9 (ad 0) oa j)) (hj : j + 4 ≤ L) (hL : L ≤ 2048) {r' : Int32} {m' : MT} (hf : C + 1 ≤ room_1.cells ∧ S + 6 ≤ room_1.slots) (h1 : XT_onBar x (xs (j + 1)) = some "java/lang/IndexOutOfBoundsException") (h2 : MN_onBar m1 (xs (j + 1)) = some (r', m')) (h3 : thr m' = 1) (kk : ∀ (H : Heap) (locs : List Loc) (ls : Array Slot), va_P D vwCl (wLw cI cJ cC cG h9 hn ap ht h0 pc u x ad oa out m') H → va_D A (wLw cI cJ cC cG h9 hn ap ht h0 pc u x ad oa out m') → va_S A s.heap H locs → lv_has ls 9 (lw_lv b h9 (ad 0) oa j) → W p l e room_1 s m #[Value.ref b] below meth c H locs (C + 1) (S + 6) Q (F0 m 2028 ls [])) : W p l e room_1 s m #[Value.ref b] below meth c H locs C S Q (F0 m 1131 ls []) := by
  have hl : lv_has ls 9 [(4, .int (lw_i j)), (3, .ref oa), (2, .ref (ad 0)), (1, .ref h9), (0, .ref b)] := hl
  refine lv_aload_n K.hx K.hb dL_law_1131 rfl (lv_at hl 3 rfl) ?_
  refine lw_arg1 K hS (lv_at hl 4 rfl) (lv_at hl 0 rfl) hj hL dL_law_1132 dL_law_1133 dL_law_1135 dL_law_1136 dL_law_1137 ?_
  refine lv_aload_n K.hx K.hb dL_law_1138 rfl (lv_at hl 1 rfl) ?_
  have hPc : va_P D vwCl (wX1 cI cJ cC cG h9 hn ap ht h0 pc u x oa out) _ := kp_l hP
  have hDc : va_D A (wX1 cI cJ cC cG h9 hn ap ht h0 pc u x oa out) := kd_l hD
  refine kj_x1 (k_rSWT (As := [.ref h9, .int (xs (j + 1)), .ref oa]) (rest := []) ⟨K.hx, K.hb, K.hml, K.hown, K.hts⟩ K.hK K.hN K.hq hS (kj_F hD hS K.hA) hPc hDc (zBT_onBar_1 K.hst h1) (vx_cwSW (hh := [(0, 9, 12, 21)]) 3 K.hts gL_law_L_onBar rfl rfl rfl (by decide +kernel) ⟨Nat.le_of_ble_eq_true rfl, Nat.le_of_ble_eq_true rfl⟩) rfl hl.1 rfl (Nat.le_of_ble_eq_true rfl) dL_law_1139 hf) hP hD hS K.hA (fun H locs hP hD hS => ?_)
  have hP : va_P D vwCl (wLw cI cJ cC cG h9 hn ap ht h0 pc u x ad oa out m1) H := hP
  have hD : va_D A (wLw cI cJ cC cG h9 hn ap ht h0 pc u x ad oa out m1) := hD
  refine lv_istore (lv' := [(5, .int 1), (4, .int (lw_i j)), (3, .ref oa), (2, .ref (ad 0)), (1, .ref h9), (0, .ref b)]) K.hx K.hb dL_law_1142 hl (by decide) rfl (fun ls hl => ?_)
  refine lv_aload_n K.hx K.hb dL_law_1144 rfl (lv_at hl 3 rfl) ?_
  refine lw_arg1 K hS (lv_at hl 5 rfl) (lv_at hl 1 rfl) hj hL dL_law_1145 dL_law_1146 dL_law_1148 dL_law_1149 dL_law_1150 ?_
  have hPc : va_P D vwCl (wMt cI cJ ad m1) _ := kp_r hP
  have hDc : va_D A (wMt cI cJ ad m1) := kd_r hD
  refine kj_i2 (k_rV (As := [.int (xs (j + 1))]) (rest := []) ⟨K.hx, K.hb, K.hml, K.hown, K.hts⟩ K.hK K.hN hPc hDc (zM_onBar h2) (cwV 1 K.hts gL_law_X10_onBar rfl rfl rfl (by decide +kernel) ⟨Nat.le_of_ble_eq_true rfl, Nat.le_of_ble_eq_true rfl⟩) rfl rfl rfl hl.1 rfl (Nat.le_of_ble_eq_true rfl) dL_law_1151 (lw_fit hf)) hP hD hS K.hA (fun H locs hP hD hS => ?_)
  have hP : va_P D vwCl (wLw cI cJ cC cG h9 hn ap ht h0 pc u x ad oa out m') H := hP
  have hD : va_D A (wLw cI cJ cC cG h9 hn ap ht h0 pc u x ad oa out m') := hD
  refine lv_istore (lv' := [(6, .int r'), (5, .int 1), (4, .int (lw_i j)), (3, .ref oa), (2, .ref (ad 0)), (1, .ref h9), (0, .ref b)]) K.hx K.hb dL_law_1154 hl (by decide) rfl (fun ls hl => ?_)
  refine lv_aload_n K.hx K.hb dL_law_1156 rfl (lv_at hl 4 rfl) ?_
  have hPc : va_P D vwCl (wMt cI cJ ad m') _ := kp_r hP
  have hDc : va_D A (wMt cI cJ ad m') := kd_r hD
  refine kj_i2 (k_rV (As := []) (rest := []) ⟨K.hx, K.hb, K.hml, K.hown, K.hts⟩ K.hK K.hN hPc hDc zM_thrown (cwV 0 K.hts gL_law_X10_thrown rfl rfl rfl (by decide +kernel) ⟨Nat.le_of_ble_eq_true rfl, Nat.le_of_ble_eq_true rfl⟩) rfl rfl rfl hl.1 rfl (Nat.le_of_ble_eq_true rfl) dL_law_1157 (lw_fit hf)) hP hD hS K.hA (fun H locs hP hD hS => ?_)
  have hP : va_P D vwCl (wLw cI cJ cC cG h9 hn ap ht h0 pc u x ad oa out m') H := hP
  have hD : va_D A (wLw cI cJ cC cG h9 hn ap ht h0 pc u x ad oa out m') := hD
  refine lv_iload K.hx K.hb dL_law_1160 (lv_at hl 1 rfl) ?_
  refine lv_icmp_eq (tgt := 1167) K.hx K.hb dL_law_1162 (by decide) (fun cc => ?_) (fun cc => absurd h3 cc)
  refine lv_iload K.hx K.hb dL_law_1167 (lv_at hl 1 rfl) ?_
  refine lv_if_ne (tgt := 1184) K.hx K.hb dL_law_1169 (by decide) (fun cc => ?_) (fun cc => absurd cc (by decide))
  refine lv_goto (tgt := 2028) K.hx K.hb dL_law_1184 (by decide) ?_
  exact kk H locs ls hP hD hS (lv_sub hl [2, 3, 4, 5, 6] rfl)
set_option maxHeartbeats 8000000 in
set_option maxRecDepth 100000 in
theorem wl_borneOff {p : Program} {l : Launch} {e : Env} {s : State} {m : MethodId} {b L : Nat} {xs : Nat → Int32} {below : List Frame} {meth : Method} {c : Code} {A : Nat → Prop} {D : va_G} {cI cJ cC cG : ClassId} {h9 hn h0 : Nat} {ap ht pc : Nat → Nat} {u : lwH} {x : XT} {m1 : MT} {ad : Nat → Nat} {oa : Nat} {out : Nat → Int64} {H : Heap} {locs : List Loc} {ls : Array Slot} {Q : State → Prop} {C S j : Nat} (K : lwK p l s m b L xs meth c A D cI cJ cC cG) (hP : va_P D vwCl (wLw cI cJ cC cG h9 hn ap ht h0 pc u x ad oa out m1) H) (hD : va_D A (wLw cI cJ cC cG h9 hn ap ht h0 pc u x ad oa out m1)) (hS : va_S A s.heap H locs) (hl : lv_has ls 9 (lw_lv b h9 (ad 0) oa j)) (hj : j + 4 ≤ L) (hL : L ≤ 2048) {r : Int32} {x' : XT} {r' : Int32} {m' : MT} (hf : C + 0 ≤ room_1.cells ∧ S + 0 ≤ room_1.slots) (h1 : XN_borneOff x (xs (j + 1)) = some (r, x')) (h2 : MN_borneOff m1 (xs (j + 1)) = some (r', m')) (h3 : thr m' = 0) (h4 : (Int32.toInt64 r) = Int32.toInt64 r') (kk : ∀ (u : lwH) (H : Heap) (locs : List Loc) (ls : Array Slot), va_P D vwCl (wLw cI cJ cC cG h9 hn ap ht h0 pc u x' ad oa (vp_updL out (Int32.toNatClampNeg 0) (Int32.toInt64 r)) m') H → va_D A (wLw cI cJ cC cG h9 hn ap ht h0 pc u x' ad oa (vp_updL out (Int32.toNatClampNeg 0) (Int32.toInt64 r)) m') → va_S A s.heap H locs → lv_has ls 9 (lw_lv b h9 (ad 0) oa j) → W p l e room_1 s m #[Value.ref b] below meth c H locs C S Q (F0 m 2028 ls [])) : W p l e room_1 s m #[Value.ref b] below meth c H locs C S Q (F0 m 1187 ls []) := by
  have hl : lv_has ls 9 [(4, .int (lw_i j)), (3, .ref oa), (2, .ref (ad 0)), (1, .ref h9), (0, .ref b)] := hl
  refine lv_aload_n K.hx K.hb dL_law_1187 rfl (lv_at hl 3 rfl) ?_
  refine lw_arg1 K hS (lv_at hl 4 rfl) (lv_at hl 0 rfl) hj hL dL_law_1188 dL_law_1189 dL_law_1191 dL_law_1192 dL_law_1193 ?_
  refine lv_aload_n K.hx K.hb dL_law_1194 rfl (lv_at hl 1 rfl) ?_
  have hPc : va_P D vwCl (wX1 cI cJ cC cG h9 hn ap ht h0 pc u x oa out) _ := kp_l hP
  have hDc : va_D A (wX1 cI cJ cC cG h9 hn ap ht h0 pc u x oa out) := kd_l hD
  refine kj_i1 (k_rSW (As := [.ref h9, .int (xs (j + 1)), .ref oa]) (rest := []) ⟨K.hx, K.hb, K.hml, K.hown, K.hts⟩ K.hK K.hN hPc hDc (zB_borneOff h1) (vx_cwSW (hh := [(0, 9, 12, 21)]) 3 K.hts gL_law_L_borneOff rfl rfl rfl (by decide +kernel) ⟨Nat.le_of_ble_eq_true rfl, Nat.le_of_ble_eq_true rfl⟩) rfl hl.1 rfl (Nat.le_of_ble_eq_true rfl) dL_law_1195 hf) hP hD hS K.hA (fun u H locs hP hD hS => ?_)
  have hP : va_P D vwCl (wLw cI cJ cC cG h9 hn ap ht h0 pc u x' ad oa (vp_updL out (Int32.toNatClampNeg 0) (Int32.toInt64 r)) m1) H := hP
  have hD : va_D A (wLw cI cJ cC cG h9 hn ap ht h0 pc u x' ad oa (vp_updL out (Int32.toNatClampNeg 0) (Int32.toInt64 r)) m1) := hD
  refine lv_istore (lv' := [(5, .int 0), (4, .int (lw_i j)), (3, .ref oa), (2, .ref (ad 0)), (1, .ref h9), (0, .ref b)]) K.hx K.hb dL_law_1198 hl (by decide) rfl (fun ls hl => ?_)
  refine lv_aload_n K.hx K.hb dL_law_1200 rfl (lv_at hl 3 rfl) ?_
  refine lw_arg1 K hS (lv_at hl 5 rfl) (lv_at hl 1 rfl) hj hL dL_law_1201 dL_law_1202 dL_law_1204 dL_law_1205 dL_law_1206 ?_
  have hPc : va_P D vwCl (wMt cI cJ ad m1) _ := kp_r hP
  have hDc : va_D A (wMt cI cJ ad m1) := kd_r hD
  refine kj_i2 (k_rV (As := [.int (xs (j + 1))]) (rest := []) ⟨K.hx, K.hb, K.hml, K.hown, K.hts⟩ K.hK K.hN hPc hDc (zM_borneOff h2) (cwV 1 K.hts gL_law_X10_borneOff rfl rfl rfl (by decide +kernel) ⟨Nat.le_of_ble_eq_true rfl, Nat.le_of_ble_eq_true rfl⟩) rfl rfl rfl hl.1 rfl (Nat.le_of_ble_eq_true rfl) dL_law_1207 hf) hP hD hS K.hA (fun H locs hP hD hS => ?_)
  have hP : va_P D vwCl (wLw cI cJ cC cG h9 hn ap ht h0 pc u x' ad oa (vp_updL out (Int32.toNatClampNeg 0) (Int32.toInt64 r)) m') H := hP
  have hD : va_D A (wLw cI cJ cC cG h9 hn ap ht h0 pc u x' ad oa (vp_updL out (Int32.toNatClampNeg 0) (Int32.toInt64 r)) m') := hD
  refine lv_istore (lv' := [(6, .int r'), (5, .int 0), (4, .int (lw_i j)), (3, .ref oa), (2, .ref (ad 0)), (1, .ref h9), (0, .ref b)]) K.hx K.hb dL_law_1210 hl (by decide) rfl (fun ls hl => ?_)
  refine lv_aload_n K.hx K.hb dL_law_1212 rfl (lv_at hl 4 rfl) ?_
  have hPc : va_P D vwCl (wMt cI cJ ad m') _ := kp_r hP
  have hDc : va_D A (wMt cI cJ ad m') := kd_r hD
  refine kj_i2 (k_rV (As := []) (rest := []) ⟨K.hx, K.hb, K.hml, K.hown, K.hts⟩ K.hK K.hN hPc hDc zM_thrown (cwV 0 K.hts gL_law_X10_thrown rfl rfl rfl (by decide +kernel) ⟨Nat.le_of_ble_eq_true rfl, Nat.le_of_ble_eq_true rfl⟩) rfl rfl rfl hl.1 rfl (Nat.le_of_ble_eq_true rfl) dL_law_1213 hf) hP hD hS K.hA (fun H locs hP hD hS => ?_)
  have hP : va_P D vwCl (wLw cI cJ cC cG h9 hn ap ht h0 pc u x' ad oa (vp_updL out (Int32.toNatClampNeg 0) (Int32.toInt64 r)) m') H := hP
  have hD : va_D A (wLw cI cJ cC cG h9 hn ap ht h0 pc u x' ad oa (vp_updL out (Int32.toNatClampNeg 0) (Int32.toInt64 r)) m') := hD
  refine lv_iload K.hx K.hb dL_law_1216 (lv_at hl 1 rfl) ?_
  refine lv_icmp_eq (tgt := 1223) K.hx K.hb dL_law_1218 (by decide) (fun cc => ?_) (fun cc => absurd h3 cc)
  refine lv_iload K.hx K.hb dL_law_1223 (lv_at hl 1 rfl) ?_
  refine lv_if_ne (tgt := 1240) K.hx K.hb dL_law_1225 (by decide) (fun cc => absurd rfl cc) (fun cc => ?_)
  refine lv_aload_n K.hx K.hb dL_law_1228 rfl (lv_at hl 3 rfl) ?_
  refine lv_iconst (v := 0) K.hx K.hb dL_law_1229 (by decide) ?_
  refine va_lald K.hx K.hb K.hK hP 25 1 rfl rfl kv_01 dL_law_1230 ?_
  refine W.eq (g2 := F0 m 1231 _ (.long (Int32.toInt64 r) :: [])) (by rw [lw_out]) ?_
  refine lv_iload K.hx K.hb dL_law_1231 (lv_at hl 0 rfl) ?_
  refine lv_i2l (v := Int32.toInt64 r') K.hx K.hb dL_law_1233 rfl ?_
  refine W.lcmp K.hx K.hb dL_law_1234 ?_
  refine lv_if_eq (tgt := 1240) K.hx K.hb dL_law_1235 (by decide) (fun cc => ?_) (fun cc => absurd (lw_ceq h4) cc)
  refine lv_goto (tgt := 2028) K.hx K.hb dL_law_1240 (by decide) ?_
  exact kk u H locs ls hP hD hS (lv_sub hl [2, 3, 4, 5, 6] rfl)
set_option maxHeartbeats 8000000 in
set_option maxRecDepth 100000 in
theorem wlT_borneOff_1 {p : Program} {l : Launch} {e : Env} {s : State} {m : MethodId} {b L : Nat} {xs : Nat → Int32} {below : List Frame} {meth : Method} {c : Code} {A : Nat → Prop} {D : va_G} {cI cJ cC cG : ClassId} {h9 hn h0 : Nat} {ap ht pc : Nat → Nat} {u : lwH} {x : XT} {m1 : MT} {ad : Nat → Nat} {oa : Nat} {out : Nat → Int64} {H : Heap} {locs : List Loc} {ls : Array Slot} {Q : State → Prop} {C S j : Nat} (K : lwK p l s m b L xs meth c A D cI cJ cC cG) (hP : va_P D vwCl (wLw cI cJ cC cG h9 hn ap ht h0 pc u x ad oa out m1) H) (hD : va_D A (wLw cI cJ cC cG h9 hn ap ht h0 pc u x ad oa out m1)) (hS : va_S A s.heap H locs) (hl : lv_has ls 9 (lw_lv b h9 (ad 0) oa j)) (hj : j + 4 ≤ L) (hL : L ≤ 2048) {r' : Int32} {m' : MT} (hf : C + 1 ≤ room_1.cells ∧ S + 6 ≤ room_1.slots) (h1 : XT_borneOff x (xs (j + 1)) = some "java/lang/IndexOutOfBoundsException") (h2 : MN_borneOff m1 (xs (j + 1)) = some (r', m')) (h3 : thr m' = 1) (kk : ∀ (H : Heap) (locs : List Loc) (ls : Array Slot), va_P D vwCl (wLw cI cJ cC cG h9 hn ap ht h0 pc u x ad oa out m') H → va_D A (wLw cI cJ cC cG h9 hn ap ht h0 pc u x ad oa out m') → va_S A s.heap H locs → lv_has ls 9 (lw_lv b h9 (ad 0) oa j) → W p l e room_1 s m #[Value.ref b] below meth c H locs (C + 1) (S + 6) Q (F0 m 2028 ls [])) : W p l e room_1 s m #[Value.ref b] below meth c H locs C S Q (F0 m 1187 ls []) := by
  have hl : lv_has ls 9 [(4, .int (lw_i j)), (3, .ref oa), (2, .ref (ad 0)), (1, .ref h9), (0, .ref b)] := hl
  refine lv_aload_n K.hx K.hb dL_law_1187 rfl (lv_at hl 3 rfl) ?_
  refine lw_arg1 K hS (lv_at hl 4 rfl) (lv_at hl 0 rfl) hj hL dL_law_1188 dL_law_1189 dL_law_1191 dL_law_1192 dL_law_1193 ?_
  refine lv_aload_n K.hx K.hb dL_law_1194 rfl (lv_at hl 1 rfl) ?_
  have hPc : va_P D vwCl (wX1 cI cJ cC cG h9 hn ap ht h0 pc u x oa out) _ := kp_l hP
  have hDc : va_D A (wX1 cI cJ cC cG h9 hn ap ht h0 pc u x oa out) := kd_l hD
  refine kj_x1 (k_rSWT (As := [.ref h9, .int (xs (j + 1)), .ref oa]) (rest := []) ⟨K.hx, K.hb, K.hml, K.hown, K.hts⟩ K.hK K.hN K.hq hS (kj_F hD hS K.hA) hPc hDc (zBT_borneOff_1 K.hst h1) (vx_cwSW (hh := [(0, 9, 12, 21)]) 3 K.hts gL_law_L_borneOff rfl rfl rfl (by decide +kernel) ⟨Nat.le_of_ble_eq_true rfl, Nat.le_of_ble_eq_true rfl⟩) rfl hl.1 rfl (Nat.le_of_ble_eq_true rfl) dL_law_1195 hf) hP hD hS K.hA (fun H locs hP hD hS => ?_)
  have hP : va_P D vwCl (wLw cI cJ cC cG h9 hn ap ht h0 pc u x ad oa out m1) H := hP
  have hD : va_D A (wLw cI cJ cC cG h9 hn ap ht h0 pc u x ad oa out m1) := hD
  refine lv_istore (lv' := [(5, .int 1), (4, .int (lw_i j)), (3, .ref oa), (2, .ref (ad 0)), (1, .ref h9), (0, .ref b)]) K.hx K.hb dL_law_1198 hl (by decide) rfl (fun ls hl => ?_)
  refine lv_aload_n K.hx K.hb dL_law_1200 rfl (lv_at hl 3 rfl) ?_
  refine lw_arg1 K hS (lv_at hl 5 rfl) (lv_at hl 1 rfl) hj hL dL_law_1201 dL_law_1202 dL_law_1204 dL_law_1205 dL_law_1206 ?_
  have hPc : va_P D vwCl (wMt cI cJ ad m1) _ := kp_r hP
  have hDc : va_D A (wMt cI cJ ad m1) := kd_r hD
  refine kj_i2 (k_rV (As := [.int (xs (j + 1))]) (rest := []) ⟨K.hx, K.hb, K.hml, K.hown, K.hts⟩ K.hK K.hN hPc hDc (zM_borneOff h2) (cwV 1 K.hts gL_law_X10_borneOff rfl rfl rfl (by decide +kernel) ⟨Nat.le_of_ble_eq_true rfl, Nat.le_of_ble_eq_true rfl⟩) rfl rfl rfl hl.1 rfl (Nat.le_of_ble_eq_true rfl) dL_law_1207 (lw_fit hf)) hP hD hS K.hA (fun H locs hP hD hS => ?_)
  have hP : va_P D vwCl (wLw cI cJ cC cG h9 hn ap ht h0 pc u x ad oa out m') H := hP
  have hD : va_D A (wLw cI cJ cC cG h9 hn ap ht h0 pc u x ad oa out m') := hD
  refine lv_istore (lv' := [(6, .int r'), (5, .int 1), (4, .int (lw_i j)), (3, .ref oa), (2, .ref (ad 0)), (1, .ref h9), (0, .ref b)]) K.hx K.hb dL_law_1210 hl (by decide) rfl (fun ls hl => ?_)
  refine lv_aload_n K.hx K.hb dL_law_1212 rfl (lv_at hl 4 rfl) ?_
  have hPc : va_P D vwCl (wMt cI cJ ad m') _ := kp_r hP
  have hDc : va_D A (wMt cI cJ ad m') := kd_r hD
  refine kj_i2 (k_rV (As := []) (rest := []) ⟨K.hx, K.hb, K.hml, K.hown, K.hts⟩ K.hK K.hN hPc hDc zM_thrown (cwV 0 K.hts gL_law_X10_thrown rfl rfl rfl (by decide +kernel) ⟨Nat.le_of_ble_eq_true rfl, Nat.le_of_ble_eq_true rfl⟩) rfl rfl rfl hl.1 rfl (Nat.le_of_ble_eq_true rfl) dL_law_1213 (lw_fit hf)) hP hD hS K.hA (fun H locs hP hD hS => ?_)
  have hP : va_P D vwCl (wLw cI cJ cC cG h9 hn ap ht h0 pc u x ad oa out m') H := hP
  have hD : va_D A (wLw cI cJ cC cG h9 hn ap ht h0 pc u x ad oa out m') := hD
  refine lv_iload K.hx K.hb dL_law_1216 (lv_at hl 1 rfl) ?_
  refine lv_icmp_eq (tgt := 1223) K.hx K.hb dL_law_1218 (by decide) (fun cc => ?_) (fun cc => absurd h3 cc)
  refine lv_iload K.hx K.hb dL_law_1223 (lv_at hl 1 rfl) ?_
  refine lv_if_ne (tgt := 1240) K.hx K.hb dL_law_1225 (by decide) (fun cc => ?_) (fun cc => absurd cc (by decide))
  refine lv_goto (tgt := 2028) K.hx K.hb dL_law_1240 (by decide) ?_
  exact kk H locs ls hP hD hS (lv_sub hl [2, 3, 4, 5, 6] rfl)
set_option maxHeartbeats 8000000 in
set_option maxRecDepth 100000 in
theorem wl_pips {p : Program} {l : Launch} {e : Env} {s : State} {m : MethodId} {b L : Nat} {xs : Nat → Int32} {below : List Frame} {meth : Method} {c : Code} {A : Nat → Prop} {D : va_G} {cI cJ cC cG : ClassId} {h9 hn h0 : Nat} {ap ht pc : Nat → Nat} {u : lwH} {x : XT} {m1 : MT} {ad : Nat → Nat} {oa : Nat} {out : Nat → Int64} {H : Heap} {locs : List Loc} {ls : Array Slot} {Q : State → Prop} {C S j : Nat} (K : lwK p l s m b L xs meth c A D cI cJ cC cG) (hP : va_P D vwCl (wLw cI cJ cC cG h9 hn ap ht h0 pc u x ad oa out m1) H) (hD : va_D A (wLw cI cJ cC cG h9 hn ap ht h0 pc u x ad oa out m1)) (hS : va_S A s.heap H locs) (hl : lv_has ls 9 (lw_lv b h9 (ad 0) oa j)) (hj : j + 4 ≤ L) (hL : L ≤ 2048) {r : Int32} {x' : XT} {r' : Int32} {m' : MT} (hf : C + 0 ≤ room_1.cells ∧ S + 0 ≤ room_1.slots) (h1 : XN_pips x (xs (j + 1)) = some (r, x')) (h2 : MN_pips m1 (xs (j + 1)) = some (r', m')) (h3 : thr m' = 0) (h4 : (Int32.toInt64 r) = Int32.toInt64 r') (kk : ∀ (u : lwH) (H : Heap) (locs : List Loc) (ls : Array Slot), va_P D vwCl (wLw cI cJ cC cG h9 hn ap ht h0 pc u x' ad oa (vp_updL out (Int32.toNatClampNeg 0) (Int32.toInt64 r)) m') H → va_D A (wLw cI cJ cC cG h9 hn ap ht h0 pc u x' ad oa (vp_updL out (Int32.toNatClampNeg 0) (Int32.toInt64 r)) m') → va_S A s.heap H locs → lv_has ls 9 (lw_lv b h9 (ad 0) oa j) → W p l e room_1 s m #[Value.ref b] below meth c H locs C S Q (F0 m 2028 ls [])) : W p l e room_1 s m #[Value.ref b] below meth c H locs C S Q (F0 m 1243 ls []) := by
  have hl : lv_has ls 9 [(4, .int (lw_i j)), (3, .ref oa), (2, .ref (ad 0)), (1, .ref h9), (0, .ref b)] := hl
  refine lv_aload_n K.hx K.hb dL_law_1243 rfl (lv_at hl 3 rfl) ?_
  refine lw_arg1 K hS (lv_at hl 4 rfl) (lv_at hl 0 rfl) hj hL dL_law_1244 dL_law_1245 dL_law_1247 dL_law_1248 dL_law_1249 ?_
  refine lv_aload_n K.hx K.hb dL_law_1250 rfl (lv_at hl 1 rfl) ?_
  have hPc : va_P D vwCl (wX1 cI cJ cC cG h9 hn ap ht h0 pc u x oa out) _ := kp_l hP
  have hDc : va_D A (wX1 cI cJ cC cG h9 hn ap ht h0 pc u x oa out) := kd_l hD
  refine kj_i1 (k_rSW (As := [.ref h9, .int (xs (j + 1)), .ref oa]) (rest := []) ⟨K.hx, K.hb, K.hml, K.hown, K.hts⟩ K.hK K.hN hPc hDc (zB_pips h1) (vx_cwSW (hh := [(0, 9, 12, 21)]) 3 K.hts gL_law_L_pips rfl rfl rfl (by decide +kernel) ⟨Nat.le_of_ble_eq_true rfl, Nat.le_of_ble_eq_true rfl⟩) rfl hl.1 rfl (Nat.le_of_ble_eq_true rfl) dL_law_1251 hf) hP hD hS K.hA (fun u H locs hP hD hS => ?_)
  have hP : va_P D vwCl (wLw cI cJ cC cG h9 hn ap ht h0 pc u x' ad oa (vp_updL out (Int32.toNatClampNeg 0) (Int32.toInt64 r)) m1) H := hP
  have hD : va_D A (wLw cI cJ cC cG h9 hn ap ht h0 pc u x' ad oa (vp_updL out (Int32.toNatClampNeg 0) (Int32.toInt64 r)) m1) := hD
  refine lv_istore (lv' := [(5, .int 0), (4, .int (lw_i j)), (3, .ref oa), (2, .ref (ad 0)), (1, .ref h9), (0, .ref b)]) K.hx K.hb dL_law_1254 hl (by decide) rfl (fun ls hl => ?_)
  refine lv_aload_n K.hx K.hb dL_law_1256 rfl (lv_at hl 3 rfl) ?_
  refine lw_arg1 K hS (lv_at hl 5 rfl) (lv_at hl 1 rfl) hj hL dL_law_1257 dL_law_1258 dL_law_1260 dL_law_1261 dL_law_1262 ?_
  have hPc : va_P D vwCl (wMt cI cJ ad m1) _ := kp_r hP
  have hDc : va_D A (wMt cI cJ ad m1) := kd_r hD
  refine kj_i2 (k_rV (As := [.int (xs (j + 1))]) (rest := []) ⟨K.hx, K.hb, K.hml, K.hown, K.hts⟩ K.hK K.hN hPc hDc (zM_pips h2) (cwV 1 K.hts gL_law_X10_pips rfl rfl rfl (by decide +kernel) ⟨Nat.le_of_ble_eq_true rfl, Nat.le_of_ble_eq_true rfl⟩) rfl rfl rfl hl.1 rfl (Nat.le_of_ble_eq_true rfl) dL_law_1263 hf) hP hD hS K.hA (fun H locs hP hD hS => ?_)
  have hP : va_P D vwCl (wLw cI cJ cC cG h9 hn ap ht h0 pc u x' ad oa (vp_updL out (Int32.toNatClampNeg 0) (Int32.toInt64 r)) m') H := hP
  have hD : va_D A (wLw cI cJ cC cG h9 hn ap ht h0 pc u x' ad oa (vp_updL out (Int32.toNatClampNeg 0) (Int32.toInt64 r)) m') := hD
  refine lv_istore (lv' := [(6, .int r'), (5, .int 0), (4, .int (lw_i j)), (3, .ref oa), (2, .ref (ad 0)), (1, .ref h9), (0, .ref b)]) K.hx K.hb dL_law_1266 hl (by decide) rfl (fun ls hl => ?_)
  refine lv_aload_n K.hx K.hb dL_law_1268 rfl (lv_at hl 4 rfl) ?_
  have hPc : va_P D vwCl (wMt cI cJ ad m') _ := kp_r hP
  have hDc : va_D A (wMt cI cJ ad m') := kd_r hD
  refine kj_i2 (k_rV (As := []) (rest := []) ⟨K.hx, K.hb, K.hml, K.hown, K.hts⟩ K.hK K.hN hPc hDc zM_thrown (cwV 0 K.hts gL_law_X10_thrown rfl rfl rfl (by decide +kernel) ⟨Nat.le_of_ble_eq_true rfl, Nat.le_of_ble_eq_true rfl⟩) rfl rfl rfl hl.1 rfl (Nat.le_of_ble_eq_true rfl) dL_law_1269 hf) hP hD hS K.hA (fun H locs hP hD hS => ?_)
  have hP : va_P D vwCl (wLw cI cJ cC cG h9 hn ap ht h0 pc u x' ad oa (vp_updL out (Int32.toNatClampNeg 0) (Int32.toInt64 r)) m') H := hP
  have hD : va_D A (wLw cI cJ cC cG h9 hn ap ht h0 pc u x' ad oa (vp_updL out (Int32.toNatClampNeg 0) (Int32.toInt64 r)) m') := hD
  refine lv_iload K.hx K.hb dL_law_1272 (lv_at hl 1 rfl) ?_
  refine lv_icmp_eq (tgt := 1279) K.hx K.hb dL_law_1274 (by decide) (fun cc => ?_) (fun cc => absurd h3 cc)
  refine lv_iload K.hx K.hb dL_law_1279 (lv_at hl 1 rfl) ?_
  refine lv_if_ne (tgt := 1296) K.hx K.hb dL_law_1281 (by decide) (fun cc => absurd rfl cc) (fun cc => ?_)
  refine lv_aload_n K.hx K.hb dL_law_1284 rfl (lv_at hl 3 rfl) ?_
  refine lv_iconst (v := 0) K.hx K.hb dL_law_1285 (by decide) ?_
  refine va_lald K.hx K.hb K.hK hP 25 1 rfl rfl kv_01 dL_law_1286 ?_
  refine W.eq (g2 := F0 m 1287 _ (.long (Int32.toInt64 r) :: [])) (by rw [lw_out]) ?_
  refine lv_iload K.hx K.hb dL_law_1287 (lv_at hl 0 rfl) ?_
  refine lv_i2l (v := Int32.toInt64 r') K.hx K.hb dL_law_1289 rfl ?_
  refine W.lcmp K.hx K.hb dL_law_1290 ?_
  refine lv_if_eq (tgt := 1296) K.hx K.hb dL_law_1291 (by decide) (fun cc => ?_) (fun cc => absurd (lw_ceq h4) cc)
  refine lv_goto (tgt := 2028) K.hx K.hb dL_law_1296 (by decide) ?_
  exact kk u H locs ls hP hD hS (lv_sub hl [2, 3, 4, 5, 6] rfl)
set_option maxHeartbeats 8000000 in
set_option maxRecDepth 100000 in
theorem wlT_pips_1 {p : Program} {l : Launch} {e : Env} {s : State} {m : MethodId} {b L : Nat} {xs : Nat → Int32} {below : List Frame} {meth : Method} {c : Code} {A : Nat → Prop} {D : va_G} {cI cJ cC cG : ClassId} {h9 hn h0 : Nat} {ap ht pc : Nat → Nat} {u : lwH} {x : XT} {m1 : MT} {ad : Nat → Nat} {oa : Nat} {out : Nat → Int64} {H : Heap} {locs : List Loc} {ls : Array Slot} {Q : State → Prop} {C S j : Nat} (K : lwK p l s m b L xs meth c A D cI cJ cC cG) (hP : va_P D vwCl (wLw cI cJ cC cG h9 hn ap ht h0 pc u x ad oa out m1) H) (hD : va_D A (wLw cI cJ cC cG h9 hn ap ht h0 pc u x ad oa out m1)) (hS : va_S A s.heap H locs) (hl : lv_has ls 9 (lw_lv b h9 (ad 0) oa j)) (hj : j + 4 ≤ L) (hL : L ≤ 2048) {r' : Int32} {m' : MT} (hf : C + 1 ≤ room_1.cells ∧ S + 6 ≤ room_1.slots) (h1 : XT_pips x (xs (j + 1)) = some "java/lang/IndexOutOfBoundsException") (h2 : MN_pips m1 (xs (j + 1)) = some (r', m')) (h3 : thr m' = 1) (kk : ∀ (H : Heap) (locs : List Loc) (ls : Array Slot), va_P D vwCl (wLw cI cJ cC cG h9 hn ap ht h0 pc u x ad oa out m') H → va_D A (wLw cI cJ cC cG h9 hn ap ht h0 pc u x ad oa out m') → va_S A s.heap H locs → lv_has ls 9 (lw_lv b h9 (ad 0) oa j) → W p l e room_1 s m #[Value.ref b] below meth c H locs (C + 1) (S + 6) Q (F0 m 2028 ls [])) : W p l e room_1 s m #[Value.ref b] below meth c H locs C S Q (F0 m 1243 ls []) := by
  have hl : lv_has ls 9 [(4, .int (lw_i j)), (3, .ref oa), (2, .ref (ad 0)), (1, .ref h9), (0, .ref b)] := hl
  refine lv_aload_n K.hx K.hb dL_law_1243 rfl (lv_at hl 3 rfl) ?_
  refine lw_arg1 K hS (lv_at hl 4 rfl) (lv_at hl 0 rfl) hj hL dL_law_1244 dL_law_1245 dL_law_1247 dL_law_1248 dL_law_1249 ?_
  refine lv_aload_n K.hx K.hb dL_law_1250 rfl (lv_at hl 1 rfl) ?_
  have hPc : va_P D vwCl (wX1 cI cJ cC cG h9 hn ap ht h0 pc u x oa out) _ := kp_l hP
  have hDc : va_D A (wX1 cI cJ cC cG h9 hn ap ht h0 pc u x oa out) := kd_l hD
  refine kj_x1 (k_rSWT (As := [.ref h9, .int (xs (j + 1)), .ref oa]) (rest := []) ⟨K.hx, K.hb, K.hml, K.hown, K.hts⟩ K.hK K.hN K.hq hS (kj_F hD hS K.hA) hPc hDc (zBT_pips_1 K.hst h1) (vx_cwSW (hh := [(0, 9, 12, 21)]) 3 K.hts gL_law_L_pips rfl rfl rfl (by decide +kernel) ⟨Nat.le_of_ble_eq_true rfl, Nat.le_of_ble_eq_true rfl⟩) rfl hl.1 rfl (Nat.le_of_ble_eq_true rfl) dL_law_1251 hf) hP hD hS K.hA (fun H locs hP hD hS => ?_)
  have hP : va_P D vwCl (wLw cI cJ cC cG h9 hn ap ht h0 pc u x ad oa out m1) H := hP
  have hD : va_D A (wLw cI cJ cC cG h9 hn ap ht h0 pc u x ad oa out m1) := hD
  refine lv_istore (lv' := [(5, .int 1), (4, .int (lw_i j)), (3, .ref oa), (2, .ref (ad 0)), (1, .ref h9), (0, .ref b)]) K.hx K.hb dL_law_1254 hl (by decide) rfl (fun ls hl => ?_)
  refine lv_aload_n K.hx K.hb dL_law_1256 rfl (lv_at hl 3 rfl) ?_
  refine lw_arg1 K hS (lv_at hl 5 rfl) (lv_at hl 1 rfl) hj hL dL_law_1257 dL_law_1258 dL_law_1260 dL_law_1261 dL_law_1262 ?_
  have hPc : va_P D vwCl (wMt cI cJ ad m1) _ := kp_r hP
  have hDc : va_D A (wMt cI cJ ad m1) := kd_r hD
  refine kj_i2 (k_rV (As := [.int (xs (j + 1))]) (rest := []) ⟨K.hx, K.hb, K.hml, K.hown, K.hts⟩ K.hK K.hN hPc hDc (zM_pips h2) (cwV 1 K.hts gL_law_X10_pips rfl rfl rfl (by decide +kernel) ⟨Nat.le_of_ble_eq_true rfl, Nat.le_of_ble_eq_true rfl⟩) rfl rfl rfl hl.1 rfl (Nat.le_of_ble_eq_true rfl) dL_law_1263 (lw_fit hf)) hP hD hS K.hA (fun H locs hP hD hS => ?_)
  have hP : va_P D vwCl (wLw cI cJ cC cG h9 hn ap ht h0 pc u x ad oa out m') H := hP
  have hD : va_D A (wLw cI cJ cC cG h9 hn ap ht h0 pc u x ad oa out m') := hD
  refine lv_istore (lv' := [(6, .int r'), (5, .int 1), (4, .int (lw_i j)), (3, .ref oa), (2, .ref (ad 0)), (1, .ref h9), (0, .ref b)]) K.hx K.hb dL_law_1266 hl (by decide) rfl (fun ls hl => ?_)
  refine lv_aload_n K.hx K.hb dL_law_1268 rfl (lv_at hl 4 rfl) ?_
  have hPc : va_P D vwCl (wMt cI cJ ad m') _ := kp_r hP
  have hDc : va_D A (wMt cI cJ ad m') := kd_r hD
  refine kj_i2 (k_rV (As := []) (rest := []) ⟨K.hx, K.hb, K.hml, K.hown, K.hts⟩ K.hK K.hN hPc hDc zM_thrown (cwV 0 K.hts gL_law_X10_thrown rfl rfl rfl (by decide +kernel) ⟨Nat.le_of_ble_eq_true rfl, Nat.le_of_ble_eq_true rfl⟩) rfl rfl rfl hl.1 rfl (Nat.le_of_ble_eq_true rfl) dL_law_1269 (lw_fit hf)) hP hD hS K.hA (fun H locs hP hD hS => ?_)
  have hP : va_P D vwCl (wLw cI cJ cC cG h9 hn ap ht h0 pc u x ad oa out m') H := hP
  have hD : va_D A (wLw cI cJ cC cG h9 hn ap ht h0 pc u x ad oa out m') := hD
  refine lv_iload K.hx K.hb dL_law_1272 (lv_at hl 1 rfl) ?_
  refine lv_icmp_eq (tgt := 1279) K.hx K.hb dL_law_1274 (by decide) (fun cc => ?_) (fun cc => absurd h3 cc)
  refine lv_iload K.hx K.hb dL_law_1279 (lv_at hl 1 rfl) ?_
  refine lv_if_ne (tgt := 1296) K.hx K.hb dL_law_1281 (by decide) (fun cc => ?_) (fun cc => absurd cc (by decide))
  refine lv_goto (tgt := 2028) K.hx K.hb dL_law_1296 (by decide) ?_
  exact kk H locs ls hP hD hS (lv_sub hl [2, 3, 4, 5, 6] rfl)
set_option maxHeartbeats 8000000 in
set_option maxRecDepth 100000 in
theorem wl_blots {p : Program} {l : Launch} {e : Env} {s : State} {m : MethodId} {b L : Nat} {xs : Nat → Int32} {below : List Frame} {meth : Method} {c : Code} {A : Nat → Prop} {D : va_G} {cI cJ cC cG : ClassId} {h9 hn h0 : Nat} {ap ht pc : Nat → Nat} {u : lwH} {x : XT} {m1 : MT} {ad : Nat → Nat} {oa : Nat} {out : Nat → Int64} {H : Heap} {locs : List Loc} {ls : Array Slot} {Q : State → Prop} {C S j : Nat} (K : lwK p l s m b L xs meth c A D cI cJ cC cG) (hP : va_P D vwCl (wLw cI cJ cC cG h9 hn ap ht h0 pc u x ad oa out m1) H) (hD : va_D A (wLw cI cJ cC cG h9 hn ap ht h0 pc u x ad oa out m1)) (hS : va_S A s.heap H locs) (hl : lv_has ls 9 (lw_lv b h9 (ad 0) oa j)) (hj : j + 4 ≤ L) (hL : L ≤ 2048) {r : Int32} {x' : XT} {r' : Int32} {m' : MT} (hf : C + 0 ≤ room_1.cells ∧ S + 0 ≤ room_1.slots) (h1 : XN_blots x (xs (j + 1)) = some (r, x')) (h2 : MN_blots m1 (xs (j + 1)) = some (r', m')) (h3 : thr m' = 0) (h4 : (Int32.toInt64 r) = Int32.toInt64 r') (kk : ∀ (u : lwH) (H : Heap) (locs : List Loc) (ls : Array Slot), va_P D vwCl (wLw cI cJ cC cG h9 hn ap ht h0 pc u x' ad oa (vp_updL out (Int32.toNatClampNeg 0) (Int32.toInt64 r)) m') H → va_D A (wLw cI cJ cC cG h9 hn ap ht h0 pc u x' ad oa (vp_updL out (Int32.toNatClampNeg 0) (Int32.toInt64 r)) m') → va_S A s.heap H locs → lv_has ls 9 (lw_lv b h9 (ad 0) oa j) → W p l e room_1 s m #[Value.ref b] below meth c H locs C S Q (F0 m 2028 ls [])) : W p l e room_1 s m #[Value.ref b] below meth c H locs C S Q (F0 m 1299 ls []) := by
  have hl : lv_has ls 9 [(4, .int (lw_i j)), (3, .ref oa), (2, .ref (ad 0)), (1, .ref h9), (0, .ref b)] := hl
  refine lv_aload_n K.hx K.hb dL_law_1299 rfl (lv_at hl 3 rfl) ?_
  refine lw_arg1 K hS (lv_at hl 4 rfl) (lv_at hl 0 rfl) hj hL dL_law_1300 dL_law_1301 dL_law_1303 dL_law_1304 dL_law_1305 ?_
  refine lv_aload_n K.hx K.hb dL_law_1306 rfl (lv_at hl 1 rfl) ?_
  have hPc : va_P D vwCl (wX1 cI cJ cC cG h9 hn ap ht h0 pc u x oa out) _ := kp_l hP
  have hDc : va_D A (wX1 cI cJ cC cG h9 hn ap ht h0 pc u x oa out) := kd_l hD
  refine kj_i1 (k_rSW (As := [.ref h9, .int (xs (j + 1)), .ref oa]) (rest := []) ⟨K.hx, K.hb, K.hml, K.hown, K.hts⟩ K.hK K.hN hPc hDc (zB_blots h1) (vx_cwSW (hh := [(0, 9, 12, 21)]) 3 K.hts gL_law_L_blots rfl rfl rfl (by decide +kernel) ⟨Nat.le_of_ble_eq_true rfl, Nat.le_of_ble_eq_true rfl⟩) rfl hl.1 rfl (Nat.le_of_ble_eq_true rfl) dL_law_1307 hf) hP hD hS K.hA (fun u H locs hP hD hS => ?_)
  have hP : va_P D vwCl (wLw cI cJ cC cG h9 hn ap ht h0 pc u x' ad oa (vp_updL out (Int32.toNatClampNeg 0) (Int32.toInt64 r)) m1) H := hP
  have hD : va_D A (wLw cI cJ cC cG h9 hn ap ht h0 pc u x' ad oa (vp_updL out (Int32.toNatClampNeg 0) (Int32.toInt64 r)) m1) := hD
  refine lv_istore (lv' := [(5, .int 0), (4, .int (lw_i j)), (3, .ref oa), (2, .ref (ad 0)), (1, .ref h9), (0, .ref b)]) K.hx K.hb dL_law_1310 hl (by decide) rfl (fun ls hl => ?_)
  refine lv_aload_n K.hx K.hb dL_law_1312 rfl (lv_at hl 3 rfl) ?_
  refine lw_arg1 K hS (lv_at hl 5 rfl) (lv_at hl 1 rfl) hj hL dL_law_1313 dL_law_1314 dL_law_1316 dL_law_1317 dL_law_1318 ?_
  have hPc : va_P D vwCl (wMt cI cJ ad m1) _ := kp_r hP
  have hDc : va_D A (wMt cI cJ ad m1) := kd_r hD
  refine kj_i2 (k_rV (As := [.int (xs (j + 1))]) (rest := []) ⟨K.hx, K.hb, K.hml, K.hown, K.hts⟩ K.hK K.hN hPc hDc (zM_blots h2) (cwV 1 K.hts gL_law_X10_blots rfl rfl rfl (by decide +kernel) ⟨Nat.le_of_ble_eq_true rfl, Nat.le_of_ble_eq_true rfl⟩) rfl rfl rfl hl.1 rfl (Nat.le_of_ble_eq_true rfl) dL_law_1319 hf) hP hD hS K.hA (fun H locs hP hD hS => ?_)
  have hP : va_P D vwCl (wLw cI cJ cC cG h9 hn ap ht h0 pc u x' ad oa (vp_updL out (Int32.toNatClampNeg 0) (Int32.toInt64 r)) m') H := hP
  have hD : va_D A (wLw cI cJ cC cG h9 hn ap ht h0 pc u x' ad oa (vp_updL out (Int32.toNatClampNeg 0) (Int32.toInt64 r)) m') := hD
  refine lv_istore (lv' := [(6, .int r'), (5, .int 0), (4, .int (lw_i j)), (3, .ref oa), (2, .ref (ad 0)), (1, .ref h9), (0, .ref b)]) K.hx K.hb dL_law_1322 hl (by decide) rfl (fun ls hl => ?_)
  refine lv_aload_n K.hx K.hb dL_law_1324 rfl (lv_at hl 4 rfl) ?_
  have hPc : va_P D vwCl (wMt cI cJ ad m') _ := kp_r hP
  have hDc : va_D A (wMt cI cJ ad m') := kd_r hD
  refine kj_i2 (k_rV (As := []) (rest := []) ⟨K.hx, K.hb, K.hml, K.hown, K.hts⟩ K.hK K.hN hPc hDc zM_thrown (cwV 0 K.hts gL_law_X10_thrown rfl rfl rfl (by decide +kernel) ⟨Nat.le_of_ble_eq_true rfl, Nat.le_of_ble_eq_true rfl⟩) rfl rfl rfl hl.1 rfl (Nat.le_of_ble_eq_true rfl) dL_law_1325 hf) hP hD hS K.hA (fun H locs hP hD hS => ?_)
  have hP : va_P D vwCl (wLw cI cJ cC cG h9 hn ap ht h0 pc u x' ad oa (vp_updL out (Int32.toNatClampNeg 0) (Int32.toInt64 r)) m') H := hP
  have hD : va_D A (wLw cI cJ cC cG h9 hn ap ht h0 pc u x' ad oa (vp_updL out (Int32.toNatClampNeg 0) (Int32.toInt64 r)) m') := hD
  refine lv_iload K.hx K.hb dL_law_1328 (lv_at hl 1 rfl) ?_
  refine lv_icmp_eq (tgt := 1335) K.hx K.hb dL_law_1330 (by decide) (fun cc => ?_) (fun cc => absurd h3 cc)
  refine lv_iload K.hx K.hb dL_law_1335 (lv_at hl 1 rfl) ?_
  refine lv_if_ne (tgt := 1352) K.hx K.hb dL_law_1337 (by decide) (fun cc => absurd rfl cc) (fun cc => ?_)
  refine lv_aload_n K.hx K.hb dL_law_1340 rfl (lv_at hl 3 rfl) ?_
  refine lv_iconst (v := 0) K.hx K.hb dL_law_1341 (by decide) ?_
  refine va_lald K.hx K.hb K.hK hP 25 1 rfl rfl kv_01 dL_law_1342 ?_
  refine W.eq (g2 := F0 m 1343 _ (.long (Int32.toInt64 r) :: [])) (by rw [lw_out]) ?_
  refine lv_iload K.hx K.hb dL_law_1343 (lv_at hl 0 rfl) ?_
  refine lv_i2l (v := Int32.toInt64 r') K.hx K.hb dL_law_1345 rfl ?_
  refine W.lcmp K.hx K.hb dL_law_1346 ?_
  refine lv_if_eq (tgt := 1352) K.hx K.hb dL_law_1347 (by decide) (fun cc => ?_) (fun cc => absurd (lw_ceq h4) cc)
  refine lv_goto (tgt := 2028) K.hx K.hb dL_law_1352 (by decide) ?_
  exact kk u H locs ls hP hD hS (lv_sub hl [2, 3, 4, 5, 6] rfl)
set_option maxHeartbeats 8000000 in
set_option maxRecDepth 100000 in
theorem wlT_blots_1 {p : Program} {l : Launch} {e : Env} {s : State} {m : MethodId} {b L : Nat} {xs : Nat → Int32} {below : List Frame} {meth : Method} {c : Code} {A : Nat → Prop} {D : va_G} {cI cJ cC cG : ClassId} {h9 hn h0 : Nat} {ap ht pc : Nat → Nat} {u : lwH} {x : XT} {m1 : MT} {ad : Nat → Nat} {oa : Nat} {out : Nat → Int64} {H : Heap} {locs : List Loc} {ls : Array Slot} {Q : State → Prop} {C S j : Nat} (K : lwK p l s m b L xs meth c A D cI cJ cC cG) (hP : va_P D vwCl (wLw cI cJ cC cG h9 hn ap ht h0 pc u x ad oa out m1) H) (hD : va_D A (wLw cI cJ cC cG h9 hn ap ht h0 pc u x ad oa out m1)) (hS : va_S A s.heap H locs) (hl : lv_has ls 9 (lw_lv b h9 (ad 0) oa j)) (hj : j + 4 ≤ L) (hL : L ≤ 2048) {r' : Int32} {m' : MT} (hf : C + 1 ≤ room_1.cells ∧ S + 6 ≤ room_1.slots) (h1 : XT_blots x (xs (j + 1)) = some "java/lang/IndexOutOfBoundsException") (h2 : MN_blots m1 (xs (j + 1)) = some (r', m')) (h3 : thr m' = 1) (kk : ∀ (H : Heap) (locs : List Loc) (ls : Array Slot), va_P D vwCl (wLw cI cJ cC cG h9 hn ap ht h0 pc u x ad oa out m') H → va_D A (wLw cI cJ cC cG h9 hn ap ht h0 pc u x ad oa out m') → va_S A s.heap H locs → lv_has ls 9 (lw_lv b h9 (ad 0) oa j) → W p l e room_1 s m #[Value.ref b] below meth c H locs (C + 1) (S + 6) Q (F0 m 2028 ls [])) : W p l e room_1 s m #[Value.ref b] below meth c H locs C S Q (F0 m 1299 ls []) := by
  have hl : lv_has ls 9 [(4, .int (lw_i j)), (3, .ref oa), (2, .ref (ad 0)), (1, .ref h9), (0, .ref b)] := hl
  refine lv_aload_n K.hx K.hb dL_law_1299 rfl (lv_at hl 3 rfl) ?_
  refine lw_arg1 K hS (lv_at hl 4 rfl) (lv_at hl 0 rfl) hj hL dL_law_1300 dL_law_1301 dL_law_1303 dL_law_1304 dL_law_1305 ?_
  refine lv_aload_n K.hx K.hb dL_law_1306 rfl (lv_at hl 1 rfl) ?_
  have hPc : va_P D vwCl (wX1 cI cJ cC cG h9 hn ap ht h0 pc u x oa out) _ := kp_l hP
  have hDc : va_D A (wX1 cI cJ cC cG h9 hn ap ht h0 pc u x oa out) := kd_l hD
  refine kj_x1 (k_rSWT (As := [.ref h9, .int (xs (j + 1)), .ref oa]) (rest := []) ⟨K.hx, K.hb, K.hml, K.hown, K.hts⟩ K.hK K.hN K.hq hS (kj_F hD hS K.hA) hPc hDc (zBT_blots_1 K.hst h1) (vx_cwSW (hh := [(0, 9, 12, 21)]) 3 K.hts gL_law_L_blots rfl rfl rfl (by decide +kernel) ⟨Nat.le_of_ble_eq_true rfl, Nat.le_of_ble_eq_true rfl⟩) rfl hl.1 rfl (Nat.le_of_ble_eq_true rfl) dL_law_1307 hf) hP hD hS K.hA (fun H locs hP hD hS => ?_)
  have hP : va_P D vwCl (wLw cI cJ cC cG h9 hn ap ht h0 pc u x ad oa out m1) H := hP
  have hD : va_D A (wLw cI cJ cC cG h9 hn ap ht h0 pc u x ad oa out m1) := hD
  refine lv_istore (lv' := [(5, .int 1), (4, .int (lw_i j)), (3, .ref oa), (2, .ref (ad 0)), (1, .ref h9), (0, .ref b)]) K.hx K.hb dL_law_1310 hl (by decide) rfl (fun ls hl => ?_)
  refine lv_aload_n K.hx K.hb dL_law_1312 rfl (lv_at hl 3 rfl) ?_
  refine lw_arg1 K hS (lv_at hl 5 rfl) (lv_at hl 1 rfl) hj hL dL_law_1313 dL_law_1314 dL_law_1316 dL_law_1317 dL_law_1318 ?_
  have hPc : va_P D vwCl (wMt cI cJ ad m1) _ := kp_r hP
  have hDc : va_D A (wMt cI cJ ad m1) := kd_r hD
  refine kj_i2 (k_rV (As := [.int (xs (j + 1))]) (rest := []) ⟨K.hx, K.hb, K.hml, K.hown, K.hts⟩ K.hK K.hN hPc hDc (zM_blots h2) (cwV 1 K.hts gL_law_X10_blots rfl rfl rfl (by decide +kernel) ⟨Nat.le_of_ble_eq_true rfl, Nat.le_of_ble_eq_true rfl⟩) rfl rfl rfl hl.1 rfl (Nat.le_of_ble_eq_true rfl) dL_law_1319 (lw_fit hf)) hP hD hS K.hA (fun H locs hP hD hS => ?_)
  have hP : va_P D vwCl (wLw cI cJ cC cG h9 hn ap ht h0 pc u x ad oa out m') H := hP
  have hD : va_D A (wLw cI cJ cC cG h9 hn ap ht h0 pc u x ad oa out m') := hD
  refine lv_istore (lv' := [(6, .int r'), (5, .int 1), (4, .int (lw_i j)), (3, .ref oa), (2, .ref (ad 0)), (1, .ref h9), (0, .ref b)]) K.hx K.hb dL_law_1322 hl (by decide) rfl (fun ls hl => ?_)
  refine lv_aload_n K.hx K.hb dL_law_1324 rfl (lv_at hl 4 rfl) ?_
  have hPc : va_P D vwCl (wMt cI cJ ad m') _ := kp_r hP
  have hDc : va_D A (wMt cI cJ ad m') := kd_r hD
  refine kj_i2 (k_rV (As := []) (rest := []) ⟨K.hx, K.hb, K.hml, K.hown, K.hts⟩ K.hK K.hN hPc hDc zM_thrown (cwV 0 K.hts gL_law_X10_thrown rfl rfl rfl (by decide +kernel) ⟨Nat.le_of_ble_eq_true rfl, Nat.le_of_ble_eq_true rfl⟩) rfl rfl rfl hl.1 rfl (Nat.le_of_ble_eq_true rfl) dL_law_1325 (lw_fit hf)) hP hD hS K.hA (fun H locs hP hD hS => ?_)
  have hP : va_P D vwCl (wLw cI cJ cC cG h9 hn ap ht h0 pc u x ad oa out m') H := hP
  have hD : va_D A (wLw cI cJ cC cG h9 hn ap ht h0 pc u x ad oa out m') := hD
  refine lv_iload K.hx K.hb dL_law_1328 (lv_at hl 1 rfl) ?_
  refine lv_icmp_eq (tgt := 1335) K.hx K.hb dL_law_1330 (by decide) (fun cc => ?_) (fun cc => absurd h3 cc)
  refine lv_iload K.hx K.hb dL_law_1335 (lv_at hl 1 rfl) ?_
  refine lv_if_ne (tgt := 1352) K.hx K.hb dL_law_1337 (by decide) (fun cc => ?_) (fun cc => absurd cc (by decide))
  refine lv_goto (tgt := 2028) K.hx K.hb dL_law_1352 (by decide) ?_
  exact kk H locs ls hP hD hS (lv_sub hl [2, 3, 4, 5, 6] rfl)
set_option maxHeartbeats 8000000 in
set_option maxRecDepth 100000 in
theorem wl_blockade {p : Program} {l : Launch} {e : Env} {s : State} {m : MethodId} {b L : Nat} {xs : Nat → Int32} {below : List Frame} {meth : Method} {c : Code} {A : Nat → Prop} {D : va_G} {cI cJ cC cG : ClassId} {h9 hn h0 : Nat} {ap ht pc : Nat → Nat} {u : lwH} {x : XT} {m1 : MT} {ad : Nat → Nat} {oa : Nat} {out : Nat → Int64} {H : Heap} {locs : List Loc} {ls : Array Slot} {Q : State → Prop} {C S j : Nat} (K : lwK p l s m b L xs meth c A D cI cJ cC cG) (hP : va_P D vwCl (wLw cI cJ cC cG h9 hn ap ht h0 pc u x ad oa out m1) H) (hD : va_D A (wLw cI cJ cC cG h9 hn ap ht h0 pc u x ad oa out m1)) (hS : va_S A s.heap H locs) (hl : lv_has ls 9 (lw_lv b h9 (ad 0) oa j)) (hj : j + 4 ≤ L) (hL : L ≤ 2048) {r : Int32} {x' : XT} {r' : Int32} {m' : MT} (hf : C + 0 ≤ room_1.cells ∧ S + 0 ≤ room_1.slots) (h1 : XN_blockade x (xs (j + 1)) = some (r, x')) (h2 : MN_blockade m1 (xs (j + 1)) = some (r', m')) (h3 : thr m' = 0) (h4 : (Int32.toInt64 r) = Int32.toInt64 r') (kk : ∀ (u : lwH) (H : Heap) (locs : List Loc) (ls : Array Slot), va_P D vwCl (wLw cI cJ cC cG h9 hn ap ht h0 pc u x' ad oa (vp_updL out (Int32.toNatClampNeg 0) (Int32.toInt64 r)) m') H → va_D A (wLw cI cJ cC cG h9 hn ap ht h0 pc u x' ad oa (vp_updL out (Int32.toNatClampNeg 0) (Int32.toInt64 r)) m') → va_S A s.heap H locs → lv_has ls 9 (lw_lv b h9 (ad 0) oa j) → W p l e room_1 s m #[Value.ref b] below meth c H locs C S Q (F0 m 2028 ls [])) : W p l e room_1 s m #[Value.ref b] below meth c H locs C S Q (F0 m 1355 ls []) := by
  have hl : lv_has ls 9 [(4, .int (lw_i j)), (3, .ref oa), (2, .ref (ad 0)), (1, .ref h9), (0, .ref b)] := hl
  refine lv_aload_n K.hx K.hb dL_law_1355 rfl (lv_at hl 3 rfl) ?_
  refine lw_arg1 K hS (lv_at hl 4 rfl) (lv_at hl 0 rfl) hj hL dL_law_1356 dL_law_1357 dL_law_1359 dL_law_1360 dL_law_1361 ?_
  refine lv_aload_n K.hx K.hb dL_law_1362 rfl (lv_at hl 1 rfl) ?_
  have hPc : va_P D vwCl (wX1 cI cJ cC cG h9 hn ap ht h0 pc u x oa out) _ := kp_l hP
  have hDc : va_D A (wX1 cI cJ cC cG h9 hn ap ht h0 pc u x oa out) := kd_l hD
  refine kj_i1 (k_rSW (As := [.ref h9, .int (xs (j + 1)), .ref oa]) (rest := []) ⟨K.hx, K.hb, K.hml, K.hown, K.hts⟩ K.hK K.hN hPc hDc (zB_blockade h1) (vx_cwSW (hh := [(0, 9, 12, 21)]) 3 K.hts gL_law_L_blockade rfl rfl rfl (by decide +kernel) ⟨Nat.le_of_ble_eq_true rfl, Nat.le_of_ble_eq_true rfl⟩) rfl hl.1 rfl (Nat.le_of_ble_eq_true rfl) dL_law_1363 hf) hP hD hS K.hA (fun u H locs hP hD hS => ?_)
  have hP : va_P D vwCl (wLw cI cJ cC cG h9 hn ap ht h0 pc u x' ad oa (vp_updL out (Int32.toNatClampNeg 0) (Int32.toInt64 r)) m1) H := hP
  have hD : va_D A (wLw cI cJ cC cG h9 hn ap ht h0 pc u x' ad oa (vp_updL out (Int32.toNatClampNeg 0) (Int32.toInt64 r)) m1) := hD
  refine lv_istore (lv' := [(5, .int 0), (4, .int (lw_i j)), (3, .ref oa), (2, .ref (ad 0)), (1, .ref h9), (0, .ref b)]) K.hx K.hb dL_law_1366 hl (by decide) rfl (fun ls hl => ?_)
  refine lv_aload_n K.hx K.hb dL_law_1368 rfl (lv_at hl 3 rfl) ?_
  refine lw_arg1 K hS (lv_at hl 5 rfl) (lv_at hl 1 rfl) hj hL dL_law_1369 dL_law_1370 dL_law_1372 dL_law_1373 dL_law_1374 ?_
  have hPc : va_P D vwCl (wMt cI cJ ad m1) _ := kp_r hP
  have hDc : va_D A (wMt cI cJ ad m1) := kd_r hD
  refine kj_i2 (k_rV (As := [.int (xs (j + 1))]) (rest := []) ⟨K.hx, K.hb, K.hml, K.hown, K.hts⟩ K.hK K.hN hPc hDc (zM_blockade h2) (cwV 1 K.hts gL_law_X10_blockade rfl rfl rfl (by decide +kernel) ⟨Nat.le_of_ble_eq_true rfl, Nat.le_of_ble_eq_true rfl⟩) rfl rfl rfl hl.1 rfl (Nat.le_of_ble_eq_true rfl) dL_law_1375 hf) hP hD hS K.hA (fun H locs hP hD hS => ?_)
  have hP : va_P D vwCl (wLw cI cJ cC cG h9 hn ap ht h0 pc u x' ad oa (vp_updL out (Int32.toNatClampNeg 0) (Int32.toInt64 r)) m') H := hP
  have hD : va_D A (wLw cI cJ cC cG h9 hn ap ht h0 pc u x' ad oa (vp_updL out (Int32.toNatClampNeg 0) (Int32.toInt64 r)) m') := hD
  refine lv_istore (lv' := [(6, .int r'), (5, .int 0), (4, .int (lw_i j)), (3, .ref oa), (2, .ref (ad 0)), (1, .ref h9), (0, .ref b)]) K.hx K.hb dL_law_1378 hl (by decide) rfl (fun ls hl => ?_)
  refine lv_aload_n K.hx K.hb dL_law_1380 rfl (lv_at hl 4 rfl) ?_
  have hPc : va_P D vwCl (wMt cI cJ ad m') _ := kp_r hP
  have hDc : va_D A (wMt cI cJ ad m') := kd_r hD
  refine kj_i2 (k_rV (As := []) (rest := []) ⟨K.hx, K.hb, K.hml, K.hown, K.hts⟩ K.hK K.hN hPc hDc zM_thrown (cwV 0 K.hts gL_law_X10_thrown rfl rfl rfl (by decide +kernel) ⟨Nat.le_of_ble_eq_true rfl, Nat.le_of_ble_eq_true rfl⟩) rfl rfl rfl hl.1 rfl (Nat.le_of_ble_eq_true rfl) dL_law_1381 hf) hP hD hS K.hA (fun H locs hP hD hS => ?_)
  have hP : va_P D vwCl (wLw cI cJ cC cG h9 hn ap ht h0 pc u x' ad oa (vp_updL out (Int32.toNatClampNeg 0) (Int32.toInt64 r)) m') H := hP
  have hD : va_D A (wLw cI cJ cC cG h9 hn ap ht h0 pc u x' ad oa (vp_updL out (Int32.toNatClampNeg 0) (Int32.toInt64 r)) m') := hD
  refine lv_iload K.hx K.hb dL_law_1384 (lv_at hl 1 rfl) ?_
  refine lv_icmp_eq (tgt := 1391) K.hx K.hb dL_law_1386 (by decide) (fun cc => ?_) (fun cc => absurd h3 cc)
  refine lv_iload K.hx K.hb dL_law_1391 (lv_at hl 1 rfl) ?_
  refine lv_if_ne (tgt := 1408) K.hx K.hb dL_law_1393 (by decide) (fun cc => absurd rfl cc) (fun cc => ?_)
  refine lv_aload_n K.hx K.hb dL_law_1396 rfl (lv_at hl 3 rfl) ?_
  refine lv_iconst (v := 0) K.hx K.hb dL_law_1397 (by decide) ?_
  refine va_lald K.hx K.hb K.hK hP 25 1 rfl rfl kv_01 dL_law_1398 ?_
  refine W.eq (g2 := F0 m 1399 _ (.long (Int32.toInt64 r) :: [])) (by rw [lw_out]) ?_
  refine lv_iload K.hx K.hb dL_law_1399 (lv_at hl 0 rfl) ?_
  refine lv_i2l (v := Int32.toInt64 r') K.hx K.hb dL_law_1401 rfl ?_
  refine W.lcmp K.hx K.hb dL_law_1402 ?_
  refine lv_if_eq (tgt := 1408) K.hx K.hb dL_law_1403 (by decide) (fun cc => ?_) (fun cc => absurd (lw_ceq h4) cc)
  refine lv_goto (tgt := 2028) K.hx K.hb dL_law_1408 (by decide) ?_
  exact kk u H locs ls hP hD hS (lv_sub hl [2, 3, 4, 5, 6] rfl)
set_option maxHeartbeats 8000000 in
set_option maxRecDepth 100000 in
theorem wlT_blockade_1 {p : Program} {l : Launch} {e : Env} {s : State} {m : MethodId} {b L : Nat} {xs : Nat → Int32} {below : List Frame} {meth : Method} {c : Code} {A : Nat → Prop} {D : va_G} {cI cJ cC cG : ClassId} {h9 hn h0 : Nat} {ap ht pc : Nat → Nat} {u : lwH} {x : XT} {m1 : MT} {ad : Nat → Nat} {oa : Nat} {out : Nat → Int64} {H : Heap} {locs : List Loc} {ls : Array Slot} {Q : State → Prop} {C S j : Nat} (K : lwK p l s m b L xs meth c A D cI cJ cC cG) (hP : va_P D vwCl (wLw cI cJ cC cG h9 hn ap ht h0 pc u x ad oa out m1) H) (hD : va_D A (wLw cI cJ cC cG h9 hn ap ht h0 pc u x ad oa out m1)) (hS : va_S A s.heap H locs) (hl : lv_has ls 9 (lw_lv b h9 (ad 0) oa j)) (hj : j + 4 ≤ L) (hL : L ≤ 2048) {r' : Int32} {m' : MT} (hf : C + 1 ≤ room_1.cells ∧ S + 6 ≤ room_1.slots) (h1 : XT_blockade x (xs (j + 1)) = some "java/lang/IndexOutOfBoundsException") (h2 : MN_blockade m1 (xs (j + 1)) = some (r', m')) (h3 : thr m' = 1) (kk : ∀ (H : Heap) (locs : List Loc) (ls : Array Slot), va_P D vwCl (wLw cI cJ cC cG h9 hn ap ht h0 pc u x ad oa out m') H → va_D A (wLw cI cJ cC cG h9 hn ap ht h0 pc u x ad oa out m') → va_S A s.heap H locs → lv_has ls 9 (lw_lv b h9 (ad 0) oa j) → W p l e room_1 s m #[Value.ref b] below meth c H locs (C + 1) (S + 6) Q (F0 m 2028 ls [])) : W p l e room_1 s m #[Value.ref b] below meth c H locs C S Q (F0 m 1355 ls []) := by
  have hl : lv_has ls 9 [(4, .int (lw_i j)), (3, .ref oa), (2, .ref (ad 0)), (1, .ref h9), (0, .ref b)] := hl
  refine lv_aload_n K.hx K.hb dL_law_1355 rfl (lv_at hl 3 rfl) ?_
  refine lw_arg1 K hS (lv_at hl 4 rfl) (lv_at hl 0 rfl) hj hL dL_law_1356 dL_law_1357 dL_law_1359 dL_law_1360 dL_law_1361 ?_
  refine lv_aload_n K.hx K.hb dL_law_1362 rfl (lv_at hl 1 rfl) ?_
  have hPc : va_P D vwCl (wX1 cI cJ cC cG h9 hn ap ht h0 pc u x oa out) _ := kp_l hP
  have hDc : va_D A (wX1 cI cJ cC cG h9 hn ap ht h0 pc u x oa out) := kd_l hD
  refine kj_x1 (k_rSWT (As := [.ref h9, .int (xs (j + 1)), .ref oa]) (rest := []) ⟨K.hx, K.hb, K.hml, K.hown, K.hts⟩ K.hK K.hN K.hq hS (kj_F hD hS K.hA) hPc hDc (zBT_blockade_1 K.hst h1) (vx_cwSW (hh := [(0, 9, 12, 21)]) 3 K.hts gL_law_L_blockade rfl rfl rfl (by decide +kernel) ⟨Nat.le_of_ble_eq_true rfl, Nat.le_of_ble_eq_true rfl⟩) rfl hl.1 rfl (Nat.le_of_ble_eq_true rfl) dL_law_1363 hf) hP hD hS K.hA (fun H locs hP hD hS => ?_)
  have hP : va_P D vwCl (wLw cI cJ cC cG h9 hn ap ht h0 pc u x ad oa out m1) H := hP
  have hD : va_D A (wLw cI cJ cC cG h9 hn ap ht h0 pc u x ad oa out m1) := hD
  refine lv_istore (lv' := [(5, .int 1), (4, .int (lw_i j)), (3, .ref oa), (2, .ref (ad 0)), (1, .ref h9), (0, .ref b)]) K.hx K.hb dL_law_1366 hl (by decide) rfl (fun ls hl => ?_)
  refine lv_aload_n K.hx K.hb dL_law_1368 rfl (lv_at hl 3 rfl) ?_
  refine lw_arg1 K hS (lv_at hl 5 rfl) (lv_at hl 1 rfl) hj hL dL_law_1369 dL_law_1370 dL_law_1372 dL_law_1373 dL_law_1374 ?_
  have hPc : va_P D vwCl (wMt cI cJ ad m1) _ := kp_r hP
  have hDc : va_D A (wMt cI cJ ad m1) := kd_r hD
  refine kj_i2 (k_rV (As := [.int (xs (j + 1))]) (rest := []) ⟨K.hx, K.hb, K.hml, K.hown, K.hts⟩ K.hK K.hN hPc hDc (zM_blockade h2) (cwV 1 K.hts gL_law_X10_blockade rfl rfl rfl (by decide +kernel) ⟨Nat.le_of_ble_eq_true rfl, Nat.le_of_ble_eq_true rfl⟩) rfl rfl rfl hl.1 rfl (Nat.le_of_ble_eq_true rfl) dL_law_1375 (lw_fit hf)) hP hD hS K.hA (fun H locs hP hD hS => ?_)
  have hP : va_P D vwCl (wLw cI cJ cC cG h9 hn ap ht h0 pc u x ad oa out m') H := hP
  have hD : va_D A (wLw cI cJ cC cG h9 hn ap ht h0 pc u x ad oa out m') := hD
  refine lv_istore (lv' := [(6, .int r'), (5, .int 1), (4, .int (lw_i j)), (3, .ref oa), (2, .ref (ad 0)), (1, .ref h9), (0, .ref b)]) K.hx K.hb dL_law_1378 hl (by decide) rfl (fun ls hl => ?_)
  refine lv_aload_n K.hx K.hb dL_law_1380 rfl (lv_at hl 4 rfl) ?_
  have hPc : va_P D vwCl (wMt cI cJ ad m') _ := kp_r hP
  have hDc : va_D A (wMt cI cJ ad m') := kd_r hD
  refine kj_i2 (k_rV (As := []) (rest := []) ⟨K.hx, K.hb, K.hml, K.hown, K.hts⟩ K.hK K.hN hPc hDc zM_thrown (cwV 0 K.hts gL_law_X10_thrown rfl rfl rfl (by decide +kernel) ⟨Nat.le_of_ble_eq_true rfl, Nat.le_of_ble_eq_true rfl⟩) rfl rfl rfl hl.1 rfl (Nat.le_of_ble_eq_true rfl) dL_law_1381 (lw_fit hf)) hP hD hS K.hA (fun H locs hP hD hS => ?_)
  have hP : va_P D vwCl (wLw cI cJ cC cG h9 hn ap ht h0 pc u x ad oa out m') H := hP
  have hD : va_D A (wLw cI cJ cC cG h9 hn ap ht h0 pc u x ad oa out m') := hD
  refine lv_iload K.hx K.hb dL_law_1384 (lv_at hl 1 rfl) ?_
  refine lv_icmp_eq (tgt := 1391) K.hx K.hb dL_law_1386 (by decide) (fun cc => ?_) (fun cc => absurd h3 cc)
  refine lv_iload K.hx K.hb dL_law_1391 (lv_at hl 1 rfl) ?_
  refine lv_if_ne (tgt := 1408) K.hx K.hb dL_law_1393 (by decide) (fun cc => ?_) (fun cc => absurd cc (by decide))
  refine lv_goto (tgt := 2028) K.hx K.hb dL_law_1408 (by decide) ?_
  exact kk H locs ls hP hD hS (lv_sub hl [2, 3, 4, 5, 6] rfl)
set_option maxHeartbeats 8000000 in
set_option maxRecDepth 100000 in
theorem wl_stake {p : Program} {l : Launch} {e : Env} {s : State} {m : MethodId} {b L : Nat} {xs : Nat → Int32} {below : List Frame} {meth : Method} {c : Code} {A : Nat → Prop} {D : va_G} {cI cJ cC cG : ClassId} {h9 hn h0 : Nat} {ap ht pc : Nat → Nat} {u : lwH} {x : XT} {m1 : MT} {ad : Nat → Nat} {oa : Nat} {out : Nat → Int64} {H : Heap} {locs : List Loc} {ls : Array Slot} {Q : State → Prop} {C S j : Nat} (K : lwK p l s m b L xs meth c A D cI cJ cC cG) (hP : va_P D vwCl (wLw cI cJ cC cG h9 hn ap ht h0 pc u x ad oa out m1) H) (hD : va_D A (wLw cI cJ cC cG h9 hn ap ht h0 pc u x ad oa out m1)) (hS : va_S A s.heap H locs) (hl : lv_has ls 9 (lw_lv b h9 (ad 0) oa j)) (hj : j + 4 ≤ L) (hL : L ≤ 2048) {r : Int32} {x' : XT} {r' : Int32} {m' : MT} (hf : C + 0 ≤ room_1.cells ∧ S + 0 ≤ room_1.slots) (h1 : XN_stake x = some (r, x')) (h2 : MN_stake m1 = some (r', m')) (h4 : r = r') (kk : ∀ (u : lwH) (H : Heap) (locs : List Loc) (ls : Array Slot), va_P D vwCl (wLw cI cJ cC cG h9 hn ap ht h0 pc u x' ad oa out m') H → va_D A (wLw cI cJ cC cG h9 hn ap ht h0 pc u x' ad oa out m') → va_S A s.heap H locs → lv_has ls 9 (lw_lv b h9 (ad 0) oa j) → W p l e room_1 s m #[Value.ref b] below meth c H locs C S Q (F0 m 2028 ls [])) : W p l e room_1 s m #[Value.ref b] below meth c H locs C S Q (F0 m 1411 ls []) := by
  have hl : lv_has ls 9 [(4, .int (lw_i j)), (3, .ref oa), (2, .ref (ad 0)), (1, .ref h9), (0, .ref b)] := hl
  refine lv_aload_n K.hx K.hb dL_law_1411 rfl (lv_at hl 3 rfl) ?_
  have hP := kp_a hP
  have hD := kd_a hD
  have hPc : va_P D vwCl (wXt cI cJ cC cG h9 hn ap (u.1) ht h0 (u.2.1) (u.2.2.1) pc (u.2.2.2) x) _ := kp_l hP
  have hDc : va_D A (wXt cI cJ cC cG h9 hn ap (u.1) ht h0 (u.2.1) (u.2.2.1) pc (u.2.2.2) x) := kd_l hD
  refine kj_i1 (k_rV (As := []) (rest := []) ⟨K.hx, K.hb, K.hml, K.hown, K.hts⟩ K.hK K.hN hPc hDc (zB_stake h1) (cwV 0 K.hts gL_law_X9_stake rfl rfl rfl (by decide +kernel) ⟨Nat.le_of_ble_eq_true rfl, Nat.le_of_ble_eq_true rfl⟩) rfl rfl rfl hl.1 rfl (Nat.le_of_ble_eq_true rfl) dL_law_1412 hf) hP hD hS K.hA (fun u H locs hP hD hS => ?_)
  have hP : va_P D vwCl (wLw cI cJ cC cG h9 hn ap ht h0 pc u x' ad oa out m1) H := kp_b hP
  have hD : va_D A (wLw cI cJ cC cG h9 hn ap ht h0 pc u x' ad oa out m1) := kd_b hD
  refine lv_aload_n K.hx K.hb dL_law_1415 rfl (lv_at hl 2 rfl) ?_
  have hPc : va_P D vwCl (wMt cI cJ ad m1) _ := kp_r hP
  have hDc : va_D A (wMt cI cJ ad m1) := kd_r hD
  refine kj_i2 (k_rV (As := []) (rest := [.int r]) ⟨K.hx, K.hb, K.hml, K.hown, K.hts⟩ K.hK K.hN hPc hDc (zM_stake h2) (cwV 0 K.hts gL_law_X10_stake rfl rfl rfl (by decide +kernel) ⟨Nat.le_of_ble_eq_true rfl, Nat.le_of_ble_eq_true rfl⟩) rfl rfl rfl hl.1 rfl (Nat.le_of_ble_eq_true rfl) dL_law_1416 hf) hP hD hS K.hA (fun H locs hP hD hS => ?_)
  have hP : va_P D vwCl (wLw cI cJ cC cG h9 hn ap ht h0 pc u x' ad oa out m') H := hP
  have hD : va_D A (wLw cI cJ cC cG h9 hn ap ht h0 pc u x' ad oa out m') := hD
  refine lv_icmp_eq (tgt := 2028) K.hx K.hb dL_law_1419 (by decide) (fun cc => ?_) (fun cc => absurd h4 cc)
  exact kk u H locs ls hP hD hS (lv_sub hl [0, 1, 2, 3, 4] rfl)
set_option maxHeartbeats 8000000 in
set_option maxRecDepth 100000 in
theorem wl_cubeOf {p : Program} {l : Launch} {e : Env} {s : State} {m : MethodId} {b L : Nat} {xs : Nat → Int32} {below : List Frame} {meth : Method} {c : Code} {A : Nat → Prop} {D : va_G} {cI cJ cC cG : ClassId} {h9 hn h0 : Nat} {ap ht pc : Nat → Nat} {u : lwH} {x : XT} {m1 : MT} {ad : Nat → Nat} {oa : Nat} {out : Nat → Int64} {H : Heap} {locs : List Loc} {ls : Array Slot} {Q : State → Prop} {C S j : Nat} (K : lwK p l s m b L xs meth c A D cI cJ cC cG) (hP : va_P D vwCl (wLw cI cJ cC cG h9 hn ap ht h0 pc u x ad oa out m1) H) (hD : va_D A (wLw cI cJ cC cG h9 hn ap ht h0 pc u x ad oa out m1)) (hS : va_S A s.heap H locs) (hl : lv_has ls 9 (lw_lv b h9 (ad 0) oa j)) (hj : j + 4 ≤ L) (hL : L ≤ 2048) {r : Int32} {x' : XT} {r' : Int32} {m' : MT} (hf : C + 0 ≤ room_1.cells ∧ S + 0 ≤ room_1.slots) (h1 : XN_cubeOf x = some (r, x')) (h2 : MN_cubeOf m1 = some (r', m')) (h4 : r = r') (kk : ∀ (u : lwH) (H : Heap) (locs : List Loc) (ls : Array Slot), va_P D vwCl (wLw cI cJ cC cG h9 hn ap ht h0 pc u x' ad oa out m') H → va_D A (wLw cI cJ cC cG h9 hn ap ht h0 pc u x' ad oa out m') → va_S A s.heap H locs → lv_has ls 9 (lw_lv b h9 (ad 0) oa j) → W p l e room_1 s m #[Value.ref b] below meth c H locs C S Q (F0 m 2028 ls [])) : W p l e room_1 s m #[Value.ref b] below meth c H locs C S Q (F0 m 1424 ls []) := by
  have hl : lv_has ls 9 [(4, .int (lw_i j)), (3, .ref oa), (2, .ref (ad 0)), (1, .ref h9), (0, .ref b)] := hl
  refine lv_aload_n K.hx K.hb dL_law_1424 rfl (lv_at hl 3 rfl) ?_
  have hP := kp_a hP
  have hD := kd_a hD
  have hPc : va_P D vwCl (wXt cI cJ cC cG h9 hn ap (u.1) ht h0 (u.2.1) (u.2.2.1) pc (u.2.2.2) x) _ := kp_l hP
  have hDc : va_D A (wXt cI cJ cC cG h9 hn ap (u.1) ht h0 (u.2.1) (u.2.2.1) pc (u.2.2.2) x) := kd_l hD
  refine kj_i1 (k_rV (As := []) (rest := []) ⟨K.hx, K.hb, K.hml, K.hown, K.hts⟩ K.hK K.hN hPc hDc (zB_cubeOf h1) (cwV 0 K.hts gL_law_X9_cubeOf rfl rfl rfl (by decide +kernel) ⟨Nat.le_of_ble_eq_true rfl, Nat.le_of_ble_eq_true rfl⟩) rfl rfl rfl hl.1 rfl (Nat.le_of_ble_eq_true rfl) dL_law_1425 hf) hP hD hS K.hA (fun u H locs hP hD hS => ?_)
  have hP : va_P D vwCl (wLw cI cJ cC cG h9 hn ap ht h0 pc u x' ad oa out m1) H := kp_b hP
  have hD : va_D A (wLw cI cJ cC cG h9 hn ap ht h0 pc u x' ad oa out m1) := kd_b hD
  refine lv_aload_n K.hx K.hb dL_law_1428 rfl (lv_at hl 2 rfl) ?_
  have hPc : va_P D vwCl (wMt cI cJ ad m1) _ := kp_r hP
  have hDc : va_D A (wMt cI cJ ad m1) := kd_r hD
  refine kj_i2 (k_rV (As := []) (rest := [.int r]) ⟨K.hx, K.hb, K.hml, K.hown, K.hts⟩ K.hK K.hN hPc hDc (zM_cubeOf h2) (cwV 0 K.hts gL_law_X10_cubeOf rfl rfl rfl (by decide +kernel) ⟨Nat.le_of_ble_eq_true rfl, Nat.le_of_ble_eq_true rfl⟩) rfl rfl rfl hl.1 rfl (Nat.le_of_ble_eq_true rfl) dL_law_1429 hf) hP hD hS K.hA (fun H locs hP hD hS => ?_)
  have hP : va_P D vwCl (wLw cI cJ cC cG h9 hn ap ht h0 pc u x' ad oa out m') H := hP
  have hD : va_D A (wLw cI cJ cC cG h9 hn ap ht h0 pc u x' ad oa out m') := hD
  refine lv_icmp_eq (tgt := 2028) K.hx K.hb dL_law_1432 (by decide) (fun cc => ?_) (fun cc => absurd h4 cc)
  exact kk u H locs ls hP hD hS (lv_sub hl [0, 1, 2, 3, 4] rfl)
set_option maxHeartbeats 8000000 in
set_option maxRecDepth 100000 in
theorem wl_score {p : Program} {l : Launch} {e : Env} {s : State} {m : MethodId} {b L : Nat} {xs : Nat → Int32} {below : List Frame} {meth : Method} {c : Code} {A : Nat → Prop} {D : va_G} {cI cJ cC cG : ClassId} {h9 hn h0 : Nat} {ap ht pc : Nat → Nat} {u : lwH} {x : XT} {m1 : MT} {ad : Nat → Nat} {oa : Nat} {out : Nat → Int64} {H : Heap} {locs : List Loc} {ls : Array Slot} {Q : State → Prop} {C S j : Nat} (K : lwK p l s m b L xs meth c A D cI cJ cC cG) (hP : va_P D vwCl (wLw cI cJ cC cG h9 hn ap ht h0 pc u x ad oa out m1) H) (hD : va_D A (wLw cI cJ cC cG h9 hn ap ht h0 pc u x ad oa out m1)) (hS : va_S A s.heap H locs) (hl : lv_has ls 9 (lw_lv b h9 (ad 0) oa j)) (hj : j + 4 ≤ L) (hL : L ≤ 2048) {r : Int32} {x' : XT} {r' : Int32} {m' : MT} (hf : C + 0 ≤ room_1.cells ∧ S + 0 ≤ room_1.slots) (h1 : XN_score x (xs (j + 1)) = some (r, x')) (h2 : MN_score m1 (xs (j + 1)) = some (r', m')) (h3 : thr m' = 0) (h4 : (Int32.toInt64 r) = Int32.toInt64 r') (kk : ∀ (u : lwH) (H : Heap) (locs : List Loc) (ls : Array Slot), va_P D vwCl (wLw cI cJ cC cG h9 hn ap ht h0 pc u x' ad oa (vp_updL out (Int32.toNatClampNeg 0) (Int32.toInt64 r)) m') H → va_D A (wLw cI cJ cC cG h9 hn ap ht h0 pc u x' ad oa (vp_updL out (Int32.toNatClampNeg 0) (Int32.toInt64 r)) m') → va_S A s.heap H locs → lv_has ls 9 (lw_lv b h9 (ad 0) oa j) → W p l e room_1 s m #[Value.ref b] below meth c H locs C S Q (F0 m 2028 ls [])) : W p l e room_1 s m #[Value.ref b] below meth c H locs C S Q (F0 m 1437 ls []) := by
  have hl : lv_has ls 9 [(4, .int (lw_i j)), (3, .ref oa), (2, .ref (ad 0)), (1, .ref h9), (0, .ref b)] := hl
  refine lv_aload_n K.hx K.hb dL_law_1437 rfl (lv_at hl 3 rfl) ?_
  refine lw_arg1 K hS (lv_at hl 4 rfl) (lv_at hl 0 rfl) hj hL dL_law_1438 dL_law_1439 dL_law_1441 dL_law_1442 dL_law_1443 ?_
  refine lv_aload_n K.hx K.hb dL_law_1444 rfl (lv_at hl 1 rfl) ?_
  have hPc : va_P D vwCl (wX1 cI cJ cC cG h9 hn ap ht h0 pc u x oa out) _ := kp_l hP
  have hDc : va_D A (wX1 cI cJ cC cG h9 hn ap ht h0 pc u x oa out) := kd_l hD
  refine kj_i1 (k_rSW (As := [.ref h9, .int (xs (j + 1)), .ref oa]) (rest := []) ⟨K.hx, K.hb, K.hml, K.hown, K.hts⟩ K.hK K.hN hPc hDc (zB_score h1) (vx_cwSW (hh := [(0, 9, 12, 21)]) 3 K.hts gL_law_L_score rfl rfl rfl (by decide +kernel) ⟨Nat.le_of_ble_eq_true rfl, Nat.le_of_ble_eq_true rfl⟩) rfl hl.1 rfl (Nat.le_of_ble_eq_true rfl) dL_law_1445 hf) hP hD hS K.hA (fun u H locs hP hD hS => ?_)
  have hP : va_P D vwCl (wLw cI cJ cC cG h9 hn ap ht h0 pc u x' ad oa (vp_updL out (Int32.toNatClampNeg 0) (Int32.toInt64 r)) m1) H := hP
  have hD : va_D A (wLw cI cJ cC cG h9 hn ap ht h0 pc u x' ad oa (vp_updL out (Int32.toNatClampNeg 0) (Int32.toInt64 r)) m1) := hD
  refine lv_istore (lv' := [(5, .int 0), (4, .int (lw_i j)), (3, .ref oa), (2, .ref (ad 0)), (1, .ref h9), (0, .ref b)]) K.hx K.hb dL_law_1448 hl (by decide) rfl (fun ls hl => ?_)
  refine lv_aload_n K.hx K.hb dL_law_1450 rfl (lv_at hl 3 rfl) ?_
  refine lw_arg1 K hS (lv_at hl 5 rfl) (lv_at hl 1 rfl) hj hL dL_law_1451 dL_law_1452 dL_law_1454 dL_law_1455 dL_law_1456 ?_
  have hPc : va_P D vwCl (wMt cI cJ ad m1) _ := kp_r hP
  have hDc : va_D A (wMt cI cJ ad m1) := kd_r hD
  refine kj_i2 (k_rV (As := [.int (xs (j + 1))]) (rest := []) ⟨K.hx, K.hb, K.hml, K.hown, K.hts⟩ K.hK K.hN hPc hDc (zM_score h2) (cwV 1 K.hts gL_law_X10_score rfl rfl rfl (by decide +kernel) ⟨Nat.le_of_ble_eq_true rfl, Nat.le_of_ble_eq_true rfl⟩) rfl rfl rfl hl.1 rfl (Nat.le_of_ble_eq_true rfl) dL_law_1457 hf) hP hD hS K.hA (fun H locs hP hD hS => ?_)
  have hP : va_P D vwCl (wLw cI cJ cC cG h9 hn ap ht h0 pc u x' ad oa (vp_updL out (Int32.toNatClampNeg 0) (Int32.toInt64 r)) m') H := hP
  have hD : va_D A (wLw cI cJ cC cG h9 hn ap ht h0 pc u x' ad oa (vp_updL out (Int32.toNatClampNeg 0) (Int32.toInt64 r)) m') := hD
  refine lv_istore (lv' := [(6, .int r'), (5, .int 0), (4, .int (lw_i j)), (3, .ref oa), (2, .ref (ad 0)), (1, .ref h9), (0, .ref b)]) K.hx K.hb dL_law_1460 hl (by decide) rfl (fun ls hl => ?_)
  refine lv_aload_n K.hx K.hb dL_law_1462 rfl (lv_at hl 4 rfl) ?_
  have hPc : va_P D vwCl (wMt cI cJ ad m') _ := kp_r hP
  have hDc : va_D A (wMt cI cJ ad m') := kd_r hD
  refine kj_i2 (k_rV (As := []) (rest := []) ⟨K.hx, K.hb, K.hml, K.hown, K.hts⟩ K.hK K.hN hPc hDc zM_thrown (cwV 0 K.hts gL_law_X10_thrown rfl rfl rfl (by decide +kernel) ⟨Nat.le_of_ble_eq_true rfl, Nat.le_of_ble_eq_true rfl⟩) rfl rfl rfl hl.1 rfl (Nat.le_of_ble_eq_true rfl) dL_law_1463 hf) hP hD hS K.hA (fun H locs hP hD hS => ?_)
  have hP : va_P D vwCl (wLw cI cJ cC cG h9 hn ap ht h0 pc u x' ad oa (vp_updL out (Int32.toNatClampNeg 0) (Int32.toInt64 r)) m') H := hP
  have hD : va_D A (wLw cI cJ cC cG h9 hn ap ht h0 pc u x' ad oa (vp_updL out (Int32.toNatClampNeg 0) (Int32.toInt64 r)) m') := hD
  refine lv_iload K.hx K.hb dL_law_1466 (lv_at hl 1 rfl) ?_
  refine lv_icmp_eq (tgt := 1473) K.hx K.hb dL_law_1468 (by decide) (fun cc => ?_) (fun cc => absurd h3 cc)
  refine lv_iload K.hx K.hb dL_law_1473 (lv_at hl 1 rfl) ?_
  refine lv_if_ne (tgt := 1490) K.hx K.hb dL_law_1475 (by decide) (fun cc => absurd rfl cc) (fun cc => ?_)
  refine lv_aload_n K.hx K.hb dL_law_1478 rfl (lv_at hl 3 rfl) ?_
  refine lv_iconst (v := 0) K.hx K.hb dL_law_1479 (by decide) ?_
  refine va_lald K.hx K.hb K.hK hP 25 1 rfl rfl kv_01 dL_law_1480 ?_
  refine W.eq (g2 := F0 m 1481 _ (.long (Int32.toInt64 r) :: [])) (by rw [lw_out]) ?_
  refine lv_iload K.hx K.hb dL_law_1481 (lv_at hl 0 rfl) ?_
  refine lv_i2l (v := Int32.toInt64 r') K.hx K.hb dL_law_1483 rfl ?_
  refine W.lcmp K.hx K.hb dL_law_1484 ?_
  refine lv_if_eq (tgt := 1490) K.hx K.hb dL_law_1485 (by decide) (fun cc => ?_) (fun cc => absurd (lw_ceq h4) cc)
  refine lv_goto (tgt := 2028) K.hx K.hb dL_law_1490 (by decide) ?_
  exact kk u H locs ls hP hD hS (lv_sub hl [2, 3, 4, 5, 6] rfl)
set_option maxHeartbeats 8000000 in
set_option maxRecDepth 100000 in
theorem wlT_score_1 {p : Program} {l : Launch} {e : Env} {s : State} {m : MethodId} {b L : Nat} {xs : Nat → Int32} {below : List Frame} {meth : Method} {c : Code} {A : Nat → Prop} {D : va_G} {cI cJ cC cG : ClassId} {h9 hn h0 : Nat} {ap ht pc : Nat → Nat} {u : lwH} {x : XT} {m1 : MT} {ad : Nat → Nat} {oa : Nat} {out : Nat → Int64} {H : Heap} {locs : List Loc} {ls : Array Slot} {Q : State → Prop} {C S j : Nat} (K : lwK p l s m b L xs meth c A D cI cJ cC cG) (hP : va_P D vwCl (wLw cI cJ cC cG h9 hn ap ht h0 pc u x ad oa out m1) H) (hD : va_D A (wLw cI cJ cC cG h9 hn ap ht h0 pc u x ad oa out m1)) (hS : va_S A s.heap H locs) (hl : lv_has ls 9 (lw_lv b h9 (ad 0) oa j)) (hj : j + 4 ≤ L) (hL : L ≤ 2048) {r' : Int32} {m' : MT} (hf : C + 1 ≤ room_1.cells ∧ S + 6 ≤ room_1.slots) (h1 : XT_score x (xs (j + 1)) = some "java/lang/IndexOutOfBoundsException") (h2 : MN_score m1 (xs (j + 1)) = some (r', m')) (h3 : thr m' = 1) (kk : ∀ (H : Heap) (locs : List Loc) (ls : Array Slot), va_P D vwCl (wLw cI cJ cC cG h9 hn ap ht h0 pc u x ad oa out m') H → va_D A (wLw cI cJ cC cG h9 hn ap ht h0 pc u x ad oa out m') → va_S A s.heap H locs → lv_has ls 9 (lw_lv b h9 (ad 0) oa j) → W p l e room_1 s m #[Value.ref b] below meth c H locs (C + 1) (S + 6) Q (F0 m 2028 ls [])) : W p l e room_1 s m #[Value.ref b] below meth c H locs C S Q (F0 m 1437 ls []) := by
  have hl : lv_has ls 9 [(4, .int (lw_i j)), (3, .ref oa), (2, .ref (ad 0)), (1, .ref h9), (0, .ref b)] := hl
  refine lv_aload_n K.hx K.hb dL_law_1437 rfl (lv_at hl 3 rfl) ?_
  refine lw_arg1 K hS (lv_at hl 4 rfl) (lv_at hl 0 rfl) hj hL dL_law_1438 dL_law_1439 dL_law_1441 dL_law_1442 dL_law_1443 ?_
  refine lv_aload_n K.hx K.hb dL_law_1444 rfl (lv_at hl 1 rfl) ?_
  have hPc : va_P D vwCl (wX1 cI cJ cC cG h9 hn ap ht h0 pc u x oa out) _ := kp_l hP
  have hDc : va_D A (wX1 cI cJ cC cG h9 hn ap ht h0 pc u x oa out) := kd_l hD
  refine kj_x1 (k_rSWT (As := [.ref h9, .int (xs (j + 1)), .ref oa]) (rest := []) ⟨K.hx, K.hb, K.hml, K.hown, K.hts⟩ K.hK K.hN K.hq hS (kj_F hD hS K.hA) hPc hDc (zBT_score_1 K.hst h1) (vx_cwSW (hh := [(0, 9, 12, 21)]) 3 K.hts gL_law_L_score rfl rfl rfl (by decide +kernel) ⟨Nat.le_of_ble_eq_true rfl, Nat.le_of_ble_eq_true rfl⟩) rfl hl.1 rfl (Nat.le_of_ble_eq_true rfl) dL_law_1445 hf) hP hD hS K.hA (fun H locs hP hD hS => ?_)
  have hP : va_P D vwCl (wLw cI cJ cC cG h9 hn ap ht h0 pc u x ad oa out m1) H := hP
  have hD : va_D A (wLw cI cJ cC cG h9 hn ap ht h0 pc u x ad oa out m1) := hD
  refine lv_istore (lv' := [(5, .int 1), (4, .int (lw_i j)), (3, .ref oa), (2, .ref (ad 0)), (1, .ref h9), (0, .ref b)]) K.hx K.hb dL_law_1448 hl (by decide) rfl (fun ls hl => ?_)
  refine lv_aload_n K.hx K.hb dL_law_1450 rfl (lv_at hl 3 rfl) ?_
  refine lw_arg1 K hS (lv_at hl 5 rfl) (lv_at hl 1 rfl) hj hL dL_law_1451 dL_law_1452 dL_law_1454 dL_law_1455 dL_law_1456 ?_
  have hPc : va_P D vwCl (wMt cI cJ ad m1) _ := kp_r hP
  have hDc : va_D A (wMt cI cJ ad m1) := kd_r hD
  refine kj_i2 (k_rV (As := [.int (xs (j + 1))]) (rest := []) ⟨K.hx, K.hb, K.hml, K.hown, K.hts⟩ K.hK K.hN hPc hDc (zM_score h2) (cwV 1 K.hts gL_law_X10_score rfl rfl rfl (by decide +kernel) ⟨Nat.le_of_ble_eq_true rfl, Nat.le_of_ble_eq_true rfl⟩) rfl rfl rfl hl.1 rfl (Nat.le_of_ble_eq_true rfl) dL_law_1457 (lw_fit hf)) hP hD hS K.hA (fun H locs hP hD hS => ?_)
  have hP : va_P D vwCl (wLw cI cJ cC cG h9 hn ap ht h0 pc u x ad oa out m') H := hP
  have hD : va_D A (wLw cI cJ cC cG h9 hn ap ht h0 pc u x ad oa out m') := hD
  refine lv_istore (lv' := [(6, .int r'), (5, .int 1), (4, .int (lw_i j)), (3, .ref oa), (2, .ref (ad 0)), (1, .ref h9), (0, .ref b)]) K.hx K.hb dL_law_1460 hl (by decide) rfl (fun ls hl => ?_)
  refine lv_aload_n K.hx K.hb dL_law_1462 rfl (lv_at hl 4 rfl) ?_
  have hPc : va_P D vwCl (wMt cI cJ ad m') _ := kp_r hP
  have hDc : va_D A (wMt cI cJ ad m') := kd_r hD
  refine kj_i2 (k_rV (As := []) (rest := []) ⟨K.hx, K.hb, K.hml, K.hown, K.hts⟩ K.hK K.hN hPc hDc zM_thrown (cwV 0 K.hts gL_law_X10_thrown rfl rfl rfl (by decide +kernel) ⟨Nat.le_of_ble_eq_true rfl, Nat.le_of_ble_eq_true rfl⟩) rfl rfl rfl hl.1 rfl (Nat.le_of_ble_eq_true rfl) dL_law_1463 (lw_fit hf)) hP hD hS K.hA (fun H locs hP hD hS => ?_)
  have hP : va_P D vwCl (wLw cI cJ cC cG h9 hn ap ht h0 pc u x ad oa out m') H := hP
  have hD : va_D A (wLw cI cJ cC cG h9 hn ap ht h0 pc u x ad oa out m') := hD
  refine lv_iload K.hx K.hb dL_law_1466 (lv_at hl 1 rfl) ?_
  refine lv_icmp_eq (tgt := 1473) K.hx K.hb dL_law_1468 (by decide) (fun cc => ?_) (fun cc => absurd h3 cc)
  refine lv_iload K.hx K.hb dL_law_1473 (lv_at hl 1 rfl) ?_
  refine lv_if_ne (tgt := 1490) K.hx K.hb dL_law_1475 (by decide) (fun cc => ?_) (fun cc => absurd cc (by decide))
  refine lv_goto (tgt := 2028) K.hx K.hb dL_law_1490 (by decide) ?_
  exact kk H locs ls hP hD hS (lv_sub hl [2, 3, 4, 5, 6] rfl)
set_option maxHeartbeats 8000000 in
set_option maxRecDepth 100000 in
theorem wl_hits {p : Program} {l : Launch} {e : Env} {s : State} {m : MethodId} {b L : Nat} {xs : Nat → Int32} {below : List Frame} {meth : Method} {c : Code} {A : Nat → Prop} {D : va_G} {cI cJ cC cG : ClassId} {h9 hn h0 : Nat} {ap ht pc : Nat → Nat} {u : lwH} {x : XT} {m1 : MT} {ad : Nat → Nat} {oa : Nat} {out : Nat → Int64} {H : Heap} {locs : List Loc} {ls : Array Slot} {Q : State → Prop} {C S j : Nat} (K : lwK p l s m b L xs meth c A D cI cJ cC cG) (hP : va_P D vwCl (wLw cI cJ cC cG h9 hn ap ht h0 pc u x ad oa out m1) H) (hD : va_D A (wLw cI cJ cC cG h9 hn ap ht h0 pc u x ad oa out m1)) (hS : va_S A s.heap H locs) (hl : lv_has ls 9 (lw_lv b h9 (ad 0) oa j)) (hj : j + 4 ≤ L) (hL : L ≤ 2048) {r : Int32} {x' : XT} {r' : Int32} {m' : MT} (hf : C + 0 ≤ room_1.cells ∧ S + 0 ≤ room_1.slots) (h1 : XN_hits x (xs (j + 1)) = some (r, x')) (h2 : MN_hits m1 (xs (j + 1)) = some (r', m')) (h3 : thr m' = 0) (h4 : (Int32.toInt64 r) = Int32.toInt64 r') (kk : ∀ (u : lwH) (H : Heap) (locs : List Loc) (ls : Array Slot), va_P D vwCl (wLw cI cJ cC cG h9 hn ap ht h0 pc u x' ad oa (vp_updL out (Int32.toNatClampNeg 0) (Int32.toInt64 r)) m') H → va_D A (wLw cI cJ cC cG h9 hn ap ht h0 pc u x' ad oa (vp_updL out (Int32.toNatClampNeg 0) (Int32.toInt64 r)) m') → va_S A s.heap H locs → lv_has ls 9 (lw_lv b h9 (ad 0) oa j) → W p l e room_1 s m #[Value.ref b] below meth c H locs C S Q (F0 m 2028 ls [])) : W p l e room_1 s m #[Value.ref b] below meth c H locs C S Q (F0 m 1493 ls []) := by
  have hl : lv_has ls 9 [(4, .int (lw_i j)), (3, .ref oa), (2, .ref (ad 0)), (1, .ref h9), (0, .ref b)] := hl
  refine lv_aload_n K.hx K.hb dL_law_1493 rfl (lv_at hl 3 rfl) ?_
  refine lw_arg1 K hS (lv_at hl 4 rfl) (lv_at hl 0 rfl) hj hL dL_law_1494 dL_law_1495 dL_law_1497 dL_law_1498 dL_law_1499 ?_
  refine lv_aload_n K.hx K.hb dL_law_1500 rfl (lv_at hl 1 rfl) ?_
  have hPc : va_P D vwCl (wX1 cI cJ cC cG h9 hn ap ht h0 pc u x oa out) _ := kp_l hP
  have hDc : va_D A (wX1 cI cJ cC cG h9 hn ap ht h0 pc u x oa out) := kd_l hD
  refine kj_i1 (k_rSW (As := [.ref h9, .int (xs (j + 1)), .ref oa]) (rest := []) ⟨K.hx, K.hb, K.hml, K.hown, K.hts⟩ K.hK K.hN hPc hDc (zB_hits h1) (vx_cwSW (hh := [(0, 9, 12, 21)]) 3 K.hts gL_law_L_hits rfl rfl rfl (by decide +kernel) ⟨Nat.le_of_ble_eq_true rfl, Nat.le_of_ble_eq_true rfl⟩) rfl hl.1 rfl (Nat.le_of_ble_eq_true rfl) dL_law_1501 hf) hP hD hS K.hA (fun u H locs hP hD hS => ?_)
  have hP : va_P D vwCl (wLw cI cJ cC cG h9 hn ap ht h0 pc u x' ad oa (vp_updL out (Int32.toNatClampNeg 0) (Int32.toInt64 r)) m1) H := hP
  have hD : va_D A (wLw cI cJ cC cG h9 hn ap ht h0 pc u x' ad oa (vp_updL out (Int32.toNatClampNeg 0) (Int32.toInt64 r)) m1) := hD
  refine lv_istore (lv' := [(5, .int 0), (4, .int (lw_i j)), (3, .ref oa), (2, .ref (ad 0)), (1, .ref h9), (0, .ref b)]) K.hx K.hb dL_law_1504 hl (by decide) rfl (fun ls hl => ?_)
  refine lv_aload_n K.hx K.hb dL_law_1506 rfl (lv_at hl 3 rfl) ?_
  refine lw_arg1 K hS (lv_at hl 5 rfl) (lv_at hl 1 rfl) hj hL dL_law_1507 dL_law_1508 dL_law_1510 dL_law_1511 dL_law_1512 ?_
  have hPc : va_P D vwCl (wMt cI cJ ad m1) _ := kp_r hP
  have hDc : va_D A (wMt cI cJ ad m1) := kd_r hD
  refine kj_i2 (k_rV (As := [.int (xs (j + 1))]) (rest := []) ⟨K.hx, K.hb, K.hml, K.hown, K.hts⟩ K.hK K.hN hPc hDc (zM_hits h2) (cwV 1 K.hts gL_law_X10_hits rfl rfl rfl (by decide +kernel) ⟨Nat.le_of_ble_eq_true rfl, Nat.le_of_ble_eq_true rfl⟩) rfl rfl rfl hl.1 rfl (Nat.le_of_ble_eq_true rfl) dL_law_1513 hf) hP hD hS K.hA (fun H locs hP hD hS => ?_)
  have hP : va_P D vwCl (wLw cI cJ cC cG h9 hn ap ht h0 pc u x' ad oa (vp_updL out (Int32.toNatClampNeg 0) (Int32.toInt64 r)) m') H := hP
  have hD : va_D A (wLw cI cJ cC cG h9 hn ap ht h0 pc u x' ad oa (vp_updL out (Int32.toNatClampNeg 0) (Int32.toInt64 r)) m') := hD
  refine lv_istore (lv' := [(6, .int r'), (5, .int 0), (4, .int (lw_i j)), (3, .ref oa), (2, .ref (ad 0)), (1, .ref h9), (0, .ref b)]) K.hx K.hb dL_law_1516 hl (by decide) rfl (fun ls hl => ?_)
  refine lv_aload_n K.hx K.hb dL_law_1518 rfl (lv_at hl 4 rfl) ?_
  have hPc : va_P D vwCl (wMt cI cJ ad m') _ := kp_r hP
  have hDc : va_D A (wMt cI cJ ad m') := kd_r hD
  refine kj_i2 (k_rV (As := []) (rest := []) ⟨K.hx, K.hb, K.hml, K.hown, K.hts⟩ K.hK K.hN hPc hDc zM_thrown (cwV 0 K.hts gL_law_X10_thrown rfl rfl rfl (by decide +kernel) ⟨Nat.le_of_ble_eq_true rfl, Nat.le_of_ble_eq_true rfl⟩) rfl rfl rfl hl.1 rfl (Nat.le_of_ble_eq_true rfl) dL_law_1519 hf) hP hD hS K.hA (fun H locs hP hD hS => ?_)
  have hP : va_P D vwCl (wLw cI cJ cC cG h9 hn ap ht h0 pc u x' ad oa (vp_updL out (Int32.toNatClampNeg 0) (Int32.toInt64 r)) m') H := hP
  have hD : va_D A (wLw cI cJ cC cG h9 hn ap ht h0 pc u x' ad oa (vp_updL out (Int32.toNatClampNeg 0) (Int32.toInt64 r)) m') := hD
  refine lv_iload K.hx K.hb dL_law_1522 (lv_at hl 1 rfl) ?_
  refine lv_icmp_eq (tgt := 1529) K.hx K.hb dL_law_1524 (by decide) (fun cc => ?_) (fun cc => absurd h3 cc)
  refine lv_iload K.hx K.hb dL_law_1529 (lv_at hl 1 rfl) ?_
  refine lv_if_ne (tgt := 1546) K.hx K.hb dL_law_1531 (by decide) (fun cc => absurd rfl cc) (fun cc => ?_)
  refine lv_aload_n K.hx K.hb dL_law_1534 rfl (lv_at hl 3 rfl) ?_
  refine lv_iconst (v := 0) K.hx K.hb dL_law_1535 (by decide) ?_
  refine va_lald K.hx K.hb K.hK hP 25 1 rfl rfl kv_01 dL_law_1536 ?_
  refine W.eq (g2 := F0 m 1537 _ (.long (Int32.toInt64 r) :: [])) (by rw [lw_out]) ?_
  refine lv_iload K.hx K.hb dL_law_1537 (lv_at hl 0 rfl) ?_
  refine lv_i2l (v := Int32.toInt64 r') K.hx K.hb dL_law_1539 rfl ?_
  refine W.lcmp K.hx K.hb dL_law_1540 ?_
  refine lv_if_eq (tgt := 1546) K.hx K.hb dL_law_1541 (by decide) (fun cc => ?_) (fun cc => absurd (lw_ceq h4) cc)
  refine lv_goto (tgt := 2028) K.hx K.hb dL_law_1546 (by decide) ?_
  exact kk u H locs ls hP hD hS (lv_sub hl [2, 3, 4, 5, 6] rfl)
set_option maxHeartbeats 8000000 in
set_option maxRecDepth 100000 in
theorem wlT_hits_1 {p : Program} {l : Launch} {e : Env} {s : State} {m : MethodId} {b L : Nat} {xs : Nat → Int32} {below : List Frame} {meth : Method} {c : Code} {A : Nat → Prop} {D : va_G} {cI cJ cC cG : ClassId} {h9 hn h0 : Nat} {ap ht pc : Nat → Nat} {u : lwH} {x : XT} {m1 : MT} {ad : Nat → Nat} {oa : Nat} {out : Nat → Int64} {H : Heap} {locs : List Loc} {ls : Array Slot} {Q : State → Prop} {C S j : Nat} (K : lwK p l s m b L xs meth c A D cI cJ cC cG) (hP : va_P D vwCl (wLw cI cJ cC cG h9 hn ap ht h0 pc u x ad oa out m1) H) (hD : va_D A (wLw cI cJ cC cG h9 hn ap ht h0 pc u x ad oa out m1)) (hS : va_S A s.heap H locs) (hl : lv_has ls 9 (lw_lv b h9 (ad 0) oa j)) (hj : j + 4 ≤ L) (hL : L ≤ 2048) {r' : Int32} {m' : MT} (hf : C + 1 ≤ room_1.cells ∧ S + 6 ≤ room_1.slots) (h1 : XT_hits x (xs (j + 1)) = some "java/lang/IndexOutOfBoundsException") (h2 : MN_hits m1 (xs (j + 1)) = some (r', m')) (h3 : thr m' = 1) (kk : ∀ (H : Heap) (locs : List Loc) (ls : Array Slot), va_P D vwCl (wLw cI cJ cC cG h9 hn ap ht h0 pc u x ad oa out m') H → va_D A (wLw cI cJ cC cG h9 hn ap ht h0 pc u x ad oa out m') → va_S A s.heap H locs → lv_has ls 9 (lw_lv b h9 (ad 0) oa j) → W p l e room_1 s m #[Value.ref b] below meth c H locs (C + 1) (S + 6) Q (F0 m 2028 ls [])) : W p l e room_1 s m #[Value.ref b] below meth c H locs C S Q (F0 m 1493 ls []) := by
  have hl : lv_has ls 9 [(4, .int (lw_i j)), (3, .ref oa), (2, .ref (ad 0)), (1, .ref h9), (0, .ref b)] := hl
  refine lv_aload_n K.hx K.hb dL_law_1493 rfl (lv_at hl 3 rfl) ?_
  refine lw_arg1 K hS (lv_at hl 4 rfl) (lv_at hl 0 rfl) hj hL dL_law_1494 dL_law_1495 dL_law_1497 dL_law_1498 dL_law_1499 ?_
  refine lv_aload_n K.hx K.hb dL_law_1500 rfl (lv_at hl 1 rfl) ?_
  have hPc : va_P D vwCl (wX1 cI cJ cC cG h9 hn ap ht h0 pc u x oa out) _ := kp_l hP
  have hDc : va_D A (wX1 cI cJ cC cG h9 hn ap ht h0 pc u x oa out) := kd_l hD
  refine kj_x1 (k_rSWT (As := [.ref h9, .int (xs (j + 1)), .ref oa]) (rest := []) ⟨K.hx, K.hb, K.hml, K.hown, K.hts⟩ K.hK K.hN K.hq hS (kj_F hD hS K.hA) hPc hDc (zBT_hits_1 K.hst h1) (vx_cwSW (hh := [(0, 9, 12, 21)]) 3 K.hts gL_law_L_hits rfl rfl rfl (by decide +kernel) ⟨Nat.le_of_ble_eq_true rfl, Nat.le_of_ble_eq_true rfl⟩) rfl hl.1 rfl (Nat.le_of_ble_eq_true rfl) dL_law_1501 hf) hP hD hS K.hA (fun H locs hP hD hS => ?_)
  have hP : va_P D vwCl (wLw cI cJ cC cG h9 hn ap ht h0 pc u x ad oa out m1) H := hP
  have hD : va_D A (wLw cI cJ cC cG h9 hn ap ht h0 pc u x ad oa out m1) := hD
  refine lv_istore (lv' := [(5, .int 1), (4, .int (lw_i j)), (3, .ref oa), (2, .ref (ad 0)), (1, .ref h9), (0, .ref b)]) K.hx K.hb dL_law_1504 hl (by decide) rfl (fun ls hl => ?_)
  refine lv_aload_n K.hx K.hb dL_law_1506 rfl (lv_at hl 3 rfl) ?_
  refine lw_arg1 K hS (lv_at hl 5 rfl) (lv_at hl 1 rfl) hj hL dL_law_1507 dL_law_1508 dL_law_1510 dL_law_1511 dL_law_1512 ?_
  have hPc : va_P D vwCl (wMt cI cJ ad m1) _ := kp_r hP
  have hDc : va_D A (wMt cI cJ ad m1) := kd_r hD
  refine kj_i2 (k_rV (As := [.int (xs (j + 1))]) (rest := []) ⟨K.hx, K.hb, K.hml, K.hown, K.hts⟩ K.hK K.hN hPc hDc (zM_hits h2) (cwV 1 K.hts gL_law_X10_hits rfl rfl rfl (by decide +kernel) ⟨Nat.le_of_ble_eq_true rfl, Nat.le_of_ble_eq_true rfl⟩) rfl rfl rfl hl.1 rfl (Nat.le_of_ble_eq_true rfl) dL_law_1513 (lw_fit hf)) hP hD hS K.hA (fun H locs hP hD hS => ?_)
  have hP : va_P D vwCl (wLw cI cJ cC cG h9 hn ap ht h0 pc u x ad oa out m') H := hP
  have hD : va_D A (wLw cI cJ cC cG h9 hn ap ht h0 pc u x ad oa out m') := hD
  refine lv_istore (lv' := [(6, .int r'), (5, .int 1), (4, .int (lw_i j)), (3, .ref oa), (2, .ref (ad 0)), (1, .ref h9), (0, .ref b)]) K.hx K.hb dL_law_1516 hl (by decide) rfl (fun ls hl => ?_)
  refine lv_aload_n K.hx K.hb dL_law_1518 rfl (lv_at hl 4 rfl) ?_
  have hPc : va_P D vwCl (wMt cI cJ ad m') _ := kp_r hP
  have hDc : va_D A (wMt cI cJ ad m') := kd_r hD
  refine kj_i2 (k_rV (As := []) (rest := []) ⟨K.hx, K.hb, K.hml, K.hown, K.hts⟩ K.hK K.hN hPc hDc zM_thrown (cwV 0 K.hts gL_law_X10_thrown rfl rfl rfl (by decide +kernel) ⟨Nat.le_of_ble_eq_true rfl, Nat.le_of_ble_eq_true rfl⟩) rfl rfl rfl hl.1 rfl (Nat.le_of_ble_eq_true rfl) dL_law_1519 (lw_fit hf)) hP hD hS K.hA (fun H locs hP hD hS => ?_)
  have hP : va_P D vwCl (wLw cI cJ cC cG h9 hn ap ht h0 pc u x ad oa out m') H := hP
  have hD : va_D A (wLw cI cJ cC cG h9 hn ap ht h0 pc u x ad oa out m') := hD
  refine lv_iload K.hx K.hb dL_law_1522 (lv_at hl 1 rfl) ?_
  refine lv_icmp_eq (tgt := 1529) K.hx K.hb dL_law_1524 (by decide) (fun cc => ?_) (fun cc => absurd h3 cc)
  refine lv_iload K.hx K.hb dL_law_1529 (lv_at hl 1 rfl) ?_
  refine lv_if_ne (tgt := 1546) K.hx K.hb dL_law_1531 (by decide) (fun cc => ?_) (fun cc => absurd cc (by decide))
  refine lv_goto (tgt := 2028) K.hx K.hb dL_law_1546 (by decide) ?_
  exact kk H locs ls hP hD hS (lv_sub hl [2, 3, 4, 5, 6] rfl)
set_option maxHeartbeats 8000000 in
set_option maxRecDepth 100000 in
theorem wl_whyNoStep {p : Program} {l : Launch} {e : Env} {s : State} {m : MethodId} {b L : Nat} {xs : Nat → Int32} {below : List Frame} {meth : Method} {c : Code} {A : Nat → Prop} {D : va_G} {cI cJ cC cG : ClassId} {h9 hn h0 : Nat} {ap ht pc : Nat → Nat} {u : lwH} {x : XT} {m1 : MT} {ad : Nat → Nat} {oa : Nat} {out : Nat → Int64} {H : Heap} {locs : List Loc} {ls : Array Slot} {Q : State → Prop} {C S j : Nat} (K : lwK p l s m b L xs meth c A D cI cJ cC cG) (hP : va_P D vwCl (wLw cI cJ cC cG h9 hn ap ht h0 pc u x ad oa out m1) H) (hD : va_D A (wLw cI cJ cC cG h9 hn ap ht h0 pc u x ad oa out m1)) (hS : va_S A s.heap H locs) (hl : lv_has ls 9 (lw_lv b h9 (ad 0) oa j)) (hj : j + 4 ≤ L) (hL : L ≤ 2048) {r : Int32} {x' : XT} {r' : Int32} {m' : MT} (hf : C + 0 ≤ room_1.cells ∧ S + 0 ≤ room_1.slots) (h1 : XN_whyNoStep x (xs (j + 1)) (xs (j + 2)) = some (r, x')) (h2 : MN_whyNoStep m1 (xs (j + 1)) (xs (j + 2)) = some (r', m')) (h3 : thr m' = 0) (h4 : (Int32.toInt64 r) = Int32.toInt64 r') (kk : ∀ (u : lwH) (H : Heap) (locs : List Loc) (ls : Array Slot), va_P D vwCl (wLw cI cJ cC cG h9 hn ap ht h0 pc u x' ad oa (vp_updL out (Int32.toNatClampNeg 0) (Int32.toInt64 r)) m') H → va_D A (wLw cI cJ cC cG h9 hn ap ht h0 pc u x' ad oa (vp_updL out (Int32.toNatClampNeg 0) (Int32.toInt64 r)) m') → va_S A s.heap H locs → lv_has ls 9 (lw_lv b h9 (ad 0) oa j) → W p l e room_1 s m #[Value.ref b] below meth c H locs C S Q (F0 m 2028 ls [])) : W p l e room_1 s m #[Value.ref b] below meth c H locs C S Q (F0 m 1549 ls []) := by
  have hl : lv_has ls 9 [(4, .int (lw_i j)), (3, .ref oa), (2, .ref (ad 0)), (1, .ref h9), (0, .ref b)] := hl
  refine lv_aload_n K.hx K.hb dL_law_1549 rfl (lv_at hl 3 rfl) ?_
  refine lw_arg1 K hS (lv_at hl 4 rfl) (lv_at hl 0 rfl) hj hL dL_law_1550 dL_law_1551 dL_law_1553 dL_law_1554 dL_law_1555 ?_
  refine lw_arg2 K hS (lv_at hl 4 rfl) (lv_at hl 0 rfl) hj hL dL_law_1556 dL_law_1557 dL_law_1559 dL_law_1560 dL_law_1561 ?_
  refine lv_aload_n K.hx K.hb dL_law_1562 rfl (lv_at hl 1 rfl) ?_
  have hPc : va_P D vwCl (wX1 cI cJ cC cG h9 hn ap ht h0 pc u x oa out) _ := kp_l hP
  have hDc : va_D A (wX1 cI cJ cC cG h9 hn ap ht h0 pc u x oa out) := kd_l hD
  refine kj_i1 (k_rSW (As := [.ref h9, .int (xs (j + 1)), .int (xs (j + 2)), .ref oa]) (rest := []) ⟨K.hx, K.hb, K.hml, K.hown, K.hts⟩ K.hK K.hN hPc hDc (zB_whyNoStep h1) (vx_cwSW (hh := [(0, 10, 13, 21), (0, 10, 17, 13)]) 4 K.hts gL_law_L_whyNoStep rfl rfl rfl (by decide +kernel) ⟨Nat.le_of_ble_eq_true rfl, Nat.le_of_ble_eq_true rfl⟩) rfl hl.1 rfl (Nat.le_of_ble_eq_true rfl) dL_law_1563 hf) hP hD hS K.hA (fun u H locs hP hD hS => ?_)
  have hP : va_P D vwCl (wLw cI cJ cC cG h9 hn ap ht h0 pc u x' ad oa (vp_updL out (Int32.toNatClampNeg 0) (Int32.toInt64 r)) m1) H := hP
  have hD : va_D A (wLw cI cJ cC cG h9 hn ap ht h0 pc u x' ad oa (vp_updL out (Int32.toNatClampNeg 0) (Int32.toInt64 r)) m1) := hD
  refine lv_istore (lv' := [(5, .int 0), (4, .int (lw_i j)), (3, .ref oa), (2, .ref (ad 0)), (1, .ref h9), (0, .ref b)]) K.hx K.hb dL_law_1566 hl (by decide) rfl (fun ls hl => ?_)
  refine lv_aload_n K.hx K.hb dL_law_1568 rfl (lv_at hl 3 rfl) ?_
  refine lw_arg1 K hS (lv_at hl 5 rfl) (lv_at hl 1 rfl) hj hL dL_law_1569 dL_law_1570 dL_law_1572 dL_law_1573 dL_law_1574 ?_
  refine lw_arg2 K hS (lv_at hl 5 rfl) (lv_at hl 1 rfl) hj hL dL_law_1575 dL_law_1576 dL_law_1578 dL_law_1579 dL_law_1580 ?_
  have hPc : va_P D vwCl (wMt cI cJ ad m1) _ := kp_r hP
  have hDc : va_D A (wMt cI cJ ad m1) := kd_r hD
  refine kj_i2 (k_rV (As := [.int (xs (j + 1)), .int (xs (j + 2))]) (rest := []) ⟨K.hx, K.hb, K.hml, K.hown, K.hts⟩ K.hK K.hN hPc hDc (zM_whyNoStep h2) (cwV 2 K.hts gL_law_X10_whyNoStep rfl rfl rfl (by decide +kernel) ⟨Nat.le_of_ble_eq_true rfl, Nat.le_of_ble_eq_true rfl⟩) rfl rfl rfl hl.1 rfl (Nat.le_of_ble_eq_true rfl) dL_law_1581 hf) hP hD hS K.hA (fun H locs hP hD hS => ?_)
  have hP : va_P D vwCl (wLw cI cJ cC cG h9 hn ap ht h0 pc u x' ad oa (vp_updL out (Int32.toNatClampNeg 0) (Int32.toInt64 r)) m') H := hP
  have hD : va_D A (wLw cI cJ cC cG h9 hn ap ht h0 pc u x' ad oa (vp_updL out (Int32.toNatClampNeg 0) (Int32.toInt64 r)) m') := hD
  refine lv_istore (lv' := [(6, .int r'), (5, .int 0), (4, .int (lw_i j)), (3, .ref oa), (2, .ref (ad 0)), (1, .ref h9), (0, .ref b)]) K.hx K.hb dL_law_1584 hl (by decide) rfl (fun ls hl => ?_)
  refine lv_aload_n K.hx K.hb dL_law_1586 rfl (lv_at hl 4 rfl) ?_
  have hPc : va_P D vwCl (wMt cI cJ ad m') _ := kp_r hP
  have hDc : va_D A (wMt cI cJ ad m') := kd_r hD
  refine kj_i2 (k_rV (As := []) (rest := []) ⟨K.hx, K.hb, K.hml, K.hown, K.hts⟩ K.hK K.hN hPc hDc zM_thrown (cwV 0 K.hts gL_law_X10_thrown rfl rfl rfl (by decide +kernel) ⟨Nat.le_of_ble_eq_true rfl, Nat.le_of_ble_eq_true rfl⟩) rfl rfl rfl hl.1 rfl (Nat.le_of_ble_eq_true rfl) dL_law_1587 hf) hP hD hS K.hA (fun H locs hP hD hS => ?_)
  have hP : va_P D vwCl (wLw cI cJ cC cG h9 hn ap ht h0 pc u x' ad oa (vp_updL out (Int32.toNatClampNeg 0) (Int32.toInt64 r)) m') H := hP
  have hD : va_D A (wLw cI cJ cC cG h9 hn ap ht h0 pc u x' ad oa (vp_updL out (Int32.toNatClampNeg 0) (Int32.toInt64 r)) m') := hD
  refine lv_iload K.hx K.hb dL_law_1590 (lv_at hl 1 rfl) ?_
  refine lv_icmp_eq (tgt := 1597) K.hx K.hb dL_law_1592 (by decide) (fun cc => ?_) (fun cc => absurd h3 cc)
  refine lv_iload K.hx K.hb dL_law_1597 (lv_at hl 1 rfl) ?_
  refine lv_if_ne (tgt := 1614) K.hx K.hb dL_law_1599 (by decide) (fun cc => absurd rfl cc) (fun cc => ?_)
  refine lv_aload_n K.hx K.hb dL_law_1602 rfl (lv_at hl 3 rfl) ?_
  refine lv_iconst (v := 0) K.hx K.hb dL_law_1603 (by decide) ?_
  refine va_lald K.hx K.hb K.hK hP 25 1 rfl rfl kv_01 dL_law_1604 ?_
  refine W.eq (g2 := F0 m 1605 _ (.long (Int32.toInt64 r) :: [])) (by rw [lw_out]) ?_
  refine lv_iload K.hx K.hb dL_law_1605 (lv_at hl 0 rfl) ?_
  refine lv_i2l (v := Int32.toInt64 r') K.hx K.hb dL_law_1607 rfl ?_
  refine W.lcmp K.hx K.hb dL_law_1608 ?_
  refine lv_if_eq (tgt := 1614) K.hx K.hb dL_law_1609 (by decide) (fun cc => ?_) (fun cc => absurd (lw_ceq h4) cc)
  refine lv_goto (tgt := 2028) K.hx K.hb dL_law_1614 (by decide) ?_
  exact kk u H locs ls hP hD hS (lv_sub hl [2, 3, 4, 5, 6] rfl)
set_option maxHeartbeats 8000000 in
set_option maxRecDepth 100000 in
theorem wlT_whyNoStep_1 {p : Program} {l : Launch} {e : Env} {s : State} {m : MethodId} {b L : Nat} {xs : Nat → Int32} {below : List Frame} {meth : Method} {c : Code} {A : Nat → Prop} {D : va_G} {cI cJ cC cG : ClassId} {h9 hn h0 : Nat} {ap ht pc : Nat → Nat} {u : lwH} {x : XT} {m1 : MT} {ad : Nat → Nat} {oa : Nat} {out : Nat → Int64} {H : Heap} {locs : List Loc} {ls : Array Slot} {Q : State → Prop} {C S j : Nat} (K : lwK p l s m b L xs meth c A D cI cJ cC cG) (hP : va_P D vwCl (wLw cI cJ cC cG h9 hn ap ht h0 pc u x ad oa out m1) H) (hD : va_D A (wLw cI cJ cC cG h9 hn ap ht h0 pc u x ad oa out m1)) (hS : va_S A s.heap H locs) (hl : lv_has ls 9 (lw_lv b h9 (ad 0) oa j)) (hj : j + 4 ≤ L) (hL : L ≤ 2048) {r' : Int32} {m' : MT} (hf : C + 1 ≤ room_1.cells ∧ S + 6 ≤ room_1.slots) (h1 : XT_whyNoStep x (xs (j + 1)) (xs (j + 2)) = some "java/lang/IndexOutOfBoundsException") (h2 : MN_whyNoStep m1 (xs (j + 1)) (xs (j + 2)) = some (r', m')) (h3 : thr m' = 1) (kk : ∀ (H : Heap) (locs : List Loc) (ls : Array Slot), va_P D vwCl (wLw cI cJ cC cG h9 hn ap ht h0 pc u x ad oa out m') H → va_D A (wLw cI cJ cC cG h9 hn ap ht h0 pc u x ad oa out m') → va_S A s.heap H locs → lv_has ls 9 (lw_lv b h9 (ad 0) oa j) → W p l e room_1 s m #[Value.ref b] below meth c H locs (C + 1) (S + 6) Q (F0 m 2028 ls [])) : W p l e room_1 s m #[Value.ref b] below meth c H locs C S Q (F0 m 1549 ls []) := by
  have hl : lv_has ls 9 [(4, .int (lw_i j)), (3, .ref oa), (2, .ref (ad 0)), (1, .ref h9), (0, .ref b)] := hl
  refine lv_aload_n K.hx K.hb dL_law_1549 rfl (lv_at hl 3 rfl) ?_
  refine lw_arg1 K hS (lv_at hl 4 rfl) (lv_at hl 0 rfl) hj hL dL_law_1550 dL_law_1551 dL_law_1553 dL_law_1554 dL_law_1555 ?_
  refine lw_arg2 K hS (lv_at hl 4 rfl) (lv_at hl 0 rfl) hj hL dL_law_1556 dL_law_1557 dL_law_1559 dL_law_1560 dL_law_1561 ?_
  refine lv_aload_n K.hx K.hb dL_law_1562 rfl (lv_at hl 1 rfl) ?_
  have hPc : va_P D vwCl (wX1 cI cJ cC cG h9 hn ap ht h0 pc u x oa out) _ := kp_l hP
  have hDc : va_D A (wX1 cI cJ cC cG h9 hn ap ht h0 pc u x oa out) := kd_l hD
  refine kj_x1 (k_rSWT (As := [.ref h9, .int (xs (j + 1)), .int (xs (j + 2)), .ref oa]) (rest := []) ⟨K.hx, K.hb, K.hml, K.hown, K.hts⟩ K.hK K.hN K.hq hS (kj_F hD hS K.hA) hPc hDc (zBT_whyNoStep_1 K.hst h1) (vx_cwSW (hh := [(0, 10, 13, 21), (0, 10, 17, 13)]) 4 K.hts gL_law_L_whyNoStep rfl rfl rfl (by decide +kernel) ⟨Nat.le_of_ble_eq_true rfl, Nat.le_of_ble_eq_true rfl⟩) rfl hl.1 rfl (Nat.le_of_ble_eq_true rfl) dL_law_1563 hf) hP hD hS K.hA (fun H locs hP hD hS => ?_)
  have hP : va_P D vwCl (wLw cI cJ cC cG h9 hn ap ht h0 pc u x ad oa out m1) H := hP
  have hD : va_D A (wLw cI cJ cC cG h9 hn ap ht h0 pc u x ad oa out m1) := hD
  refine lv_istore (lv' := [(5, .int 1), (4, .int (lw_i j)), (3, .ref oa), (2, .ref (ad 0)), (1, .ref h9), (0, .ref b)]) K.hx K.hb dL_law_1566 hl (by decide) rfl (fun ls hl => ?_)
  refine lv_aload_n K.hx K.hb dL_law_1568 rfl (lv_at hl 3 rfl) ?_
  refine lw_arg1 K hS (lv_at hl 5 rfl) (lv_at hl 1 rfl) hj hL dL_law_1569 dL_law_1570 dL_law_1572 dL_law_1573 dL_law_1574 ?_
  refine lw_arg2 K hS (lv_at hl 5 rfl) (lv_at hl 1 rfl) hj hL dL_law_1575 dL_law_1576 dL_law_1578 dL_law_1579 dL_law_1580 ?_
  have hPc : va_P D vwCl (wMt cI cJ ad m1) _ := kp_r hP
  have hDc : va_D A (wMt cI cJ ad m1) := kd_r hD
  refine kj_i2 (k_rV (As := [.int (xs (j + 1)), .int (xs (j + 2))]) (rest := []) ⟨K.hx, K.hb, K.hml, K.hown, K.hts⟩ K.hK K.hN hPc hDc (zM_whyNoStep h2) (cwV 2 K.hts gL_law_X10_whyNoStep rfl rfl rfl (by decide +kernel) ⟨Nat.le_of_ble_eq_true rfl, Nat.le_of_ble_eq_true rfl⟩) rfl rfl rfl hl.1 rfl (Nat.le_of_ble_eq_true rfl) dL_law_1581 (lw_fit hf)) hP hD hS K.hA (fun H locs hP hD hS => ?_)
  have hP : va_P D vwCl (wLw cI cJ cC cG h9 hn ap ht h0 pc u x ad oa out m') H := hP
  have hD : va_D A (wLw cI cJ cC cG h9 hn ap ht h0 pc u x ad oa out m') := hD
  refine lv_istore (lv' := [(6, .int r'), (5, .int 1), (4, .int (lw_i j)), (3, .ref oa), (2, .ref (ad 0)), (1, .ref h9), (0, .ref b)]) K.hx K.hb dL_law_1584 hl (by decide) rfl (fun ls hl => ?_)
  refine lv_aload_n K.hx K.hb dL_law_1586 rfl (lv_at hl 4 rfl) ?_
  have hPc : va_P D vwCl (wMt cI cJ ad m') _ := kp_r hP
  have hDc : va_D A (wMt cI cJ ad m') := kd_r hD
  refine kj_i2 (k_rV (As := []) (rest := []) ⟨K.hx, K.hb, K.hml, K.hown, K.hts⟩ K.hK K.hN hPc hDc zM_thrown (cwV 0 K.hts gL_law_X10_thrown rfl rfl rfl (by decide +kernel) ⟨Nat.le_of_ble_eq_true rfl, Nat.le_of_ble_eq_true rfl⟩) rfl rfl rfl hl.1 rfl (Nat.le_of_ble_eq_true rfl) dL_law_1587 (lw_fit hf)) hP hD hS K.hA (fun H locs hP hD hS => ?_)
  have hP : va_P D vwCl (wLw cI cJ cC cG h9 hn ap ht h0 pc u x ad oa out m') H := hP
  have hD : va_D A (wLw cI cJ cC cG h9 hn ap ht h0 pc u x ad oa out m') := hD
  refine lv_iload K.hx K.hb dL_law_1590 (lv_at hl 1 rfl) ?_
  refine lv_icmp_eq (tgt := 1597) K.hx K.hb dL_law_1592 (by decide) (fun cc => ?_) (fun cc => absurd h3 cc)
  refine lv_iload K.hx K.hb dL_law_1597 (lv_at hl 1 rfl) ?_
  refine lv_if_ne (tgt := 1614) K.hx K.hb dL_law_1599 (by decide) (fun cc => ?_) (fun cc => absurd cc (by decide))
  refine lv_goto (tgt := 2028) K.hx K.hb dL_law_1614 (by decide) ?_
  exact kk H locs ls hP hD hS (lv_sub hl [2, 3, 4, 5, 6] rfl)
set_option maxHeartbeats 8000000 in
set_option maxRecDepth 100000 in
theorem wlT_whyNoStep_2 {p : Program} {l : Launch} {e : Env} {s : State} {m : MethodId} {b L : Nat} {xs : Nat → Int32} {below : List Frame} {meth : Method} {c : Code} {A : Nat → Prop} {D : va_G} {cI cJ cC cG : ClassId} {h9 hn h0 : Nat} {ap ht pc : Nat → Nat} {u : lwH} {x : XT} {m1 : MT} {ad : Nat → Nat} {oa : Nat} {out : Nat → Int64} {H : Heap} {locs : List Loc} {ls : Array Slot} {Q : State → Prop} {C S j : Nat} (K : lwK p l s m b L xs meth c A D cI cJ cC cG) (hP : va_P D vwCl (wLw cI cJ cC cG h9 hn ap ht h0 pc u x ad oa out m1) H) (hD : va_D A (wLw cI cJ cC cG h9 hn ap ht h0 pc u x ad oa out m1)) (hS : va_S A s.heap H locs) (hl : lv_has ls 9 (lw_lv b h9 (ad 0) oa j)) (hj : j + 4 ≤ L) (hL : L ≤ 2048) {r' : Int32} {m' : MT} (hf : C + 1 ≤ room_1.cells ∧ S + 6 ≤ room_1.slots) (h1 : XT_whyNoStep x (xs (j + 1)) (xs (j + 2)) = some "java/lang/IllegalArgumentException") (h2 : MN_whyNoStep m1 (xs (j + 1)) (xs (j + 2)) = some (r', m')) (h3 : thr m' = 2) (kk : ∀ (H : Heap) (locs : List Loc) (ls : Array Slot), va_P D vwCl (wLw cI cJ cC cG h9 hn ap ht h0 pc u x ad oa out m') H → va_D A (wLw cI cJ cC cG h9 hn ap ht h0 pc u x ad oa out m') → va_S A s.heap H locs → lv_has ls 9 (lw_lv b h9 (ad 0) oa j) → W p l e room_1 s m #[Value.ref b] below meth c H locs (C + 1) (S + 6) Q (F0 m 2028 ls [])) : W p l e room_1 s m #[Value.ref b] below meth c H locs C S Q (F0 m 1549 ls []) := by
  have hl : lv_has ls 9 [(4, .int (lw_i j)), (3, .ref oa), (2, .ref (ad 0)), (1, .ref h9), (0, .ref b)] := hl
  refine lv_aload_n K.hx K.hb dL_law_1549 rfl (lv_at hl 3 rfl) ?_
  refine lw_arg1 K hS (lv_at hl 4 rfl) (lv_at hl 0 rfl) hj hL dL_law_1550 dL_law_1551 dL_law_1553 dL_law_1554 dL_law_1555 ?_
  refine lw_arg2 K hS (lv_at hl 4 rfl) (lv_at hl 0 rfl) hj hL dL_law_1556 dL_law_1557 dL_law_1559 dL_law_1560 dL_law_1561 ?_
  refine lv_aload_n K.hx K.hb dL_law_1562 rfl (lv_at hl 1 rfl) ?_
  have hPc : va_P D vwCl (wX1 cI cJ cC cG h9 hn ap ht h0 pc u x oa out) _ := kp_l hP
  have hDc : va_D A (wX1 cI cJ cC cG h9 hn ap ht h0 pc u x oa out) := kd_l hD
  refine kj_x1 (k_rSWT (As := [.ref h9, .int (xs (j + 1)), .int (xs (j + 2)), .ref oa]) (rest := []) ⟨K.hx, K.hb, K.hml, K.hown, K.hts⟩ K.hK K.hN K.hq hS (kj_F hD hS K.hA) hPc hDc (zBT_whyNoStep_2 K.hst h1) (vx_cwSW (hh := [(0, 10, 13, 21), (0, 10, 17, 13)]) 4 K.hts gL_law_L_whyNoStep rfl rfl rfl (by decide +kernel) ⟨Nat.le_of_ble_eq_true rfl, Nat.le_of_ble_eq_true rfl⟩) rfl hl.1 rfl (Nat.le_of_ble_eq_true rfl) dL_law_1563 hf) hP hD hS K.hA (fun H locs hP hD hS => ?_)
  have hP : va_P D vwCl (wLw cI cJ cC cG h9 hn ap ht h0 pc u x ad oa out m1) H := hP
  have hD : va_D A (wLw cI cJ cC cG h9 hn ap ht h0 pc u x ad oa out m1) := hD
  refine lv_istore (lv' := [(5, .int 2), (4, .int (lw_i j)), (3, .ref oa), (2, .ref (ad 0)), (1, .ref h9), (0, .ref b)]) K.hx K.hb dL_law_1566 hl (by decide) rfl (fun ls hl => ?_)
  refine lv_aload_n K.hx K.hb dL_law_1568 rfl (lv_at hl 3 rfl) ?_
  refine lw_arg1 K hS (lv_at hl 5 rfl) (lv_at hl 1 rfl) hj hL dL_law_1569 dL_law_1570 dL_law_1572 dL_law_1573 dL_law_1574 ?_
  refine lw_arg2 K hS (lv_at hl 5 rfl) (lv_at hl 1 rfl) hj hL dL_law_1575 dL_law_1576 dL_law_1578 dL_law_1579 dL_law_1580 ?_
  have hPc : va_P D vwCl (wMt cI cJ ad m1) _ := kp_r hP
  have hDc : va_D A (wMt cI cJ ad m1) := kd_r hD
  refine kj_i2 (k_rV (As := [.int (xs (j + 1)), .int (xs (j + 2))]) (rest := []) ⟨K.hx, K.hb, K.hml, K.hown, K.hts⟩ K.hK K.hN hPc hDc (zM_whyNoStep h2) (cwV 2 K.hts gL_law_X10_whyNoStep rfl rfl rfl (by decide +kernel) ⟨Nat.le_of_ble_eq_true rfl, Nat.le_of_ble_eq_true rfl⟩) rfl rfl rfl hl.1 rfl (Nat.le_of_ble_eq_true rfl) dL_law_1581 (lw_fit hf)) hP hD hS K.hA (fun H locs hP hD hS => ?_)
  have hP : va_P D vwCl (wLw cI cJ cC cG h9 hn ap ht h0 pc u x ad oa out m') H := hP
  have hD : va_D A (wLw cI cJ cC cG h9 hn ap ht h0 pc u x ad oa out m') := hD
  refine lv_istore (lv' := [(6, .int r'), (5, .int 2), (4, .int (lw_i j)), (3, .ref oa), (2, .ref (ad 0)), (1, .ref h9), (0, .ref b)]) K.hx K.hb dL_law_1584 hl (by decide) rfl (fun ls hl => ?_)
  refine lv_aload_n K.hx K.hb dL_law_1586 rfl (lv_at hl 4 rfl) ?_
  have hPc : va_P D vwCl (wMt cI cJ ad m') _ := kp_r hP
  have hDc : va_D A (wMt cI cJ ad m') := kd_r hD
  refine kj_i2 (k_rV (As := []) (rest := []) ⟨K.hx, K.hb, K.hml, K.hown, K.hts⟩ K.hK K.hN hPc hDc zM_thrown (cwV 0 K.hts gL_law_X10_thrown rfl rfl rfl (by decide +kernel) ⟨Nat.le_of_ble_eq_true rfl, Nat.le_of_ble_eq_true rfl⟩) rfl rfl rfl hl.1 rfl (Nat.le_of_ble_eq_true rfl) dL_law_1587 (lw_fit hf)) hP hD hS K.hA (fun H locs hP hD hS => ?_)
  have hP : va_P D vwCl (wLw cI cJ cC cG h9 hn ap ht h0 pc u x ad oa out m') H := hP
  have hD : va_D A (wLw cI cJ cC cG h9 hn ap ht h0 pc u x ad oa out m') := hD
  refine lv_iload K.hx K.hb dL_law_1590 (lv_at hl 1 rfl) ?_
  refine lv_icmp_eq (tgt := 1597) K.hx K.hb dL_law_1592 (by decide) (fun cc => ?_) (fun cc => absurd h3 cc)
  refine lv_iload K.hx K.hb dL_law_1597 (lv_at hl 1 rfl) ?_
  refine lv_if_ne (tgt := 1614) K.hx K.hb dL_law_1599 (by decide) (fun cc => ?_) (fun cc => absurd cc (by decide))
  refine lv_goto (tgt := 2028) K.hx K.hb dL_law_1614 (by decide) ?_
  exact kk H locs ls hP hD hS (lv_sub hl [2, 3, 4, 5, 6] rfl)
set_option maxHeartbeats 8000000 in
set_option maxRecDepth 100000 in
theorem wl_possibleSteps {p : Program} {l : Launch} {e : Env} {s : State} {m : MethodId} {b L : Nat} {xs : Nat → Int32} {below : List Frame} {meth : Method} {c : Code} {A : Nat → Prop} {D : va_G} {cI cJ cC cG : ClassId} {h9 hn h0 : Nat} {ap ht pc : Nat → Nat} {u : lwH} {x : XT} {m1 : MT} {ad : Nat → Nat} {oa : Nat} {out : Nat → Int64} {H : Heap} {locs : List Loc} {ls : Array Slot} {Q : State → Prop} {C S j : Nat} (K : lwK p l s m b L xs meth c A D cI cJ cC cG) (hP : va_P D vwCl (wLw cI cJ cC cG h9 hn ap ht h0 pc u x ad oa out m1) H) (hD : va_D A (wLw cI cJ cC cG h9 hn ap ht h0 pc u x ad oa out m1)) (hS : va_S A s.heap H locs) (hl : lv_has ls 9 (lw_lv b h9 (ad 0) oa j)) (hj : j + 4 ≤ L) (hL : L ≤ 2048) {r : Int32} {x' : XT} {r' : Int32} {m' : MT} (hf : C + 0 ≤ room_1.cells ∧ S + 0 ≤ room_1.slots) (h1 : XN_possibleSteps x = some (r, x')) (h2 : MN_possibleSteps m1 = some (r', m')) (h4 : r = r') (kk : ∀ (u : lwH) (H : Heap) (locs : List Loc) (ls : Array Slot), va_P D vwCl (wLw cI cJ cC cG h9 hn ap ht h0 pc u x' ad oa out m') H → va_D A (wLw cI cJ cC cG h9 hn ap ht h0 pc u x' ad oa out m') → va_S A s.heap H locs → lv_has ls 9 (lw_lv b h9 (ad 0) oa j) → W p l e room_1 s m #[Value.ref b] below meth c H locs C S Q (F0 m 2028 ls [])) : W p l e room_1 s m #[Value.ref b] below meth c H locs C S Q (F0 m 1617 ls []) := by
  have hl : lv_has ls 9 [(4, .int (lw_i j)), (3, .ref oa), (2, .ref (ad 0)), (1, .ref h9), (0, .ref b)] := hl
  refine lv_aload_n K.hx K.hb dL_law_1617 rfl (lv_at hl 3 rfl) ?_
  have hP := kp_a hP
  have hD := kd_a hD
  have hPc : va_P D vwCl (wXt cI cJ cC cG h9 hn ap (u.1) ht h0 (u.2.1) (u.2.2.1) pc (u.2.2.2) x) _ := kp_l hP
  have hDc : va_D A (wXt cI cJ cC cG h9 hn ap (u.1) ht h0 (u.2.1) (u.2.2.1) pc (u.2.2.2) x) := kd_l hD
  refine kj_i1 (k_rV (As := []) (rest := []) ⟨K.hx, K.hb, K.hml, K.hown, K.hts⟩ K.hK K.hN hPc hDc (zB_possibleSteps h1) (cwV 0 K.hts gL_law_X9_possibleSteps rfl rfl rfl (by decide +kernel) ⟨Nat.le_of_ble_eq_true rfl, Nat.le_of_ble_eq_true rfl⟩) rfl rfl rfl hl.1 rfl (Nat.le_of_ble_eq_true rfl) dL_law_1618 hf) hP hD hS K.hA (fun u H locs hP hD hS => ?_)
  have hP : va_P D vwCl (wLw cI cJ cC cG h9 hn ap ht h0 pc u x' ad oa out m1) H := kp_b hP
  have hD : va_D A (wLw cI cJ cC cG h9 hn ap ht h0 pc u x' ad oa out m1) := kd_b hD
  refine lv_aload_n K.hx K.hb dL_law_1621 rfl (lv_at hl 2 rfl) ?_
  have hPc : va_P D vwCl (wMt cI cJ ad m1) _ := kp_r hP
  have hDc : va_D A (wMt cI cJ ad m1) := kd_r hD
  refine kj_i2 (k_rV (As := []) (rest := [.int r]) ⟨K.hx, K.hb, K.hml, K.hown, K.hts⟩ K.hK K.hN hPc hDc (zM_possibleSteps h2) (cwV 0 K.hts gL_law_X10_possibleSteps rfl rfl rfl (by decide +kernel) ⟨Nat.le_of_ble_eq_true rfl, Nat.le_of_ble_eq_true rfl⟩) rfl rfl rfl hl.1 rfl (Nat.le_of_ble_eq_true rfl) dL_law_1622 hf) hP hD hS K.hA (fun H locs hP hD hS => ?_)
  have hP : va_P D vwCl (wLw cI cJ cC cG h9 hn ap ht h0 pc u x' ad oa out m') H := hP
  have hD : va_D A (wLw cI cJ cC cG h9 hn ap ht h0 pc u x' ad oa out m') := hD
  refine lv_icmp_eq (tgt := 2028) K.hx K.hb dL_law_1625 (by decide) (fun cc => ?_) (fun cc => absurd h4 cc)
  exact kk u H locs ls hP hD hS (lv_sub hl [0, 1, 2, 3, 4] rfl)
set_option maxHeartbeats 8000000 in
set_option maxRecDepth 100000 in
theorem wl_reach {p : Program} {l : Launch} {e : Env} {s : State} {m : MethodId} {b L : Nat} {xs : Nat → Int32} {below : List Frame} {meth : Method} {c : Code} {A : Nat → Prop} {D : va_G} {cI cJ cC cG : ClassId} {h9 hn h0 : Nat} {ap ht pc : Nat → Nat} {u : lwH} {x : XT} {m1 : MT} {ad : Nat → Nat} {oa : Nat} {out : Nat → Int64} {H : Heap} {locs : List Loc} {ls : Array Slot} {Q : State → Prop} {C S j : Nat} (K : lwK p l s m b L xs meth c A D cI cJ cC cG) (hP : va_P D vwCl (wLw cI cJ cC cG h9 hn ap ht h0 pc u x ad oa out m1) H) (hD : va_D A (wLw cI cJ cC cG h9 hn ap ht h0 pc u x ad oa out m1)) (hS : va_S A s.heap H locs) (hl : lv_has ls 9 (lw_lv b h9 (ad 0) oa j)) (hj : j + 4 ≤ L) (hL : L ≤ 2048) {r : Int32} {x' : XT} {r' : Int32} {m' : MT} (hf : C + 0 ≤ room_1.cells ∧ S + 0 ≤ room_1.slots) (h1 : XN_reach x = some (r, x')) (h2 : MN_reach m1 = some (r', m')) (h4 : r = r') (kk : ∀ (u : lwH) (H : Heap) (locs : List Loc) (ls : Array Slot), va_P D vwCl (wLw cI cJ cC cG h9 hn ap ht h0 pc u x' ad oa out m') H → va_D A (wLw cI cJ cC cG h9 hn ap ht h0 pc u x' ad oa out m') → va_S A s.heap H locs → lv_has ls 9 (lw_lv b h9 (ad 0) oa j) → W p l e room_1 s m #[Value.ref b] below meth c H locs C S Q (F0 m 2028 ls [])) : W p l e room_1 s m #[Value.ref b] below meth c H locs C S Q (F0 m 1630 ls []) := by
  have hl : lv_has ls 9 [(4, .int (lw_i j)), (3, .ref oa), (2, .ref (ad 0)), (1, .ref h9), (0, .ref b)] := hl
  refine lv_aload_n K.hx K.hb dL_law_1630 rfl (lv_at hl 3 rfl) ?_
  have hP := kp_a hP
  have hD := kd_a hD
  have hPc : va_P D vwCl (wXt cI cJ cC cG h9 hn ap (u.1) ht h0 (u.2.1) (u.2.2.1) pc (u.2.2.2) x) _ := kp_l hP
  have hDc : va_D A (wXt cI cJ cC cG h9 hn ap (u.1) ht h0 (u.2.1) (u.2.2.1) pc (u.2.2.2) x) := kd_l hD
  refine kj_i1 (k_rV (As := []) (rest := []) ⟨K.hx, K.hb, K.hml, K.hown, K.hts⟩ K.hK K.hN hPc hDc (zB_reach h1) (cwV 0 K.hts gL_law_X9_reach rfl rfl rfl (by decide +kernel) ⟨Nat.le_of_ble_eq_true rfl, Nat.le_of_ble_eq_true rfl⟩) rfl rfl rfl hl.1 rfl (Nat.le_of_ble_eq_true rfl) dL_law_1631 hf) hP hD hS K.hA (fun u H locs hP hD hS => ?_)
  have hP : va_P D vwCl (wLw cI cJ cC cG h9 hn ap ht h0 pc u x' ad oa out m1) H := kp_b hP
  have hD : va_D A (wLw cI cJ cC cG h9 hn ap ht h0 pc u x' ad oa out m1) := kd_b hD
  refine lv_aload_n K.hx K.hb dL_law_1634 rfl (lv_at hl 2 rfl) ?_
  have hPc : va_P D vwCl (wMt cI cJ ad m1) _ := kp_r hP
  have hDc : va_D A (wMt cI cJ ad m1) := kd_r hD
  refine kj_i2 (k_rV (As := []) (rest := [.int r]) ⟨K.hx, K.hb, K.hml, K.hown, K.hts⟩ K.hK K.hN hPc hDc (zM_reach h2) (cwV 0 K.hts gL_law_X10_reach rfl rfl rfl (by decide +kernel) ⟨Nat.le_of_ble_eq_true rfl, Nat.le_of_ble_eq_true rfl⟩) rfl rfl rfl hl.1 rfl (Nat.le_of_ble_eq_true rfl) dL_law_1635 hf) hP hD hS K.hA (fun H locs hP hD hS => ?_)
  have hP : va_P D vwCl (wLw cI cJ cC cG h9 hn ap ht h0 pc u x' ad oa out m') H := hP
  have hD : va_D A (wLw cI cJ cC cG h9 hn ap ht h0 pc u x' ad oa out m') := hD
  refine lv_icmp_eq (tgt := 2028) K.hx K.hb dL_law_1638 (by decide) (fun cc => ?_) (fun cc => absurd h4 cc)
  exact kk u H locs ls hP hD hS (lv_sub hl [0, 1, 2, 3, 4] rfl)
set_option maxHeartbeats 8000000 in
set_option maxRecDepth 100000 in
theorem wl_plays {p : Program} {l : Launch} {e : Env} {s : State} {m : MethodId} {b L : Nat} {xs : Nat → Int32} {below : List Frame} {meth : Method} {c : Code} {A : Nat → Prop} {D : va_G} {cI cJ cC cG : ClassId} {h9 hn h0 : Nat} {ap ht pc : Nat → Nat} {u : lwH} {x : XT} {m1 : MT} {ad : Nat → Nat} {oa : Nat} {out : Nat → Int64} {H : Heap} {locs : List Loc} {ls : Array Slot} {Q : State → Prop} {C S j : Nat} (K : lwK p l s m b L xs meth c A D cI cJ cC cG) (hP : va_P D vwCl (wLw cI cJ cC cG h9 hn ap ht h0 pc u x ad oa out m1) H) (hD : va_D A (wLw cI cJ cC cG h9 hn ap ht h0 pc u x ad oa out m1)) (hS : va_S A s.heap H locs) (hl : lv_has ls 9 (lw_lv b h9 (ad 0) oa j)) (hj : j + 4 ≤ L) (hL : L ≤ 2048) {r : Int32} {x' : XT} {r' : Int32} {m' : MT} (hf : C + 0 ≤ room_1.cells ∧ S + 0 ≤ room_1.slots) (h1 : XN_plays x = some (r, x')) (h2 : MN_plays m1 = some (r', m')) (h4 : r = r') (kk : ∀ (u : lwH) (H : Heap) (locs : List Loc) (ls : Array Slot), va_P D vwCl (wLw cI cJ cC cG h9 hn ap ht h0 pc u x' ad oa out m') H → va_D A (wLw cI cJ cC cG h9 hn ap ht h0 pc u x' ad oa out m') → va_S A s.heap H locs → lv_has ls 9 (lw_lv b h9 (ad 0) oa j) → W p l e room_1 s m #[Value.ref b] below meth c H locs C S Q (F0 m 2028 ls [])) : W p l e room_1 s m #[Value.ref b] below meth c H locs C S Q (F0 m 1643 ls []) := by
  have hl : lv_has ls 9 [(4, .int (lw_i j)), (3, .ref oa), (2, .ref (ad 0)), (1, .ref h9), (0, .ref b)] := hl
  refine lv_aload_n K.hx K.hb dL_law_1643 rfl (lv_at hl 3 rfl) ?_
  have hP := kp_a hP
  have hD := kd_a hD
  have hPc : va_P D vwCl (wXt cI cJ cC cG h9 hn ap (u.1) ht h0 (u.2.1) (u.2.2.1) pc (u.2.2.2) x) _ := kp_l hP
  have hDc : va_D A (wXt cI cJ cC cG h9 hn ap (u.1) ht h0 (u.2.1) (u.2.2.1) pc (u.2.2.2) x) := kd_l hD
  refine kj_i1 (k_rV (As := []) (rest := []) ⟨K.hx, K.hb, K.hml, K.hown, K.hts⟩ K.hK K.hN hPc hDc (zB_plays h1) (cwV 0 K.hts gL_law_X9_plays rfl rfl rfl (by decide +kernel) ⟨Nat.le_of_ble_eq_true rfl, Nat.le_of_ble_eq_true rfl⟩) rfl rfl rfl hl.1 rfl (Nat.le_of_ble_eq_true rfl) dL_law_1644 hf) hP hD hS K.hA (fun u H locs hP hD hS => ?_)
  have hP : va_P D vwCl (wLw cI cJ cC cG h9 hn ap ht h0 pc u x' ad oa out m1) H := kp_b hP
  have hD : va_D A (wLw cI cJ cC cG h9 hn ap ht h0 pc u x' ad oa out m1) := kd_b hD
  refine lv_aload_n K.hx K.hb dL_law_1647 rfl (lv_at hl 2 rfl) ?_
  have hPc : va_P D vwCl (wMt cI cJ ad m1) _ := kp_r hP
  have hDc : va_D A (wMt cI cJ ad m1) := kd_r hD
  refine kj_i2 (k_rV (As := []) (rest := [.int r]) ⟨K.hx, K.hb, K.hml, K.hown, K.hts⟩ K.hK K.hN hPc hDc (zM_plays h2) (cwV 0 K.hts gL_law_X10_plays rfl rfl rfl (by decide +kernel) ⟨Nat.le_of_ble_eq_true rfl, Nat.le_of_ble_eq_true rfl⟩) rfl rfl rfl hl.1 rfl (Nat.le_of_ble_eq_true rfl) dL_law_1648 hf) hP hD hS K.hA (fun H locs hP hD hS => ?_)
  have hP : va_P D vwCl (wLw cI cJ cC cG h9 hn ap ht h0 pc u x' ad oa out m') H := hP
  have hD : va_D A (wLw cI cJ cC cG h9 hn ap ht h0 pc u x' ad oa out m') := hD
  refine lv_icmp_eq (tgt := 2028) K.hx K.hb dL_law_1651 (by decide) (fun cc => ?_) (fun cc => absurd h4 cc)
  exact kk u H locs ls hP hD hS (lv_sub hl [0, 1, 2, 3, 4] rfl)
set_option maxHeartbeats 8000000 in
set_option maxRecDepth 100000 in
theorem wl_playsByOrders {p : Program} {l : Launch} {e : Env} {s : State} {m : MethodId} {b L : Nat} {xs : Nat → Int32} {below : List Frame} {meth : Method} {c : Code} {A : Nat → Prop} {D : va_G} {cI cJ cC cG : ClassId} {h9 hn h0 : Nat} {ap ht pc : Nat → Nat} {u : lwH} {x : XT} {m1 : MT} {ad : Nat → Nat} {oa : Nat} {out : Nat → Int64} {H : Heap} {locs : List Loc} {ls : Array Slot} {Q : State → Prop} {C S j : Nat} (K : lwK p l s m b L xs meth c A D cI cJ cC cG) (hP : va_P D vwCl (wLw cI cJ cC cG h9 hn ap ht h0 pc u x ad oa out m1) H) (hD : va_D A (wLw cI cJ cC cG h9 hn ap ht h0 pc u x ad oa out m1)) (hS : va_S A s.heap H locs) (hl : lv_has ls 9 (lw_lv b h9 (ad 0) oa j)) (hj : j + 4 ≤ L) (hL : L ≤ 2048) {r : Int32} {x' : XT} {r' : Int32} {m' : MT} (hf : C + 0 ≤ room_1.cells ∧ S + 0 ≤ room_1.slots) (h1 : XN_playsByOrders x = some (r, x')) (h2 : MN_playsByOrders m1 = some (r', m')) (h4 : r = r') (kk : ∀ (u : lwH) (H : Heap) (locs : List Loc) (ls : Array Slot), va_P D vwCl (wLw cI cJ cC cG h9 hn ap ht h0 pc u x' ad oa out m') H → va_D A (wLw cI cJ cC cG h9 hn ap ht h0 pc u x' ad oa out m') → va_S A s.heap H locs → lv_has ls 9 (lw_lv b h9 (ad 0) oa j) → W p l e room_1 s m #[Value.ref b] below meth c H locs C S Q (F0 m 2028 ls [])) : W p l e room_1 s m #[Value.ref b] below meth c H locs C S Q (F0 m 1656 ls []) := by
  have hl : lv_has ls 9 [(4, .int (lw_i j)), (3, .ref oa), (2, .ref (ad 0)), (1, .ref h9), (0, .ref b)] := hl
  refine lv_aload_n K.hx K.hb dL_law_1656 rfl (lv_at hl 3 rfl) ?_
  have hP := kp_a hP
  have hD := kd_a hD
  have hPc : va_P D vwCl (wXt cI cJ cC cG h9 hn ap (u.1) ht h0 (u.2.1) (u.2.2.1) pc (u.2.2.2) x) _ := kp_l hP
  have hDc : va_D A (wXt cI cJ cC cG h9 hn ap (u.1) ht h0 (u.2.1) (u.2.2.1) pc (u.2.2.2) x) := kd_l hD
  refine kj_i1 (k_rV (As := []) (rest := []) ⟨K.hx, K.hb, K.hml, K.hown, K.hts⟩ K.hK K.hN hPc hDc (zB_playsByOrders h1) (cwV 0 K.hts gL_law_X9_playsByOrders rfl rfl rfl (by decide +kernel) ⟨Nat.le_of_ble_eq_true rfl, Nat.le_of_ble_eq_true rfl⟩) rfl rfl rfl hl.1 rfl (Nat.le_of_ble_eq_true rfl) dL_law_1657 hf) hP hD hS K.hA (fun u H locs hP hD hS => ?_)
  have hP : va_P D vwCl (wLw cI cJ cC cG h9 hn ap ht h0 pc u x' ad oa out m1) H := kp_b hP
  have hD : va_D A (wLw cI cJ cC cG h9 hn ap ht h0 pc u x' ad oa out m1) := kd_b hD
  refine lv_aload_n K.hx K.hb dL_law_1660 rfl (lv_at hl 2 rfl) ?_
  have hPc : va_P D vwCl (wMt cI cJ ad m1) _ := kp_r hP
  have hDc : va_D A (wMt cI cJ ad m1) := kd_r hD
  refine kj_i2 (k_rV (As := []) (rest := [.int r]) ⟨K.hx, K.hb, K.hml, K.hown, K.hts⟩ K.hK K.hN hPc hDc (zM_playsByOrders h2) (cwV 0 K.hts gL_law_X10_playsByOrders rfl rfl rfl (by decide +kernel) ⟨Nat.le_of_ble_eq_true rfl, Nat.le_of_ble_eq_true rfl⟩) rfl rfl rfl hl.1 rfl (Nat.le_of_ble_eq_true rfl) dL_law_1661 hf) hP hD hS K.hA (fun H locs hP hD hS => ?_)
  have hP : va_P D vwCl (wLw cI cJ cC cG h9 hn ap ht h0 pc u x' ad oa out m') H := hP
  have hD : va_D A (wLw cI cJ cC cG h9 hn ap ht h0 pc u x' ad oa out m') := hD
  refine lv_icmp_eq (tgt := 2028) K.hx K.hb dL_law_1664 (by decide) (fun cc => ?_) (fun cc => absurd h4 cc)
  exact kk u H locs ls hP hD hS (lv_sub hl [0, 1, 2, 3, 4] rfl)
set_option maxHeartbeats 8000000 in
set_option maxRecDepth 100000 in
theorem wl_playsWith {p : Program} {l : Launch} {e : Env} {s : State} {m : MethodId} {b L : Nat} {xs : Nat → Int32} {below : List Frame} {meth : Method} {c : Code} {A : Nat → Prop} {D : va_G} {cI cJ cC cG : ClassId} {h9 hn h0 : Nat} {ap ht pc : Nat → Nat} {u : lwH} {x : XT} {m1 : MT} {ad : Nat → Nat} {oa : Nat} {out : Nat → Int64} {H : Heap} {locs : List Loc} {ls : Array Slot} {Q : State → Prop} {C S j : Nat} (K : lwK p l s m b L xs meth c A D cI cJ cC cG) (hP : va_P D vwCl (wLw cI cJ cC cG h9 hn ap ht h0 pc u x ad oa out m1) H) (hD : va_D A (wLw cI cJ cC cG h9 hn ap ht h0 pc u x ad oa out m1)) (hS : va_S A s.heap H locs) (hl : lv_has ls 9 (lw_lv b h9 (ad 0) oa j)) (hj : j + 4 ≤ L) (hL : L ≤ 2048) {r : Int32} {x' : XT} {r' : Int32} {m' : MT} (hf : C + 0 ≤ room_1.cells ∧ S + 0 ≤ room_1.slots) (h1 : XN_playsWith x (xs (j + 1)) (xs (j + 2)) = some (r, x')) (h2 : MN_playsWith m1 (xs (j + 1)) (xs (j + 2)) = some (r', m')) (h3 : thr m' = 0) (h4 : (Int32.toInt64 r) = Int32.toInt64 r') (kk : ∀ (u : lwH) (H : Heap) (locs : List Loc) (ls : Array Slot), va_P D vwCl (wLw cI cJ cC cG h9 hn ap ht h0 pc u x' ad oa (vp_updL out (Int32.toNatClampNeg 0) (Int32.toInt64 r)) m') H → va_D A (wLw cI cJ cC cG h9 hn ap ht h0 pc u x' ad oa (vp_updL out (Int32.toNatClampNeg 0) (Int32.toInt64 r)) m') → va_S A s.heap H locs → lv_has ls 9 (lw_lv b h9 (ad 0) oa j) → W p l e room_1 s m #[Value.ref b] below meth c H locs C S Q (F0 m 2028 ls [])) : W p l e room_1 s m #[Value.ref b] below meth c H locs C S Q (F0 m 1669 ls []) := by
  have hl : lv_has ls 9 [(4, .int (lw_i j)), (3, .ref oa), (2, .ref (ad 0)), (1, .ref h9), (0, .ref b)] := hl
  refine lv_aload_n K.hx K.hb dL_law_1669 rfl (lv_at hl 3 rfl) ?_
  refine lw_arg1 K hS (lv_at hl 4 rfl) (lv_at hl 0 rfl) hj hL dL_law_1670 dL_law_1671 dL_law_1673 dL_law_1674 dL_law_1675 ?_
  refine lw_arg2 K hS (lv_at hl 4 rfl) (lv_at hl 0 rfl) hj hL dL_law_1676 dL_law_1677 dL_law_1679 dL_law_1680 dL_law_1681 ?_
  refine lv_aload_n K.hx K.hb dL_law_1682 rfl (lv_at hl 1 rfl) ?_
  have hPc : va_P D vwCl (wX1 cI cJ cC cG h9 hn ap ht h0 pc u x oa out) _ := kp_l hP
  have hDc : va_D A (wX1 cI cJ cC cG h9 hn ap ht h0 pc u x oa out) := kd_l hD
  refine kj_i1 (k_rSW (As := [.ref h9, .int (xs (j + 1)), .int (xs (j + 2)), .ref oa]) (rest := []) ⟨K.hx, K.hb, K.hml, K.hown, K.hts⟩ K.hK K.hN hPc hDc (zB_playsWith h1) (vx_cwSW (hh := [(0, 10, 13, 13)]) 4 K.hts gL_law_L_playsWith rfl rfl rfl (by decide +kernel) ⟨Nat.le_of_ble_eq_true rfl, Nat.le_of_ble_eq_true rfl⟩) rfl hl.1 rfl (Nat.le_of_ble_eq_true rfl) dL_law_1683 hf) hP hD hS K.hA (fun u H locs hP hD hS => ?_)
  have hP : va_P D vwCl (wLw cI cJ cC cG h9 hn ap ht h0 pc u x' ad oa (vp_updL out (Int32.toNatClampNeg 0) (Int32.toInt64 r)) m1) H := hP
  have hD : va_D A (wLw cI cJ cC cG h9 hn ap ht h0 pc u x' ad oa (vp_updL out (Int32.toNatClampNeg 0) (Int32.toInt64 r)) m1) := hD
  refine lv_istore (lv' := [(5, .int 0), (4, .int (lw_i j)), (3, .ref oa), (2, .ref (ad 0)), (1, .ref h9), (0, .ref b)]) K.hx K.hb dL_law_1686 hl (by decide) rfl (fun ls hl => ?_)
  refine lv_aload_n K.hx K.hb dL_law_1688 rfl (lv_at hl 3 rfl) ?_
  refine lw_arg1 K hS (lv_at hl 5 rfl) (lv_at hl 1 rfl) hj hL dL_law_1689 dL_law_1690 dL_law_1692 dL_law_1693 dL_law_1694 ?_
  refine lw_arg2 K hS (lv_at hl 5 rfl) (lv_at hl 1 rfl) hj hL dL_law_1695 dL_law_1696 dL_law_1698 dL_law_1699 dL_law_1700 ?_
  have hPc : va_P D vwCl (wMt cI cJ ad m1) _ := kp_r hP
  have hDc : va_D A (wMt cI cJ ad m1) := kd_r hD
  refine kj_i2 (k_rV (As := [.int (xs (j + 1)), .int (xs (j + 2))]) (rest := []) ⟨K.hx, K.hb, K.hml, K.hown, K.hts⟩ K.hK K.hN hPc hDc (zM_playsWith h2) (cwV 2 K.hts gL_law_X10_playsWith rfl rfl rfl (by decide +kernel) ⟨Nat.le_of_ble_eq_true rfl, Nat.le_of_ble_eq_true rfl⟩) rfl rfl rfl hl.1 rfl (Nat.le_of_ble_eq_true rfl) dL_law_1701 hf) hP hD hS K.hA (fun H locs hP hD hS => ?_)
  have hP : va_P D vwCl (wLw cI cJ cC cG h9 hn ap ht h0 pc u x' ad oa (vp_updL out (Int32.toNatClampNeg 0) (Int32.toInt64 r)) m') H := hP
  have hD : va_D A (wLw cI cJ cC cG h9 hn ap ht h0 pc u x' ad oa (vp_updL out (Int32.toNatClampNeg 0) (Int32.toInt64 r)) m') := hD
  refine lv_istore (lv' := [(6, .int r'), (5, .int 0), (4, .int (lw_i j)), (3, .ref oa), (2, .ref (ad 0)), (1, .ref h9), (0, .ref b)]) K.hx K.hb dL_law_1704 hl (by decide) rfl (fun ls hl => ?_)
  refine lv_aload_n K.hx K.hb dL_law_1706 rfl (lv_at hl 4 rfl) ?_
  have hPc : va_P D vwCl (wMt cI cJ ad m') _ := kp_r hP
  have hDc : va_D A (wMt cI cJ ad m') := kd_r hD
  refine kj_i2 (k_rV (As := []) (rest := []) ⟨K.hx, K.hb, K.hml, K.hown, K.hts⟩ K.hK K.hN hPc hDc zM_thrown (cwV 0 K.hts gL_law_X10_thrown rfl rfl rfl (by decide +kernel) ⟨Nat.le_of_ble_eq_true rfl, Nat.le_of_ble_eq_true rfl⟩) rfl rfl rfl hl.1 rfl (Nat.le_of_ble_eq_true rfl) dL_law_1707 hf) hP hD hS K.hA (fun H locs hP hD hS => ?_)
  have hP : va_P D vwCl (wLw cI cJ cC cG h9 hn ap ht h0 pc u x' ad oa (vp_updL out (Int32.toNatClampNeg 0) (Int32.toInt64 r)) m') H := hP
  have hD : va_D A (wLw cI cJ cC cG h9 hn ap ht h0 pc u x' ad oa (vp_updL out (Int32.toNatClampNeg 0) (Int32.toInt64 r)) m') := hD
  refine lv_iload K.hx K.hb dL_law_1710 (lv_at hl 1 rfl) ?_
  refine lv_icmp_eq (tgt := 1717) K.hx K.hb dL_law_1712 (by decide) (fun cc => ?_) (fun cc => absurd h3 cc)
  refine lv_iload K.hx K.hb dL_law_1717 (lv_at hl 1 rfl) ?_
  refine lv_if_ne (tgt := 1734) K.hx K.hb dL_law_1719 (by decide) (fun cc => absurd rfl cc) (fun cc => ?_)
  refine lv_aload_n K.hx K.hb dL_law_1722 rfl (lv_at hl 3 rfl) ?_
  refine lv_iconst (v := 0) K.hx K.hb dL_law_1723 (by decide) ?_
  refine va_lald K.hx K.hb K.hK hP 25 1 rfl rfl kv_01 dL_law_1724 ?_
  refine W.eq (g2 := F0 m 1725 _ (.long (Int32.toInt64 r) :: [])) (by rw [lw_out]) ?_
  refine lv_iload K.hx K.hb dL_law_1725 (lv_at hl 0 rfl) ?_
  refine lv_i2l (v := Int32.toInt64 r') K.hx K.hb dL_law_1727 rfl ?_
  refine W.lcmp K.hx K.hb dL_law_1728 ?_
  refine lv_if_eq (tgt := 1734) K.hx K.hb dL_law_1729 (by decide) (fun cc => ?_) (fun cc => absurd (lw_ceq h4) cc)
  refine lv_goto (tgt := 2028) K.hx K.hb dL_law_1734 (by decide) ?_
  exact kk u H locs ls hP hD hS (lv_sub hl [2, 3, 4, 5, 6] rfl)
set_option maxHeartbeats 8000000 in
set_option maxRecDepth 100000 in
theorem wlT_playsWith_1 {p : Program} {l : Launch} {e : Env} {s : State} {m : MethodId} {b L : Nat} {xs : Nat → Int32} {below : List Frame} {meth : Method} {c : Code} {A : Nat → Prop} {D : va_G} {cI cJ cC cG : ClassId} {h9 hn h0 : Nat} {ap ht pc : Nat → Nat} {u : lwH} {x : XT} {m1 : MT} {ad : Nat → Nat} {oa : Nat} {out : Nat → Int64} {H : Heap} {locs : List Loc} {ls : Array Slot} {Q : State → Prop} {C S j : Nat} (K : lwK p l s m b L xs meth c A D cI cJ cC cG) (hP : va_P D vwCl (wLw cI cJ cC cG h9 hn ap ht h0 pc u x ad oa out m1) H) (hD : va_D A (wLw cI cJ cC cG h9 hn ap ht h0 pc u x ad oa out m1)) (hS : va_S A s.heap H locs) (hl : lv_has ls 9 (lw_lv b h9 (ad 0) oa j)) (hj : j + 4 ≤ L) (hL : L ≤ 2048) {r' : Int32} {m' : MT} (hf : C + 1 ≤ room_1.cells ∧ S + 6 ≤ room_1.slots) (h1 : XT_playsWith x (xs (j + 1)) (xs (j + 2)) = some "java/lang/IllegalArgumentException") (h2 : MN_playsWith m1 (xs (j + 1)) (xs (j + 2)) = some (r', m')) (h3 : thr m' = 1) (kk : ∀ (H : Heap) (locs : List Loc) (ls : Array Slot), va_P D vwCl (wLw cI cJ cC cG h9 hn ap ht h0 pc u x ad oa out m') H → va_D A (wLw cI cJ cC cG h9 hn ap ht h0 pc u x ad oa out m') → va_S A s.heap H locs → lv_has ls 9 (lw_lv b h9 (ad 0) oa j) → W p l e room_1 s m #[Value.ref b] below meth c H locs (C + 1) (S + 6) Q (F0 m 2028 ls [])) : W p l e room_1 s m #[Value.ref b] below meth c H locs C S Q (F0 m 1669 ls []) := by
  have hl : lv_has ls 9 [(4, .int (lw_i j)), (3, .ref oa), (2, .ref (ad 0)), (1, .ref h9), (0, .ref b)] := hl
  refine lv_aload_n K.hx K.hb dL_law_1669 rfl (lv_at hl 3 rfl) ?_
  refine lw_arg1 K hS (lv_at hl 4 rfl) (lv_at hl 0 rfl) hj hL dL_law_1670 dL_law_1671 dL_law_1673 dL_law_1674 dL_law_1675 ?_
  refine lw_arg2 K hS (lv_at hl 4 rfl) (lv_at hl 0 rfl) hj hL dL_law_1676 dL_law_1677 dL_law_1679 dL_law_1680 dL_law_1681 ?_
  refine lv_aload_n K.hx K.hb dL_law_1682 rfl (lv_at hl 1 rfl) ?_
  have hPc : va_P D vwCl (wX1 cI cJ cC cG h9 hn ap ht h0 pc u x oa out) _ := kp_l hP
  have hDc : va_D A (wX1 cI cJ cC cG h9 hn ap ht h0 pc u x oa out) := kd_l hD
  refine kj_x1 (k_rSWT (As := [.ref h9, .int (xs (j + 1)), .int (xs (j + 2)), .ref oa]) (rest := []) ⟨K.hx, K.hb, K.hml, K.hown, K.hts⟩ K.hK K.hN K.hq hS (kj_F hD hS K.hA) hPc hDc (zBT_playsWith_1 K.hst h1) (vx_cwSW (hh := [(0, 10, 13, 13)]) 4 K.hts gL_law_L_playsWith rfl rfl rfl (by decide +kernel) ⟨Nat.le_of_ble_eq_true rfl, Nat.le_of_ble_eq_true rfl⟩) rfl hl.1 rfl (Nat.le_of_ble_eq_true rfl) dL_law_1683 hf) hP hD hS K.hA (fun H locs hP hD hS => ?_)
  have hP : va_P D vwCl (wLw cI cJ cC cG h9 hn ap ht h0 pc u x ad oa out m1) H := hP
  have hD : va_D A (wLw cI cJ cC cG h9 hn ap ht h0 pc u x ad oa out m1) := hD
  refine lv_istore (lv' := [(5, .int 1), (4, .int (lw_i j)), (3, .ref oa), (2, .ref (ad 0)), (1, .ref h9), (0, .ref b)]) K.hx K.hb dL_law_1686 hl (by decide) rfl (fun ls hl => ?_)
  refine lv_aload_n K.hx K.hb dL_law_1688 rfl (lv_at hl 3 rfl) ?_
  refine lw_arg1 K hS (lv_at hl 5 rfl) (lv_at hl 1 rfl) hj hL dL_law_1689 dL_law_1690 dL_law_1692 dL_law_1693 dL_law_1694 ?_
  refine lw_arg2 K hS (lv_at hl 5 rfl) (lv_at hl 1 rfl) hj hL dL_law_1695 dL_law_1696 dL_law_1698 dL_law_1699 dL_law_1700 ?_
  have hPc : va_P D vwCl (wMt cI cJ ad m1) _ := kp_r hP
  have hDc : va_D A (wMt cI cJ ad m1) := kd_r hD
  refine kj_i2 (k_rV (As := [.int (xs (j + 1)), .int (xs (j + 2))]) (rest := []) ⟨K.hx, K.hb, K.hml, K.hown, K.hts⟩ K.hK K.hN hPc hDc (zM_playsWith h2) (cwV 2 K.hts gL_law_X10_playsWith rfl rfl rfl (by decide +kernel) ⟨Nat.le_of_ble_eq_true rfl, Nat.le_of_ble_eq_true rfl⟩) rfl rfl rfl hl.1 rfl (Nat.le_of_ble_eq_true rfl) dL_law_1701 (lw_fit hf)) hP hD hS K.hA (fun H locs hP hD hS => ?_)
  have hP : va_P D vwCl (wLw cI cJ cC cG h9 hn ap ht h0 pc u x ad oa out m') H := hP
  have hD : va_D A (wLw cI cJ cC cG h9 hn ap ht h0 pc u x ad oa out m') := hD
  refine lv_istore (lv' := [(6, .int r'), (5, .int 1), (4, .int (lw_i j)), (3, .ref oa), (2, .ref (ad 0)), (1, .ref h9), (0, .ref b)]) K.hx K.hb dL_law_1704 hl (by decide) rfl (fun ls hl => ?_)
  refine lv_aload_n K.hx K.hb dL_law_1706 rfl (lv_at hl 4 rfl) ?_
  have hPc : va_P D vwCl (wMt cI cJ ad m') _ := kp_r hP
  have hDc : va_D A (wMt cI cJ ad m') := kd_r hD
  refine kj_i2 (k_rV (As := []) (rest := []) ⟨K.hx, K.hb, K.hml, K.hown, K.hts⟩ K.hK K.hN hPc hDc zM_thrown (cwV 0 K.hts gL_law_X10_thrown rfl rfl rfl (by decide +kernel) ⟨Nat.le_of_ble_eq_true rfl, Nat.le_of_ble_eq_true rfl⟩) rfl rfl rfl hl.1 rfl (Nat.le_of_ble_eq_true rfl) dL_law_1707 (lw_fit hf)) hP hD hS K.hA (fun H locs hP hD hS => ?_)
  have hP : va_P D vwCl (wLw cI cJ cC cG h9 hn ap ht h0 pc u x ad oa out m') H := hP
  have hD : va_D A (wLw cI cJ cC cG h9 hn ap ht h0 pc u x ad oa out m') := hD
  refine lv_iload K.hx K.hb dL_law_1710 (lv_at hl 1 rfl) ?_
  refine lv_icmp_eq (tgt := 1717) K.hx K.hb dL_law_1712 (by decide) (fun cc => ?_) (fun cc => absurd h3 cc)
  refine lv_iload K.hx K.hb dL_law_1717 (lv_at hl 1 rfl) ?_
  refine lv_if_ne (tgt := 1734) K.hx K.hb dL_law_1719 (by decide) (fun cc => ?_) (fun cc => absurd cc (by decide))
  refine lv_goto (tgt := 2028) K.hx K.hb dL_law_1734 (by decide) ?_
  exact kk H locs ls hP hD hS (lv_sub hl [2, 3, 4, 5, 6] rfl)
set_option maxHeartbeats 8000000 in
set_option maxRecDepth 100000 in
theorem wl_shots {p : Program} {l : Launch} {e : Env} {s : State} {m : MethodId} {b L : Nat} {xs : Nat → Int32} {below : List Frame} {meth : Method} {c : Code} {A : Nat → Prop} {D : va_G} {cI cJ cC cG : ClassId} {h9 hn h0 : Nat} {ap ht pc : Nat → Nat} {u : lwH} {x : XT} {m1 : MT} {ad : Nat → Nat} {oa : Nat} {out : Nat → Int64} {H : Heap} {locs : List Loc} {ls : Array Slot} {Q : State → Prop} {C S j : Nat} (K : lwK p l s m b L xs meth c A D cI cJ cC cG) (hP : va_P D vwCl (wLw cI cJ cC cG h9 hn ap ht h0 pc u x ad oa out m1) H) (hD : va_D A (wLw cI cJ cC cG h9 hn ap ht h0 pc u x ad oa out m1)) (hS : va_S A s.heap H locs) (hl : lv_has ls 9 (lw_lv b h9 (ad 0) oa j)) (hj : j + 4 ≤ L) (hL : L ≤ 2048) {r : Int32} {x' : XT} {r' : Int32} {m' : MT} (hf : C + 0 ≤ room_1.cells ∧ S + 0 ≤ room_1.slots) (h1 : XN_shots x (xs (j + 1)) = some (r, x')) (h2 : MN_shots m1 (xs (j + 1)) = some (r', m')) (h3 : thr m' = 0) (h4 : (Int32.toInt64 r) = Int32.toInt64 r') (kk : ∀ (u : lwH) (H : Heap) (locs : List Loc) (ls : Array Slot), va_P D vwCl (wLw cI cJ cC cG h9 hn ap ht h0 pc u x' ad oa (vp_updL out (Int32.toNatClampNeg 0) (Int32.toInt64 r)) m') H → va_D A (wLw cI cJ cC cG h9 hn ap ht h0 pc u x' ad oa (vp_updL out (Int32.toNatClampNeg 0) (Int32.toInt64 r)) m') → va_S A s.heap H locs → lv_has ls 9 (lw_lv b h9 (ad 0) oa j) → W p l e room_1 s m #[Value.ref b] below meth c H locs C S Q (F0 m 2028 ls [])) : W p l e room_1 s m #[Value.ref b] below meth c H locs C S Q (F0 m 1737 ls []) := by
  have hl : lv_has ls 9 [(4, .int (lw_i j)), (3, .ref oa), (2, .ref (ad 0)), (1, .ref h9), (0, .ref b)] := hl
  refine lv_aload_n K.hx K.hb dL_law_1737 rfl (lv_at hl 3 rfl) ?_
  refine lw_arg1 K hS (lv_at hl 4 rfl) (lv_at hl 0 rfl) hj hL dL_law_1738 dL_law_1739 dL_law_1741 dL_law_1742 dL_law_1743 ?_
  refine lv_aload_n K.hx K.hb dL_law_1744 rfl (lv_at hl 1 rfl) ?_
  have hPc : va_P D vwCl (wX1 cI cJ cC cG h9 hn ap ht h0 pc u x oa out) _ := kp_l hP
  have hDc : va_D A (wX1 cI cJ cC cG h9 hn ap ht h0 pc u x oa out) := kd_l hD
  refine kj_i1 (k_rSW (As := [.ref h9, .int (xs (j + 1)), .ref oa]) (rest := []) ⟨K.hx, K.hb, K.hml, K.hown, K.hts⟩ K.hK K.hN hPc hDc (zB_shots h1) (vx_cwSW (hh := [(0, 9, 12, 21)]) 3 K.hts gL_law_L_shots rfl rfl rfl (by decide +kernel) ⟨Nat.le_of_ble_eq_true rfl, Nat.le_of_ble_eq_true rfl⟩) rfl hl.1 rfl (Nat.le_of_ble_eq_true rfl) dL_law_1745 hf) hP hD hS K.hA (fun u H locs hP hD hS => ?_)
  have hP : va_P D vwCl (wLw cI cJ cC cG h9 hn ap ht h0 pc u x' ad oa (vp_updL out (Int32.toNatClampNeg 0) (Int32.toInt64 r)) m1) H := hP
  have hD : va_D A (wLw cI cJ cC cG h9 hn ap ht h0 pc u x' ad oa (vp_updL out (Int32.toNatClampNeg 0) (Int32.toInt64 r)) m1) := hD
  refine lv_istore (lv' := [(5, .int 0), (4, .int (lw_i j)), (3, .ref oa), (2, .ref (ad 0)), (1, .ref h9), (0, .ref b)]) K.hx K.hb dL_law_1748 hl (by decide) rfl (fun ls hl => ?_)
  refine lv_aload_n K.hx K.hb dL_law_1750 rfl (lv_at hl 3 rfl) ?_
  refine lw_arg1 K hS (lv_at hl 5 rfl) (lv_at hl 1 rfl) hj hL dL_law_1751 dL_law_1752 dL_law_1754 dL_law_1755 dL_law_1756 ?_
  have hPc : va_P D vwCl (wMt cI cJ ad m1) _ := kp_r hP
  have hDc : va_D A (wMt cI cJ ad m1) := kd_r hD
  refine kj_i2 (k_rV (As := [.int (xs (j + 1))]) (rest := []) ⟨K.hx, K.hb, K.hml, K.hown, K.hts⟩ K.hK K.hN hPc hDc (zM_shots h2) (cwV 1 K.hts gL_law_X10_shots rfl rfl rfl (by decide +kernel) ⟨Nat.le_of_ble_eq_true rfl, Nat.le_of_ble_eq_true rfl⟩) rfl rfl rfl hl.1 rfl (Nat.le_of_ble_eq_true rfl) dL_law_1757 hf) hP hD hS K.hA (fun H locs hP hD hS => ?_)
  have hP : va_P D vwCl (wLw cI cJ cC cG h9 hn ap ht h0 pc u x' ad oa (vp_updL out (Int32.toNatClampNeg 0) (Int32.toInt64 r)) m') H := hP
  have hD : va_D A (wLw cI cJ cC cG h9 hn ap ht h0 pc u x' ad oa (vp_updL out (Int32.toNatClampNeg 0) (Int32.toInt64 r)) m') := hD
  refine lv_istore (lv' := [(6, .int r'), (5, .int 0), (4, .int (lw_i j)), (3, .ref oa), (2, .ref (ad 0)), (1, .ref h9), (0, .ref b)]) K.hx K.hb dL_law_1760 hl (by decide) rfl (fun ls hl => ?_)
  refine lv_aload_n K.hx K.hb dL_law_1762 rfl (lv_at hl 4 rfl) ?_
  have hPc : va_P D vwCl (wMt cI cJ ad m') _ := kp_r hP
  have hDc : va_D A (wMt cI cJ ad m') := kd_r hD
  refine kj_i2 (k_rV (As := []) (rest := []) ⟨K.hx, K.hb, K.hml, K.hown, K.hts⟩ K.hK K.hN hPc hDc zM_thrown (cwV 0 K.hts gL_law_X10_thrown rfl rfl rfl (by decide +kernel) ⟨Nat.le_of_ble_eq_true rfl, Nat.le_of_ble_eq_true rfl⟩) rfl rfl rfl hl.1 rfl (Nat.le_of_ble_eq_true rfl) dL_law_1763 hf) hP hD hS K.hA (fun H locs hP hD hS => ?_)
  have hP : va_P D vwCl (wLw cI cJ cC cG h9 hn ap ht h0 pc u x' ad oa (vp_updL out (Int32.toNatClampNeg 0) (Int32.toInt64 r)) m') H := hP
  have hD : va_D A (wLw cI cJ cC cG h9 hn ap ht h0 pc u x' ad oa (vp_updL out (Int32.toNatClampNeg 0) (Int32.toInt64 r)) m') := hD
  refine lv_iload K.hx K.hb dL_law_1766 (lv_at hl 1 rfl) ?_
  refine lv_icmp_eq (tgt := 1773) K.hx K.hb dL_law_1768 (by decide) (fun cc => ?_) (fun cc => absurd h3 cc)
  refine lv_iload K.hx K.hb dL_law_1773 (lv_at hl 1 rfl) ?_
  refine lv_if_ne (tgt := 1790) K.hx K.hb dL_law_1775 (by decide) (fun cc => absurd rfl cc) (fun cc => ?_)
  refine lv_aload_n K.hx K.hb dL_law_1778 rfl (lv_at hl 3 rfl) ?_
  refine lv_iconst (v := 0) K.hx K.hb dL_law_1779 (by decide) ?_
  refine va_lald K.hx K.hb K.hK hP 25 1 rfl rfl kv_01 dL_law_1780 ?_
  refine W.eq (g2 := F0 m 1781 _ (.long (Int32.toInt64 r) :: [])) (by rw [lw_out]) ?_
  refine lv_iload K.hx K.hb dL_law_1781 (lv_at hl 0 rfl) ?_
  refine lv_i2l (v := Int32.toInt64 r') K.hx K.hb dL_law_1783 rfl ?_
  refine W.lcmp K.hx K.hb dL_law_1784 ?_
  refine lv_if_eq (tgt := 1790) K.hx K.hb dL_law_1785 (by decide) (fun cc => ?_) (fun cc => absurd (lw_ceq h4) cc)
  refine lv_goto (tgt := 2028) K.hx K.hb dL_law_1790 (by decide) ?_
  exact kk u H locs ls hP hD hS (lv_sub hl [2, 3, 4, 5, 6] rfl)
set_option maxHeartbeats 8000000 in
set_option maxRecDepth 100000 in
theorem wlT_shots_1 {p : Program} {l : Launch} {e : Env} {s : State} {m : MethodId} {b L : Nat} {xs : Nat → Int32} {below : List Frame} {meth : Method} {c : Code} {A : Nat → Prop} {D : va_G} {cI cJ cC cG : ClassId} {h9 hn h0 : Nat} {ap ht pc : Nat → Nat} {u : lwH} {x : XT} {m1 : MT} {ad : Nat → Nat} {oa : Nat} {out : Nat → Int64} {H : Heap} {locs : List Loc} {ls : Array Slot} {Q : State → Prop} {C S j : Nat} (K : lwK p l s m b L xs meth c A D cI cJ cC cG) (hP : va_P D vwCl (wLw cI cJ cC cG h9 hn ap ht h0 pc u x ad oa out m1) H) (hD : va_D A (wLw cI cJ cC cG h9 hn ap ht h0 pc u x ad oa out m1)) (hS : va_S A s.heap H locs) (hl : lv_has ls 9 (lw_lv b h9 (ad 0) oa j)) (hj : j + 4 ≤ L) (hL : L ≤ 2048) {r' : Int32} {m' : MT} (hf : C + 1 ≤ room_1.cells ∧ S + 6 ≤ room_1.slots) (h1 : XT_shots x (xs (j + 1)) = some "java/lang/IndexOutOfBoundsException") (h2 : MN_shots m1 (xs (j + 1)) = some (r', m')) (h3 : thr m' = 1) (kk : ∀ (H : Heap) (locs : List Loc) (ls : Array Slot), va_P D vwCl (wLw cI cJ cC cG h9 hn ap ht h0 pc u x ad oa out m') H → va_D A (wLw cI cJ cC cG h9 hn ap ht h0 pc u x ad oa out m') → va_S A s.heap H locs → lv_has ls 9 (lw_lv b h9 (ad 0) oa j) → W p l e room_1 s m #[Value.ref b] below meth c H locs (C + 1) (S + 6) Q (F0 m 2028 ls [])) : W p l e room_1 s m #[Value.ref b] below meth c H locs C S Q (F0 m 1737 ls []) := by
  have hl : lv_has ls 9 [(4, .int (lw_i j)), (3, .ref oa), (2, .ref (ad 0)), (1, .ref h9), (0, .ref b)] := hl
  refine lv_aload_n K.hx K.hb dL_law_1737 rfl (lv_at hl 3 rfl) ?_
  refine lw_arg1 K hS (lv_at hl 4 rfl) (lv_at hl 0 rfl) hj hL dL_law_1738 dL_law_1739 dL_law_1741 dL_law_1742 dL_law_1743 ?_
  refine lv_aload_n K.hx K.hb dL_law_1744 rfl (lv_at hl 1 rfl) ?_
  have hPc : va_P D vwCl (wX1 cI cJ cC cG h9 hn ap ht h0 pc u x oa out) _ := kp_l hP
  have hDc : va_D A (wX1 cI cJ cC cG h9 hn ap ht h0 pc u x oa out) := kd_l hD
  refine kj_x1 (k_rSWT (As := [.ref h9, .int (xs (j + 1)), .ref oa]) (rest := []) ⟨K.hx, K.hb, K.hml, K.hown, K.hts⟩ K.hK K.hN K.hq hS (kj_F hD hS K.hA) hPc hDc (zBT_shots_1 K.hst h1) (vx_cwSW (hh := [(0, 9, 12, 21)]) 3 K.hts gL_law_L_shots rfl rfl rfl (by decide +kernel) ⟨Nat.le_of_ble_eq_true rfl, Nat.le_of_ble_eq_true rfl⟩) rfl hl.1 rfl (Nat.le_of_ble_eq_true rfl) dL_law_1745 hf) hP hD hS K.hA (fun H locs hP hD hS => ?_)
  have hP : va_P D vwCl (wLw cI cJ cC cG h9 hn ap ht h0 pc u x ad oa out m1) H := hP
  have hD : va_D A (wLw cI cJ cC cG h9 hn ap ht h0 pc u x ad oa out m1) := hD
  refine lv_istore (lv' := [(5, .int 1), (4, .int (lw_i j)), (3, .ref oa), (2, .ref (ad 0)), (1, .ref h9), (0, .ref b)]) K.hx K.hb dL_law_1748 hl (by decide) rfl (fun ls hl => ?_)
  refine lv_aload_n K.hx K.hb dL_law_1750 rfl (lv_at hl 3 rfl) ?_
  refine lw_arg1 K hS (lv_at hl 5 rfl) (lv_at hl 1 rfl) hj hL dL_law_1751 dL_law_1752 dL_law_1754 dL_law_1755 dL_law_1756 ?_
  have hPc : va_P D vwCl (wMt cI cJ ad m1) _ := kp_r hP
  have hDc : va_D A (wMt cI cJ ad m1) := kd_r hD
  refine kj_i2 (k_rV (As := [.int (xs (j + 1))]) (rest := []) ⟨K.hx, K.hb, K.hml, K.hown, K.hts⟩ K.hK K.hN hPc hDc (zM_shots h2) (cwV 1 K.hts gL_law_X10_shots rfl rfl rfl (by decide +kernel) ⟨Nat.le_of_ble_eq_true rfl, Nat.le_of_ble_eq_true rfl⟩) rfl rfl rfl hl.1 rfl (Nat.le_of_ble_eq_true rfl) dL_law_1757 (lw_fit hf)) hP hD hS K.hA (fun H locs hP hD hS => ?_)
  have hP : va_P D vwCl (wLw cI cJ cC cG h9 hn ap ht h0 pc u x ad oa out m') H := hP
  have hD : va_D A (wLw cI cJ cC cG h9 hn ap ht h0 pc u x ad oa out m') := hD
  refine lv_istore (lv' := [(6, .int r'), (5, .int 1), (4, .int (lw_i j)), (3, .ref oa), (2, .ref (ad 0)), (1, .ref h9), (0, .ref b)]) K.hx K.hb dL_law_1760 hl (by decide) rfl (fun ls hl => ?_)
  refine lv_aload_n K.hx K.hb dL_law_1762 rfl (lv_at hl 4 rfl) ?_
  have hPc : va_P D vwCl (wMt cI cJ ad m') _ := kp_r hP
  have hDc : va_D A (wMt cI cJ ad m') := kd_r hD
  refine kj_i2 (k_rV (As := []) (rest := []) ⟨K.hx, K.hb, K.hml, K.hown, K.hts⟩ K.hK K.hN hPc hDc zM_thrown (cwV 0 K.hts gL_law_X10_thrown rfl rfl rfl (by decide +kernel) ⟨Nat.le_of_ble_eq_true rfl, Nat.le_of_ble_eq_true rfl⟩) rfl rfl rfl hl.1 rfl (Nat.le_of_ble_eq_true rfl) dL_law_1763 (lw_fit hf)) hP hD hS K.hA (fun H locs hP hD hS => ?_)
  have hP : va_P D vwCl (wLw cI cJ cC cG h9 hn ap ht h0 pc u x ad oa out m') H := hP
  have hD : va_D A (wLw cI cJ cC cG h9 hn ap ht h0 pc u x ad oa out m') := hD
  refine lv_iload K.hx K.hb dL_law_1766 (lv_at hl 1 rfl) ?_
  refine lv_icmp_eq (tgt := 1773) K.hx K.hb dL_law_1768 (by decide) (fun cc => ?_) (fun cc => absurd h3 cc)
  refine lv_iload K.hx K.hb dL_law_1773 (lv_at hl 1 rfl) ?_
  refine lv_if_ne (tgt := 1790) K.hx K.hb dL_law_1775 (by decide) (fun cc => ?_) (fun cc => absurd cc (by decide))
  refine lv_goto (tgt := 2028) K.hx K.hb dL_law_1790 (by decide) ?_
  exact kk H locs ls hP hD hS (lv_sub hl [2, 3, 4, 5, 6] rfl)
set_option maxHeartbeats 8000000 in
set_option maxRecDepth 100000 in
theorem wl_shotsByKinds {p : Program} {l : Launch} {e : Env} {s : State} {m : MethodId} {b L : Nat} {xs : Nat → Int32} {below : List Frame} {meth : Method} {c : Code} {A : Nat → Prop} {D : va_G} {cI cJ cC cG : ClassId} {h9 hn h0 : Nat} {ap ht pc : Nat → Nat} {u : lwH} {x : XT} {m1 : MT} {ad : Nat → Nat} {oa : Nat} {out : Nat → Int64} {H : Heap} {locs : List Loc} {ls : Array Slot} {Q : State → Prop} {C S j : Nat} (K : lwK p l s m b L xs meth c A D cI cJ cC cG) (hP : va_P D vwCl (wLw cI cJ cC cG h9 hn ap ht h0 pc u x ad oa out m1) H) (hD : va_D A (wLw cI cJ cC cG h9 hn ap ht h0 pc u x ad oa out m1)) (hS : va_S A s.heap H locs) (hl : lv_has ls 9 (lw_lv b h9 (ad 0) oa j)) (hj : j + 4 ≤ L) (hL : L ≤ 2048) {r : Int32} {x' : XT} {r' : Int32} {m' : MT} (hf : C + 0 ≤ room_1.cells ∧ S + 0 ≤ room_1.slots) (h1 : XN_shotsByKinds x (xs (j + 1)) = some (r, x')) (h2 : MN_shotsByKinds m1 (xs (j + 1)) = some (r', m')) (h3 : thr m' = 0) (h4 : (Int32.toInt64 r) = Int32.toInt64 r') (kk : ∀ (u : lwH) (H : Heap) (locs : List Loc) (ls : Array Slot), va_P D vwCl (wLw cI cJ cC cG h9 hn ap ht h0 pc u x' ad oa (vp_updL out (Int32.toNatClampNeg 0) (Int32.toInt64 r)) m') H → va_D A (wLw cI cJ cC cG h9 hn ap ht h0 pc u x' ad oa (vp_updL out (Int32.toNatClampNeg 0) (Int32.toInt64 r)) m') → va_S A s.heap H locs → lv_has ls 9 (lw_lv b h9 (ad 0) oa j) → W p l e room_1 s m #[Value.ref b] below meth c H locs C S Q (F0 m 2028 ls [])) : W p l e room_1 s m #[Value.ref b] below meth c H locs C S Q (F0 m 1793 ls []) := by
  have hl : lv_has ls 9 [(4, .int (lw_i j)), (3, .ref oa), (2, .ref (ad 0)), (1, .ref h9), (0, .ref b)] := hl
  refine lv_aload_n K.hx K.hb dL_law_1793 rfl (lv_at hl 3 rfl) ?_
  refine lw_arg1 K hS (lv_at hl 4 rfl) (lv_at hl 0 rfl) hj hL dL_law_1794 dL_law_1795 dL_law_1797 dL_law_1798 dL_law_1799 ?_
  refine lv_aload_n K.hx K.hb dL_law_1800 rfl (lv_at hl 1 rfl) ?_
  have hPc : va_P D vwCl (wX1 cI cJ cC cG h9 hn ap ht h0 pc u x oa out) _ := kp_l hP
  have hDc : va_D A (wX1 cI cJ cC cG h9 hn ap ht h0 pc u x oa out) := kd_l hD
  refine kj_i1 (k_rSW (As := [.ref h9, .int (xs (j + 1)), .ref oa]) (rest := []) ⟨K.hx, K.hb, K.hml, K.hown, K.hts⟩ K.hK K.hN hPc hDc (zB_shotsByKinds h1) (vx_cwSW (hh := [(0, 9, 12, 21)]) 3 K.hts gL_law_L_shotsByKinds rfl rfl rfl (by decide +kernel) ⟨Nat.le_of_ble_eq_true rfl, Nat.le_of_ble_eq_true rfl⟩) rfl hl.1 rfl (Nat.le_of_ble_eq_true rfl) dL_law_1801 hf) hP hD hS K.hA (fun u H locs hP hD hS => ?_)
  have hP : va_P D vwCl (wLw cI cJ cC cG h9 hn ap ht h0 pc u x' ad oa (vp_updL out (Int32.toNatClampNeg 0) (Int32.toInt64 r)) m1) H := hP
  have hD : va_D A (wLw cI cJ cC cG h9 hn ap ht h0 pc u x' ad oa (vp_updL out (Int32.toNatClampNeg 0) (Int32.toInt64 r)) m1) := hD
  refine lv_istore (lv' := [(5, .int 0), (4, .int (lw_i j)), (3, .ref oa), (2, .ref (ad 0)), (1, .ref h9), (0, .ref b)]) K.hx K.hb dL_law_1804 hl (by decide) rfl (fun ls hl => ?_)
  refine lv_aload_n K.hx K.hb dL_law_1806 rfl (lv_at hl 3 rfl) ?_
  refine lw_arg1 K hS (lv_at hl 5 rfl) (lv_at hl 1 rfl) hj hL dL_law_1807 dL_law_1808 dL_law_1810 dL_law_1811 dL_law_1812 ?_
  have hPc : va_P D vwCl (wMt cI cJ ad m1) _ := kp_r hP
  have hDc : va_D A (wMt cI cJ ad m1) := kd_r hD
  refine kj_i2 (k_rV (As := [.int (xs (j + 1))]) (rest := []) ⟨K.hx, K.hb, K.hml, K.hown, K.hts⟩ K.hK K.hN hPc hDc (zM_shotsByKinds h2) (cwV 1 K.hts gL_law_X10_shotsByKinds rfl rfl rfl (by decide +kernel) ⟨Nat.le_of_ble_eq_true rfl, Nat.le_of_ble_eq_true rfl⟩) rfl rfl rfl hl.1 rfl (Nat.le_of_ble_eq_true rfl) dL_law_1813 hf) hP hD hS K.hA (fun H locs hP hD hS => ?_)
  have hP : va_P D vwCl (wLw cI cJ cC cG h9 hn ap ht h0 pc u x' ad oa (vp_updL out (Int32.toNatClampNeg 0) (Int32.toInt64 r)) m') H := hP
  have hD : va_D A (wLw cI cJ cC cG h9 hn ap ht h0 pc u x' ad oa (vp_updL out (Int32.toNatClampNeg 0) (Int32.toInt64 r)) m') := hD
  refine lv_istore (lv' := [(6, .int r'), (5, .int 0), (4, .int (lw_i j)), (3, .ref oa), (2, .ref (ad 0)), (1, .ref h9), (0, .ref b)]) K.hx K.hb dL_law_1816 hl (by decide) rfl (fun ls hl => ?_)
  refine lv_aload_n K.hx K.hb dL_law_1818 rfl (lv_at hl 4 rfl) ?_
  have hPc : va_P D vwCl (wMt cI cJ ad m') _ := kp_r hP
  have hDc : va_D A (wMt cI cJ ad m') := kd_r hD
  refine kj_i2 (k_rV (As := []) (rest := []) ⟨K.hx, K.hb, K.hml, K.hown, K.hts⟩ K.hK K.hN hPc hDc zM_thrown (cwV 0 K.hts gL_law_X10_thrown rfl rfl rfl (by decide +kernel) ⟨Nat.le_of_ble_eq_true rfl, Nat.le_of_ble_eq_true rfl⟩) rfl rfl rfl hl.1 rfl (Nat.le_of_ble_eq_true rfl) dL_law_1819 hf) hP hD hS K.hA (fun H locs hP hD hS => ?_)
  have hP : va_P D vwCl (wLw cI cJ cC cG h9 hn ap ht h0 pc u x' ad oa (vp_updL out (Int32.toNatClampNeg 0) (Int32.toInt64 r)) m') H := hP
  have hD : va_D A (wLw cI cJ cC cG h9 hn ap ht h0 pc u x' ad oa (vp_updL out (Int32.toNatClampNeg 0) (Int32.toInt64 r)) m') := hD
  refine lv_iload K.hx K.hb dL_law_1822 (lv_at hl 1 rfl) ?_
  refine lv_icmp_eq (tgt := 1829) K.hx K.hb dL_law_1824 (by decide) (fun cc => ?_) (fun cc => absurd h3 cc)
  refine lv_iload K.hx K.hb dL_law_1829 (lv_at hl 1 rfl) ?_
  refine lv_if_ne (tgt := 1846) K.hx K.hb dL_law_1831 (by decide) (fun cc => absurd rfl cc) (fun cc => ?_)
  refine lv_aload_n K.hx K.hb dL_law_1834 rfl (lv_at hl 3 rfl) ?_
  refine lv_iconst (v := 0) K.hx K.hb dL_law_1835 (by decide) ?_
  refine va_lald K.hx K.hb K.hK hP 25 1 rfl rfl kv_01 dL_law_1836 ?_
  refine W.eq (g2 := F0 m 1837 _ (.long (Int32.toInt64 r) :: [])) (by rw [lw_out]) ?_
  refine lv_iload K.hx K.hb dL_law_1837 (lv_at hl 0 rfl) ?_
  refine lv_i2l (v := Int32.toInt64 r') K.hx K.hb dL_law_1839 rfl ?_
  refine W.lcmp K.hx K.hb dL_law_1840 ?_
  refine lv_if_eq (tgt := 1846) K.hx K.hb dL_law_1841 (by decide) (fun cc => ?_) (fun cc => absurd (lw_ceq h4) cc)
  refine lv_goto (tgt := 2028) K.hx K.hb dL_law_1846 (by decide) ?_
  exact kk u H locs ls hP hD hS (lv_sub hl [2, 3, 4, 5, 6] rfl)
set_option maxHeartbeats 8000000 in
set_option maxRecDepth 100000 in
theorem wlT_shotsByKinds_1 {p : Program} {l : Launch} {e : Env} {s : State} {m : MethodId} {b L : Nat} {xs : Nat → Int32} {below : List Frame} {meth : Method} {c : Code} {A : Nat → Prop} {D : va_G} {cI cJ cC cG : ClassId} {h9 hn h0 : Nat} {ap ht pc : Nat → Nat} {u : lwH} {x : XT} {m1 : MT} {ad : Nat → Nat} {oa : Nat} {out : Nat → Int64} {H : Heap} {locs : List Loc} {ls : Array Slot} {Q : State → Prop} {C S j : Nat} (K : lwK p l s m b L xs meth c A D cI cJ cC cG) (hP : va_P D vwCl (wLw cI cJ cC cG h9 hn ap ht h0 pc u x ad oa out m1) H) (hD : va_D A (wLw cI cJ cC cG h9 hn ap ht h0 pc u x ad oa out m1)) (hS : va_S A s.heap H locs) (hl : lv_has ls 9 (lw_lv b h9 (ad 0) oa j)) (hj : j + 4 ≤ L) (hL : L ≤ 2048) {r' : Int32} {m' : MT} (hf : C + 1 ≤ room_1.cells ∧ S + 6 ≤ room_1.slots) (h1 : XT_shotsByKinds x (xs (j + 1)) = some "java/lang/IndexOutOfBoundsException") (h2 : MN_shotsByKinds m1 (xs (j + 1)) = some (r', m')) (h3 : thr m' = 1) (kk : ∀ (H : Heap) (locs : List Loc) (ls : Array Slot), va_P D vwCl (wLw cI cJ cC cG h9 hn ap ht h0 pc u x ad oa out m') H → va_D A (wLw cI cJ cC cG h9 hn ap ht h0 pc u x ad oa out m') → va_S A s.heap H locs → lv_has ls 9 (lw_lv b h9 (ad 0) oa j) → W p l e room_1 s m #[Value.ref b] below meth c H locs (C + 1) (S + 6) Q (F0 m 2028 ls [])) : W p l e room_1 s m #[Value.ref b] below meth c H locs C S Q (F0 m 1793 ls []) := by
  have hl : lv_has ls 9 [(4, .int (lw_i j)), (3, .ref oa), (2, .ref (ad 0)), (1, .ref h9), (0, .ref b)] := hl
  refine lv_aload_n K.hx K.hb dL_law_1793 rfl (lv_at hl 3 rfl) ?_
  refine lw_arg1 K hS (lv_at hl 4 rfl) (lv_at hl 0 rfl) hj hL dL_law_1794 dL_law_1795 dL_law_1797 dL_law_1798 dL_law_1799 ?_
  refine lv_aload_n K.hx K.hb dL_law_1800 rfl (lv_at hl 1 rfl) ?_
  have hPc : va_P D vwCl (wX1 cI cJ cC cG h9 hn ap ht h0 pc u x oa out) _ := kp_l hP
  have hDc : va_D A (wX1 cI cJ cC cG h9 hn ap ht h0 pc u x oa out) := kd_l hD
  refine kj_x1 (k_rSWT (As := [.ref h9, .int (xs (j + 1)), .ref oa]) (rest := []) ⟨K.hx, K.hb, K.hml, K.hown, K.hts⟩ K.hK K.hN K.hq hS (kj_F hD hS K.hA) hPc hDc (zBT_shotsByKinds_1 K.hst h1) (vx_cwSW (hh := [(0, 9, 12, 21)]) 3 K.hts gL_law_L_shotsByKinds rfl rfl rfl (by decide +kernel) ⟨Nat.le_of_ble_eq_true rfl, Nat.le_of_ble_eq_true rfl⟩) rfl hl.1 rfl (Nat.le_of_ble_eq_true rfl) dL_law_1801 hf) hP hD hS K.hA (fun H locs hP hD hS => ?_)
  have hP : va_P D vwCl (wLw cI cJ cC cG h9 hn ap ht h0 pc u x ad oa out m1) H := hP
  have hD : va_D A (wLw cI cJ cC cG h9 hn ap ht h0 pc u x ad oa out m1) := hD
  refine lv_istore (lv' := [(5, .int 1), (4, .int (lw_i j)), (3, .ref oa), (2, .ref (ad 0)), (1, .ref h9), (0, .ref b)]) K.hx K.hb dL_law_1804 hl (by decide) rfl (fun ls hl => ?_)
  refine lv_aload_n K.hx K.hb dL_law_1806 rfl (lv_at hl 3 rfl) ?_
  refine lw_arg1 K hS (lv_at hl 5 rfl) (lv_at hl 1 rfl) hj hL dL_law_1807 dL_law_1808 dL_law_1810 dL_law_1811 dL_law_1812 ?_
  have hPc : va_P D vwCl (wMt cI cJ ad m1) _ := kp_r hP
  have hDc : va_D A (wMt cI cJ ad m1) := kd_r hD
  refine kj_i2 (k_rV (As := [.int (xs (j + 1))]) (rest := []) ⟨K.hx, K.hb, K.hml, K.hown, K.hts⟩ K.hK K.hN hPc hDc (zM_shotsByKinds h2) (cwV 1 K.hts gL_law_X10_shotsByKinds rfl rfl rfl (by decide +kernel) ⟨Nat.le_of_ble_eq_true rfl, Nat.le_of_ble_eq_true rfl⟩) rfl rfl rfl hl.1 rfl (Nat.le_of_ble_eq_true rfl) dL_law_1813 (lw_fit hf)) hP hD hS K.hA (fun H locs hP hD hS => ?_)
  have hP : va_P D vwCl (wLw cI cJ cC cG h9 hn ap ht h0 pc u x ad oa out m') H := hP
  have hD : va_D A (wLw cI cJ cC cG h9 hn ap ht h0 pc u x ad oa out m') := hD
  refine lv_istore (lv' := [(6, .int r'), (5, .int 1), (4, .int (lw_i j)), (3, .ref oa), (2, .ref (ad 0)), (1, .ref h9), (0, .ref b)]) K.hx K.hb dL_law_1816 hl (by decide) rfl (fun ls hl => ?_)
  refine lv_aload_n K.hx K.hb dL_law_1818 rfl (lv_at hl 4 rfl) ?_
  have hPc : va_P D vwCl (wMt cI cJ ad m') _ := kp_r hP
  have hDc : va_D A (wMt cI cJ ad m') := kd_r hD
  refine kj_i2 (k_rV (As := []) (rest := []) ⟨K.hx, K.hb, K.hml, K.hown, K.hts⟩ K.hK K.hN hPc hDc zM_thrown (cwV 0 K.hts gL_law_X10_thrown rfl rfl rfl (by decide +kernel) ⟨Nat.le_of_ble_eq_true rfl, Nat.le_of_ble_eq_true rfl⟩) rfl rfl rfl hl.1 rfl (Nat.le_of_ble_eq_true rfl) dL_law_1819 (lw_fit hf)) hP hD hS K.hA (fun H locs hP hD hS => ?_)
  have hP : va_P D vwCl (wLw cI cJ cC cG h9 hn ap ht h0 pc u x ad oa out m') H := hP
  have hD : va_D A (wLw cI cJ cC cG h9 hn ap ht h0 pc u x ad oa out m') := hD
  refine lv_iload K.hx K.hb dL_law_1822 (lv_at hl 1 rfl) ?_
  refine lv_icmp_eq (tgt := 1829) K.hx K.hb dL_law_1824 (by decide) (fun cc => ?_) (fun cc => absurd h3 cc)
  refine lv_iload K.hx K.hb dL_law_1829 (lv_at hl 1 rfl) ?_
  refine lv_if_ne (tgt := 1846) K.hx K.hb dL_law_1831 (by decide) (fun cc => ?_) (fun cc => absurd cc (by decide))
  refine lv_goto (tgt := 2028) K.hx K.hb dL_law_1846 (by decide) ?_
  exact kk H locs ls hP hD hS (lv_sub hl [2, 3, 4, 5, 6] rfl)
set_option maxHeartbeats 8000000 in
set_option maxRecDepth 100000 in
theorem wl_entering {p : Program} {l : Launch} {e : Env} {s : State} {m : MethodId} {b L : Nat} {xs : Nat → Int32} {below : List Frame} {meth : Method} {c : Code} {A : Nat → Prop} {D : va_G} {cI cJ cC cG : ClassId} {h9 hn h0 : Nat} {ap ht pc : Nat → Nat} {u : lwH} {x : XT} {m1 : MT} {ad : Nat → Nat} {oa : Nat} {out : Nat → Int64} {H : Heap} {locs : List Loc} {ls : Array Slot} {Q : State → Prop} {C S j : Nat} (K : lwK p l s m b L xs meth c A D cI cJ cC cG) (hP : va_P D vwCl (wLw cI cJ cC cG h9 hn ap ht h0 pc u x ad oa out m1) H) (hD : va_D A (wLw cI cJ cC cG h9 hn ap ht h0 pc u x ad oa out m1)) (hS : va_S A s.heap H locs) (hl : lv_has ls 9 (lw_lv b h9 (ad 0) oa j)) (hj : j + 4 ≤ L) (hL : L ≤ 2048) {r : Int32} {x' : XT} {r' : Int32} {m' : MT} (hf : C + 0 ≤ room_1.cells ∧ S + 0 ≤ room_1.slots) (h1 : XN_entering x (xs (j + 1)) = some (r, x')) (h2 : MN_entering m1 (xs (j + 1)) = some (r', m')) (h3 : thr m' = 0) (h4 : (Int32.toInt64 r) = Int32.toInt64 r') (kk : ∀ (u : lwH) (H : Heap) (locs : List Loc) (ls : Array Slot), va_P D vwCl (wLw cI cJ cC cG h9 hn ap ht h0 pc u x' ad oa (vp_updL out (Int32.toNatClampNeg 0) (Int32.toInt64 r)) m') H → va_D A (wLw cI cJ cC cG h9 hn ap ht h0 pc u x' ad oa (vp_updL out (Int32.toNatClampNeg 0) (Int32.toInt64 r)) m') → va_S A s.heap H locs → lv_has ls 9 (lw_lv b h9 (ad 0) oa j) → W p l e room_1 s m #[Value.ref b] below meth c H locs C S Q (F0 m 2028 ls [])) : W p l e room_1 s m #[Value.ref b] below meth c H locs C S Q (F0 m 1849 ls []) := by
  have hl : lv_has ls 9 [(4, .int (lw_i j)), (3, .ref oa), (2, .ref (ad 0)), (1, .ref h9), (0, .ref b)] := hl
  refine lv_aload_n K.hx K.hb dL_law_1849 rfl (lv_at hl 3 rfl) ?_
  refine lw_arg1 K hS (lv_at hl 4 rfl) (lv_at hl 0 rfl) hj hL dL_law_1850 dL_law_1851 dL_law_1853 dL_law_1854 dL_law_1855 ?_
  refine lv_aload_n K.hx K.hb dL_law_1856 rfl (lv_at hl 1 rfl) ?_
  have hPc : va_P D vwCl (wX1 cI cJ cC cG h9 hn ap ht h0 pc u x oa out) _ := kp_l hP
  have hDc : va_D A (wX1 cI cJ cC cG h9 hn ap ht h0 pc u x oa out) := kd_l hD
  refine kj_i1 (k_rSW (As := [.ref h9, .int (xs (j + 1)), .ref oa]) (rest := []) ⟨K.hx, K.hb, K.hml, K.hown, K.hts⟩ K.hK K.hN hPc hDc (zB_entering h1) (vx_cwSW (hh := [(0, 9, 12, 21)]) 3 K.hts gL_law_L_entering rfl rfl rfl (by decide +kernel) ⟨Nat.le_of_ble_eq_true rfl, Nat.le_of_ble_eq_true rfl⟩) rfl hl.1 rfl (Nat.le_of_ble_eq_true rfl) dL_law_1857 hf) hP hD hS K.hA (fun u H locs hP hD hS => ?_)
  have hP : va_P D vwCl (wLw cI cJ cC cG h9 hn ap ht h0 pc u x' ad oa (vp_updL out (Int32.toNatClampNeg 0) (Int32.toInt64 r)) m1) H := hP
  have hD : va_D A (wLw cI cJ cC cG h9 hn ap ht h0 pc u x' ad oa (vp_updL out (Int32.toNatClampNeg 0) (Int32.toInt64 r)) m1) := hD
  refine lv_istore (lv' := [(5, .int 0), (4, .int (lw_i j)), (3, .ref oa), (2, .ref (ad 0)), (1, .ref h9), (0, .ref b)]) K.hx K.hb dL_law_1860 hl (by decide) rfl (fun ls hl => ?_)
  refine lv_aload_n K.hx K.hb dL_law_1862 rfl (lv_at hl 3 rfl) ?_
  refine lw_arg1 K hS (lv_at hl 5 rfl) (lv_at hl 1 rfl) hj hL dL_law_1863 dL_law_1864 dL_law_1866 dL_law_1867 dL_law_1868 ?_
  have hPc : va_P D vwCl (wMt cI cJ ad m1) _ := kp_r hP
  have hDc : va_D A (wMt cI cJ ad m1) := kd_r hD
  refine kj_i2 (k_rV (As := [.int (xs (j + 1))]) (rest := []) ⟨K.hx, K.hb, K.hml, K.hown, K.hts⟩ K.hK K.hN hPc hDc (zM_entering h2) (cwV 1 K.hts gL_law_X10_entering rfl rfl rfl (by decide +kernel) ⟨Nat.le_of_ble_eq_true rfl, Nat.le_of_ble_eq_true rfl⟩) rfl rfl rfl hl.1 rfl (Nat.le_of_ble_eq_true rfl) dL_law_1869 hf) hP hD hS K.hA (fun H locs hP hD hS => ?_)
  have hP : va_P D vwCl (wLw cI cJ cC cG h9 hn ap ht h0 pc u x' ad oa (vp_updL out (Int32.toNatClampNeg 0) (Int32.toInt64 r)) m') H := hP
  have hD : va_D A (wLw cI cJ cC cG h9 hn ap ht h0 pc u x' ad oa (vp_updL out (Int32.toNatClampNeg 0) (Int32.toInt64 r)) m') := hD
  refine lv_istore (lv' := [(6, .int r'), (5, .int 0), (4, .int (lw_i j)), (3, .ref oa), (2, .ref (ad 0)), (1, .ref h9), (0, .ref b)]) K.hx K.hb dL_law_1872 hl (by decide) rfl (fun ls hl => ?_)
  refine lv_aload_n K.hx K.hb dL_law_1874 rfl (lv_at hl 4 rfl) ?_
  have hPc : va_P D vwCl (wMt cI cJ ad m') _ := kp_r hP
  have hDc : va_D A (wMt cI cJ ad m') := kd_r hD
  refine kj_i2 (k_rV (As := []) (rest := []) ⟨K.hx, K.hb, K.hml, K.hown, K.hts⟩ K.hK K.hN hPc hDc zM_thrown (cwV 0 K.hts gL_law_X10_thrown rfl rfl rfl (by decide +kernel) ⟨Nat.le_of_ble_eq_true rfl, Nat.le_of_ble_eq_true rfl⟩) rfl rfl rfl hl.1 rfl (Nat.le_of_ble_eq_true rfl) dL_law_1875 hf) hP hD hS K.hA (fun H locs hP hD hS => ?_)
  have hP : va_P D vwCl (wLw cI cJ cC cG h9 hn ap ht h0 pc u x' ad oa (vp_updL out (Int32.toNatClampNeg 0) (Int32.toInt64 r)) m') H := hP
  have hD : va_D A (wLw cI cJ cC cG h9 hn ap ht h0 pc u x' ad oa (vp_updL out (Int32.toNatClampNeg 0) (Int32.toInt64 r)) m') := hD
  refine lv_iload K.hx K.hb dL_law_1878 (lv_at hl 1 rfl) ?_
  refine lv_icmp_eq (tgt := 1885) K.hx K.hb dL_law_1880 (by decide) (fun cc => ?_) (fun cc => absurd h3 cc)
  refine lv_iload K.hx K.hb dL_law_1885 (lv_at hl 1 rfl) ?_
  refine lv_if_ne (tgt := 1902) K.hx K.hb dL_law_1887 (by decide) (fun cc => absurd rfl cc) (fun cc => ?_)
  refine lv_aload_n K.hx K.hb dL_law_1890 rfl (lv_at hl 3 rfl) ?_
  refine lv_iconst (v := 0) K.hx K.hb dL_law_1891 (by decide) ?_
  refine va_lald K.hx K.hb K.hK hP 25 1 rfl rfl kv_01 dL_law_1892 ?_
  refine W.eq (g2 := F0 m 1893 _ (.long (Int32.toInt64 r) :: [])) (by rw [lw_out]) ?_
  refine lv_iload K.hx K.hb dL_law_1893 (lv_at hl 0 rfl) ?_
  refine lv_i2l (v := Int32.toInt64 r') K.hx K.hb dL_law_1895 rfl ?_
  refine W.lcmp K.hx K.hb dL_law_1896 ?_
  refine lv_if_eq (tgt := 1902) K.hx K.hb dL_law_1897 (by decide) (fun cc => ?_) (fun cc => absurd (lw_ceq h4) cc)
  refine lv_goto (tgt := 2028) K.hx K.hb dL_law_1902 (by decide) ?_
  exact kk u H locs ls hP hD hS (lv_sub hl [2, 3, 4, 5, 6] rfl)
set_option maxHeartbeats 8000000 in
set_option maxRecDepth 100000 in
theorem wlT_entering_1 {p : Program} {l : Launch} {e : Env} {s : State} {m : MethodId} {b L : Nat} {xs : Nat → Int32} {below : List Frame} {meth : Method} {c : Code} {A : Nat → Prop} {D : va_G} {cI cJ cC cG : ClassId} {h9 hn h0 : Nat} {ap ht pc : Nat → Nat} {u : lwH} {x : XT} {m1 : MT} {ad : Nat → Nat} {oa : Nat} {out : Nat → Int64} {H : Heap} {locs : List Loc} {ls : Array Slot} {Q : State → Prop} {C S j : Nat} (K : lwK p l s m b L xs meth c A D cI cJ cC cG) (hP : va_P D vwCl (wLw cI cJ cC cG h9 hn ap ht h0 pc u x ad oa out m1) H) (hD : va_D A (wLw cI cJ cC cG h9 hn ap ht h0 pc u x ad oa out m1)) (hS : va_S A s.heap H locs) (hl : lv_has ls 9 (lw_lv b h9 (ad 0) oa j)) (hj : j + 4 ≤ L) (hL : L ≤ 2048) {r' : Int32} {m' : MT} (hf : C + 1 ≤ room_1.cells ∧ S + 6 ≤ room_1.slots) (h1 : XT_entering x (xs (j + 1)) = some "java/lang/IndexOutOfBoundsException") (h2 : MN_entering m1 (xs (j + 1)) = some (r', m')) (h3 : thr m' = 1) (kk : ∀ (H : Heap) (locs : List Loc) (ls : Array Slot), va_P D vwCl (wLw cI cJ cC cG h9 hn ap ht h0 pc u x ad oa out m') H → va_D A (wLw cI cJ cC cG h9 hn ap ht h0 pc u x ad oa out m') → va_S A s.heap H locs → lv_has ls 9 (lw_lv b h9 (ad 0) oa j) → W p l e room_1 s m #[Value.ref b] below meth c H locs (C + 1) (S + 6) Q (F0 m 2028 ls [])) : W p l e room_1 s m #[Value.ref b] below meth c H locs C S Q (F0 m 1849 ls []) := by
  have hl : lv_has ls 9 [(4, .int (lw_i j)), (3, .ref oa), (2, .ref (ad 0)), (1, .ref h9), (0, .ref b)] := hl
  refine lv_aload_n K.hx K.hb dL_law_1849 rfl (lv_at hl 3 rfl) ?_
  refine lw_arg1 K hS (lv_at hl 4 rfl) (lv_at hl 0 rfl) hj hL dL_law_1850 dL_law_1851 dL_law_1853 dL_law_1854 dL_law_1855 ?_
  refine lv_aload_n K.hx K.hb dL_law_1856 rfl (lv_at hl 1 rfl) ?_
  have hPc : va_P D vwCl (wX1 cI cJ cC cG h9 hn ap ht h0 pc u x oa out) _ := kp_l hP
  have hDc : va_D A (wX1 cI cJ cC cG h9 hn ap ht h0 pc u x oa out) := kd_l hD
  refine kj_x1 (k_rSWT (As := [.ref h9, .int (xs (j + 1)), .ref oa]) (rest := []) ⟨K.hx, K.hb, K.hml, K.hown, K.hts⟩ K.hK K.hN K.hq hS (kj_F hD hS K.hA) hPc hDc (zBT_entering_1 K.hst h1) (vx_cwSW (hh := [(0, 9, 12, 21)]) 3 K.hts gL_law_L_entering rfl rfl rfl (by decide +kernel) ⟨Nat.le_of_ble_eq_true rfl, Nat.le_of_ble_eq_true rfl⟩) rfl hl.1 rfl (Nat.le_of_ble_eq_true rfl) dL_law_1857 hf) hP hD hS K.hA (fun H locs hP hD hS => ?_)
  have hP : va_P D vwCl (wLw cI cJ cC cG h9 hn ap ht h0 pc u x ad oa out m1) H := hP
  have hD : va_D A (wLw cI cJ cC cG h9 hn ap ht h0 pc u x ad oa out m1) := hD
  refine lv_istore (lv' := [(5, .int 1), (4, .int (lw_i j)), (3, .ref oa), (2, .ref (ad 0)), (1, .ref h9), (0, .ref b)]) K.hx K.hb dL_law_1860 hl (by decide) rfl (fun ls hl => ?_)
  refine lv_aload_n K.hx K.hb dL_law_1862 rfl (lv_at hl 3 rfl) ?_
  refine lw_arg1 K hS (lv_at hl 5 rfl) (lv_at hl 1 rfl) hj hL dL_law_1863 dL_law_1864 dL_law_1866 dL_law_1867 dL_law_1868 ?_
  have hPc : va_P D vwCl (wMt cI cJ ad m1) _ := kp_r hP
  have hDc : va_D A (wMt cI cJ ad m1) := kd_r hD
  refine kj_i2 (k_rV (As := [.int (xs (j + 1))]) (rest := []) ⟨K.hx, K.hb, K.hml, K.hown, K.hts⟩ K.hK K.hN hPc hDc (zM_entering h2) (cwV 1 K.hts gL_law_X10_entering rfl rfl rfl (by decide +kernel) ⟨Nat.le_of_ble_eq_true rfl, Nat.le_of_ble_eq_true rfl⟩) rfl rfl rfl hl.1 rfl (Nat.le_of_ble_eq_true rfl) dL_law_1869 (lw_fit hf)) hP hD hS K.hA (fun H locs hP hD hS => ?_)
  have hP : va_P D vwCl (wLw cI cJ cC cG h9 hn ap ht h0 pc u x ad oa out m') H := hP
  have hD : va_D A (wLw cI cJ cC cG h9 hn ap ht h0 pc u x ad oa out m') := hD
  refine lv_istore (lv' := [(6, .int r'), (5, .int 1), (4, .int (lw_i j)), (3, .ref oa), (2, .ref (ad 0)), (1, .ref h9), (0, .ref b)]) K.hx K.hb dL_law_1872 hl (by decide) rfl (fun ls hl => ?_)
  refine lv_aload_n K.hx K.hb dL_law_1874 rfl (lv_at hl 4 rfl) ?_
  have hPc : va_P D vwCl (wMt cI cJ ad m') _ := kp_r hP
  have hDc : va_D A (wMt cI cJ ad m') := kd_r hD
  refine kj_i2 (k_rV (As := []) (rest := []) ⟨K.hx, K.hb, K.hml, K.hown, K.hts⟩ K.hK K.hN hPc hDc zM_thrown (cwV 0 K.hts gL_law_X10_thrown rfl rfl rfl (by decide +kernel) ⟨Nat.le_of_ble_eq_true rfl, Nat.le_of_ble_eq_true rfl⟩) rfl rfl rfl hl.1 rfl (Nat.le_of_ble_eq_true rfl) dL_law_1875 (lw_fit hf)) hP hD hS K.hA (fun H locs hP hD hS => ?_)
  have hP : va_P D vwCl (wLw cI cJ cC cG h9 hn ap ht h0 pc u x ad oa out m') H := hP
  have hD : va_D A (wLw cI cJ cC cG h9 hn ap ht h0 pc u x ad oa out m') := hD
  refine lv_iload K.hx K.hb dL_law_1878 (lv_at hl 1 rfl) ?_
  refine lv_icmp_eq (tgt := 1885) K.hx K.hb dL_law_1880 (by decide) (fun cc => ?_) (fun cc => absurd h3 cc)
  refine lv_iload K.hx K.hb dL_law_1885 (lv_at hl 1 rfl) ?_
  refine lv_if_ne (tgt := 1902) K.hx K.hb dL_law_1887 (by decide) (fun cc => ?_) (fun cc => absurd cc (by decide))
  refine lv_goto (tgt := 2028) K.hx K.hb dL_law_1902 (by decide) ?_
  exact kk H locs ls hP hD hS (lv_sub hl [2, 3, 4, 5, 6] rfl)
set_option maxHeartbeats 8000000 in
set_option maxRecDepth 100000 in
theorem wl_blotsBehind {p : Program} {l : Launch} {e : Env} {s : State} {m : MethodId} {b L : Nat} {xs : Nat → Int32} {below : List Frame} {meth : Method} {c : Code} {A : Nat → Prop} {D : va_G} {cI cJ cC cG : ClassId} {h9 hn h0 : Nat} {ap ht pc : Nat → Nat} {u : lwH} {x : XT} {m1 : MT} {ad : Nat → Nat} {oa : Nat} {out : Nat → Int64} {H : Heap} {locs : List Loc} {ls : Array Slot} {Q : State → Prop} {C S j : Nat} (K : lwK p l s m b L xs meth c A D cI cJ cC cG) (hP : va_P D vwCl (wLw cI cJ cC cG h9 hn ap ht h0 pc u x ad oa out m1) H) (hD : va_D A (wLw cI cJ cC cG h9 hn ap ht h0 pc u x ad oa out m1)) (hS : va_S A s.heap H locs) (hl : lv_has ls 9 (lw_lv b h9 (ad 0) oa j)) (hj : j + 4 ≤ L) (hL : L ≤ 2048) {r : Int32} {x' : XT} {r' : Int32} {m' : MT} (hf : C + 0 ≤ room_1.cells ∧ S + 0 ≤ room_1.slots) (h1 : XN_blotsBehind x (xs (j + 1)) (xs (j + 2)) = some (r, x')) (h2 : MN_blotsBehind m1 (xs (j + 1)) (xs (j + 2)) = some (r', m')) (h3 : thr m' = 0) (h4 : (Int32.toInt64 r) = Int32.toInt64 r') (kk : ∀ (u : lwH) (H : Heap) (locs : List Loc) (ls : Array Slot), va_P D vwCl (wLw cI cJ cC cG h9 hn ap ht h0 pc u x' ad oa (vp_updL out (Int32.toNatClampNeg 0) (Int32.toInt64 r)) m') H → va_D A (wLw cI cJ cC cG h9 hn ap ht h0 pc u x' ad oa (vp_updL out (Int32.toNatClampNeg 0) (Int32.toInt64 r)) m') → va_S A s.heap H locs → lv_has ls 9 (lw_lv b h9 (ad 0) oa j) → W p l e room_1 s m #[Value.ref b] below meth c H locs C S Q (F0 m 2028 ls [])) : W p l e room_1 s m #[Value.ref b] below meth c H locs C S Q (F0 m 1905 ls []) := by
  have hl : lv_has ls 9 [(4, .int (lw_i j)), (3, .ref oa), (2, .ref (ad 0)), (1, .ref h9), (0, .ref b)] := hl
  refine lv_aload_n K.hx K.hb dL_law_1905 rfl (lv_at hl 3 rfl) ?_
  refine lw_arg1 K hS (lv_at hl 4 rfl) (lv_at hl 0 rfl) hj hL dL_law_1906 dL_law_1907 dL_law_1909 dL_law_1910 dL_law_1911 ?_
  refine lw_arg2 K hS (lv_at hl 4 rfl) (lv_at hl 0 rfl) hj hL dL_law_1912 dL_law_1913 dL_law_1915 dL_law_1916 dL_law_1917 ?_
  refine lv_aload_n K.hx K.hb dL_law_1918 rfl (lv_at hl 1 rfl) ?_
  have hPc : va_P D vwCl (wX1 cI cJ cC cG h9 hn ap ht h0 pc u x oa out) _ := kp_l hP
  have hDc : va_D A (wX1 cI cJ cC cG h9 hn ap ht h0 pc u x oa out) := kd_l hD
  refine kj_i1 (k_rSW (As := [.ref h9, .int (xs (j + 1)), .int (xs (j + 2)), .ref oa]) (rest := []) ⟨K.hx, K.hb, K.hml, K.hown, K.hts⟩ K.hK K.hN hPc hDc (zB_blotsBehind h1) (vx_cwSW (hh := [(0, 10, 13, 21), (0, 10, 17, 13), (0, 10, 21, 15)]) 4 K.hts gL_law_L_blotsBehind rfl rfl rfl (by decide +kernel) ⟨Nat.le_of_ble_eq_true rfl, Nat.le_of_ble_eq_true rfl⟩) rfl hl.1 rfl (Nat.le_of_ble_eq_true rfl) dL_law_1919 hf) hP hD hS K.hA (fun u H locs hP hD hS => ?_)
  have hP : va_P D vwCl (wLw cI cJ cC cG h9 hn ap ht h0 pc u x' ad oa (vp_updL out (Int32.toNatClampNeg 0) (Int32.toInt64 r)) m1) H := hP
  have hD : va_D A (wLw cI cJ cC cG h9 hn ap ht h0 pc u x' ad oa (vp_updL out (Int32.toNatClampNeg 0) (Int32.toInt64 r)) m1) := hD
  refine lv_istore (lv' := [(5, .int 0), (4, .int (lw_i j)), (3, .ref oa), (2, .ref (ad 0)), (1, .ref h9), (0, .ref b)]) K.hx K.hb dL_law_1922 hl (by decide) rfl (fun ls hl => ?_)
  refine lv_aload_n K.hx K.hb dL_law_1924 rfl (lv_at hl 3 rfl) ?_
  refine lw_arg1 K hS (lv_at hl 5 rfl) (lv_at hl 1 rfl) hj hL dL_law_1925 dL_law_1926 dL_law_1928 dL_law_1929 dL_law_1930 ?_
  refine lw_arg2 K hS (lv_at hl 5 rfl) (lv_at hl 1 rfl) hj hL dL_law_1931 dL_law_1932 dL_law_1934 dL_law_1935 dL_law_1936 ?_
  have hPc : va_P D vwCl (wMt cI cJ ad m1) _ := kp_r hP
  have hDc : va_D A (wMt cI cJ ad m1) := kd_r hD
  refine kj_i2 (k_rV (As := [.int (xs (j + 1)), .int (xs (j + 2))]) (rest := []) ⟨K.hx, K.hb, K.hml, K.hown, K.hts⟩ K.hK K.hN hPc hDc (zM_blotsBehind h2) (cwV 2 K.hts gL_law_X10_blotsBehind rfl rfl rfl (by decide +kernel) ⟨Nat.le_of_ble_eq_true rfl, Nat.le_of_ble_eq_true rfl⟩) rfl rfl rfl hl.1 rfl (Nat.le_of_ble_eq_true rfl) dL_law_1937 hf) hP hD hS K.hA (fun H locs hP hD hS => ?_)
  have hP : va_P D vwCl (wLw cI cJ cC cG h9 hn ap ht h0 pc u x' ad oa (vp_updL out (Int32.toNatClampNeg 0) (Int32.toInt64 r)) m') H := hP
  have hD : va_D A (wLw cI cJ cC cG h9 hn ap ht h0 pc u x' ad oa (vp_updL out (Int32.toNatClampNeg 0) (Int32.toInt64 r)) m') := hD
  refine lv_istore (lv' := [(6, .int r'), (5, .int 0), (4, .int (lw_i j)), (3, .ref oa), (2, .ref (ad 0)), (1, .ref h9), (0, .ref b)]) K.hx K.hb dL_law_1940 hl (by decide) rfl (fun ls hl => ?_)
  refine lv_aload_n K.hx K.hb dL_law_1942 rfl (lv_at hl 4 rfl) ?_
  have hPc : va_P D vwCl (wMt cI cJ ad m') _ := kp_r hP
  have hDc : va_D A (wMt cI cJ ad m') := kd_r hD
  refine kj_i2 (k_rV (As := []) (rest := []) ⟨K.hx, K.hb, K.hml, K.hown, K.hts⟩ K.hK K.hN hPc hDc zM_thrown (cwV 0 K.hts gL_law_X10_thrown rfl rfl rfl (by decide +kernel) ⟨Nat.le_of_ble_eq_true rfl, Nat.le_of_ble_eq_true rfl⟩) rfl rfl rfl hl.1 rfl (Nat.le_of_ble_eq_true rfl) dL_law_1943 hf) hP hD hS K.hA (fun H locs hP hD hS => ?_)
  have hP : va_P D vwCl (wLw cI cJ cC cG h9 hn ap ht h0 pc u x' ad oa (vp_updL out (Int32.toNatClampNeg 0) (Int32.toInt64 r)) m') H := hP
  have hD : va_D A (wLw cI cJ cC cG h9 hn ap ht h0 pc u x' ad oa (vp_updL out (Int32.toNatClampNeg 0) (Int32.toInt64 r)) m') := hD
  refine lv_iload K.hx K.hb dL_law_1946 (lv_at hl 1 rfl) ?_
  refine lv_icmp_eq (tgt := 1953) K.hx K.hb dL_law_1948 (by decide) (fun cc => ?_) (fun cc => absurd h3 cc)
  refine lv_iload K.hx K.hb dL_law_1953 (lv_at hl 1 rfl) ?_
  refine lv_if_ne (tgt := 1970) K.hx K.hb dL_law_1955 (by decide) (fun cc => absurd rfl cc) (fun cc => ?_)
  refine lv_aload_n K.hx K.hb dL_law_1958 rfl (lv_at hl 3 rfl) ?_
  refine lv_iconst (v := 0) K.hx K.hb dL_law_1959 (by decide) ?_
  refine va_lald K.hx K.hb K.hK hP 25 1 rfl rfl kv_01 dL_law_1960 ?_
  refine W.eq (g2 := F0 m 1961 _ (.long (Int32.toInt64 r) :: [])) (by rw [lw_out]) ?_
  refine lv_iload K.hx K.hb dL_law_1961 (lv_at hl 0 rfl) ?_
  refine lv_i2l (v := Int32.toInt64 r') K.hx K.hb dL_law_1963 rfl ?_
  refine W.lcmp K.hx K.hb dL_law_1964 ?_
  refine lv_if_eq (tgt := 1970) K.hx K.hb dL_law_1965 (by decide) (fun cc => ?_) (fun cc => absurd (lw_ceq h4) cc)
  refine lv_goto (tgt := 2028) K.hx K.hb dL_law_1970 (by decide) ?_
  exact kk u H locs ls hP hD hS (lv_sub hl [2, 3, 4, 5, 6] rfl)
set_option maxHeartbeats 8000000 in
set_option maxRecDepth 100000 in
theorem wlT_blotsBehind_1 {p : Program} {l : Launch} {e : Env} {s : State} {m : MethodId} {b L : Nat} {xs : Nat → Int32} {below : List Frame} {meth : Method} {c : Code} {A : Nat → Prop} {D : va_G} {cI cJ cC cG : ClassId} {h9 hn h0 : Nat} {ap ht pc : Nat → Nat} {u : lwH} {x : XT} {m1 : MT} {ad : Nat → Nat} {oa : Nat} {out : Nat → Int64} {H : Heap} {locs : List Loc} {ls : Array Slot} {Q : State → Prop} {C S j : Nat} (K : lwK p l s m b L xs meth c A D cI cJ cC cG) (hP : va_P D vwCl (wLw cI cJ cC cG h9 hn ap ht h0 pc u x ad oa out m1) H) (hD : va_D A (wLw cI cJ cC cG h9 hn ap ht h0 pc u x ad oa out m1)) (hS : va_S A s.heap H locs) (hl : lv_has ls 9 (lw_lv b h9 (ad 0) oa j)) (hj : j + 4 ≤ L) (hL : L ≤ 2048) {r' : Int32} {m' : MT} (hf : C + 1 ≤ room_1.cells ∧ S + 6 ≤ room_1.slots) (h1 : XT_blotsBehind x (xs (j + 1)) (xs (j + 2)) = some "java/lang/IndexOutOfBoundsException") (h2 : MN_blotsBehind m1 (xs (j + 1)) (xs (j + 2)) = some (r', m')) (h3 : thr m' = 1) (kk : ∀ (H : Heap) (locs : List Loc) (ls : Array Slot), va_P D vwCl (wLw cI cJ cC cG h9 hn ap ht h0 pc u x ad oa out m') H → va_D A (wLw cI cJ cC cG h9 hn ap ht h0 pc u x ad oa out m') → va_S A s.heap H locs → lv_has ls 9 (lw_lv b h9 (ad 0) oa j) → W p l e room_1 s m #[Value.ref b] below meth c H locs (C + 1) (S + 6) Q (F0 m 2028 ls [])) : W p l e room_1 s m #[Value.ref b] below meth c H locs C S Q (F0 m 1905 ls []) := by
  have hl : lv_has ls 9 [(4, .int (lw_i j)), (3, .ref oa), (2, .ref (ad 0)), (1, .ref h9), (0, .ref b)] := hl
  refine lv_aload_n K.hx K.hb dL_law_1905 rfl (lv_at hl 3 rfl) ?_
  refine lw_arg1 K hS (lv_at hl 4 rfl) (lv_at hl 0 rfl) hj hL dL_law_1906 dL_law_1907 dL_law_1909 dL_law_1910 dL_law_1911 ?_
  refine lw_arg2 K hS (lv_at hl 4 rfl) (lv_at hl 0 rfl) hj hL dL_law_1912 dL_law_1913 dL_law_1915 dL_law_1916 dL_law_1917 ?_
  refine lv_aload_n K.hx K.hb dL_law_1918 rfl (lv_at hl 1 rfl) ?_
  have hPc : va_P D vwCl (wX1 cI cJ cC cG h9 hn ap ht h0 pc u x oa out) _ := kp_l hP
  have hDc : va_D A (wX1 cI cJ cC cG h9 hn ap ht h0 pc u x oa out) := kd_l hD
  refine kj_x1 (k_rSWT (As := [.ref h9, .int (xs (j + 1)), .int (xs (j + 2)), .ref oa]) (rest := []) ⟨K.hx, K.hb, K.hml, K.hown, K.hts⟩ K.hK K.hN K.hq hS (kj_F hD hS K.hA) hPc hDc (zBT_blotsBehind_1 K.hst h1) (vx_cwSW (hh := [(0, 10, 13, 21), (0, 10, 17, 13), (0, 10, 21, 15)]) 4 K.hts gL_law_L_blotsBehind rfl rfl rfl (by decide +kernel) ⟨Nat.le_of_ble_eq_true rfl, Nat.le_of_ble_eq_true rfl⟩) rfl hl.1 rfl (Nat.le_of_ble_eq_true rfl) dL_law_1919 hf) hP hD hS K.hA (fun H locs hP hD hS => ?_)
  have hP : va_P D vwCl (wLw cI cJ cC cG h9 hn ap ht h0 pc u x ad oa out m1) H := hP
  have hD : va_D A (wLw cI cJ cC cG h9 hn ap ht h0 pc u x ad oa out m1) := hD
  refine lv_istore (lv' := [(5, .int 1), (4, .int (lw_i j)), (3, .ref oa), (2, .ref (ad 0)), (1, .ref h9), (0, .ref b)]) K.hx K.hb dL_law_1922 hl (by decide) rfl (fun ls hl => ?_)
  refine lv_aload_n K.hx K.hb dL_law_1924 rfl (lv_at hl 3 rfl) ?_
  refine lw_arg1 K hS (lv_at hl 5 rfl) (lv_at hl 1 rfl) hj hL dL_law_1925 dL_law_1926 dL_law_1928 dL_law_1929 dL_law_1930 ?_
  refine lw_arg2 K hS (lv_at hl 5 rfl) (lv_at hl 1 rfl) hj hL dL_law_1931 dL_law_1932 dL_law_1934 dL_law_1935 dL_law_1936 ?_
  have hPc : va_P D vwCl (wMt cI cJ ad m1) _ := kp_r hP
  have hDc : va_D A (wMt cI cJ ad m1) := kd_r hD
  refine kj_i2 (k_rV (As := [.int (xs (j + 1)), .int (xs (j + 2))]) (rest := []) ⟨K.hx, K.hb, K.hml, K.hown, K.hts⟩ K.hK K.hN hPc hDc (zM_blotsBehind h2) (cwV 2 K.hts gL_law_X10_blotsBehind rfl rfl rfl (by decide +kernel) ⟨Nat.le_of_ble_eq_true rfl, Nat.le_of_ble_eq_true rfl⟩) rfl rfl rfl hl.1 rfl (Nat.le_of_ble_eq_true rfl) dL_law_1937 (lw_fit hf)) hP hD hS K.hA (fun H locs hP hD hS => ?_)
  have hP : va_P D vwCl (wLw cI cJ cC cG h9 hn ap ht h0 pc u x ad oa out m') H := hP
  have hD : va_D A (wLw cI cJ cC cG h9 hn ap ht h0 pc u x ad oa out m') := hD
  refine lv_istore (lv' := [(6, .int r'), (5, .int 1), (4, .int (lw_i j)), (3, .ref oa), (2, .ref (ad 0)), (1, .ref h9), (0, .ref b)]) K.hx K.hb dL_law_1940 hl (by decide) rfl (fun ls hl => ?_)
  refine lv_aload_n K.hx K.hb dL_law_1942 rfl (lv_at hl 4 rfl) ?_
  have hPc : va_P D vwCl (wMt cI cJ ad m') _ := kp_r hP
  have hDc : va_D A (wMt cI cJ ad m') := kd_r hD
  refine kj_i2 (k_rV (As := []) (rest := []) ⟨K.hx, K.hb, K.hml, K.hown, K.hts⟩ K.hK K.hN hPc hDc zM_thrown (cwV 0 K.hts gL_law_X10_thrown rfl rfl rfl (by decide +kernel) ⟨Nat.le_of_ble_eq_true rfl, Nat.le_of_ble_eq_true rfl⟩) rfl rfl rfl hl.1 rfl (Nat.le_of_ble_eq_true rfl) dL_law_1943 (lw_fit hf)) hP hD hS K.hA (fun H locs hP hD hS => ?_)
  have hP : va_P D vwCl (wLw cI cJ cC cG h9 hn ap ht h0 pc u x ad oa out m') H := hP
  have hD : va_D A (wLw cI cJ cC cG h9 hn ap ht h0 pc u x ad oa out m') := hD
  refine lv_iload K.hx K.hb dL_law_1946 (lv_at hl 1 rfl) ?_
  refine lv_icmp_eq (tgt := 1953) K.hx K.hb dL_law_1948 (by decide) (fun cc => ?_) (fun cc => absurd h3 cc)
  refine lv_iload K.hx K.hb dL_law_1953 (lv_at hl 1 rfl) ?_
  refine lv_if_ne (tgt := 1970) K.hx K.hb dL_law_1955 (by decide) (fun cc => ?_) (fun cc => absurd cc (by decide))
  refine lv_goto (tgt := 2028) K.hx K.hb dL_law_1970 (by decide) ?_
  exact kk H locs ls hP hD hS (lv_sub hl [2, 3, 4, 5, 6] rfl)
set_option maxHeartbeats 8000000 in
set_option maxRecDepth 100000 in
theorem wlT_blotsBehind_2 {p : Program} {l : Launch} {e : Env} {s : State} {m : MethodId} {b L : Nat} {xs : Nat → Int32} {below : List Frame} {meth : Method} {c : Code} {A : Nat → Prop} {D : va_G} {cI cJ cC cG : ClassId} {h9 hn h0 : Nat} {ap ht pc : Nat → Nat} {u : lwH} {x : XT} {m1 : MT} {ad : Nat → Nat} {oa : Nat} {out : Nat → Int64} {H : Heap} {locs : List Loc} {ls : Array Slot} {Q : State → Prop} {C S j : Nat} (K : lwK p l s m b L xs meth c A D cI cJ cC cG) (hP : va_P D vwCl (wLw cI cJ cC cG h9 hn ap ht h0 pc u x ad oa out m1) H) (hD : va_D A (wLw cI cJ cC cG h9 hn ap ht h0 pc u x ad oa out m1)) (hS : va_S A s.heap H locs) (hl : lv_has ls 9 (lw_lv b h9 (ad 0) oa j)) (hj : j + 4 ≤ L) (hL : L ≤ 2048) {r' : Int32} {m' : MT} (hf : C + 1 ≤ room_1.cells ∧ S + 6 ≤ room_1.slots) (h1 : XT_blotsBehind x (xs (j + 1)) (xs (j + 2)) = some "java/lang/IllegalArgumentException") (h2 : MN_blotsBehind m1 (xs (j + 1)) (xs (j + 2)) = some (r', m')) (h3 : thr m' = 2) (kk : ∀ (H : Heap) (locs : List Loc) (ls : Array Slot), va_P D vwCl (wLw cI cJ cC cG h9 hn ap ht h0 pc u x ad oa out m') H → va_D A (wLw cI cJ cC cG h9 hn ap ht h0 pc u x ad oa out m') → va_S A s.heap H locs → lv_has ls 9 (lw_lv b h9 (ad 0) oa j) → W p l e room_1 s m #[Value.ref b] below meth c H locs (C + 1) (S + 6) Q (F0 m 2028 ls [])) : W p l e room_1 s m #[Value.ref b] below meth c H locs C S Q (F0 m 1905 ls []) := by
  have hl : lv_has ls 9 [(4, .int (lw_i j)), (3, .ref oa), (2, .ref (ad 0)), (1, .ref h9), (0, .ref b)] := hl
  refine lv_aload_n K.hx K.hb dL_law_1905 rfl (lv_at hl 3 rfl) ?_
  refine lw_arg1 K hS (lv_at hl 4 rfl) (lv_at hl 0 rfl) hj hL dL_law_1906 dL_law_1907 dL_law_1909 dL_law_1910 dL_law_1911 ?_
  refine lw_arg2 K hS (lv_at hl 4 rfl) (lv_at hl 0 rfl) hj hL dL_law_1912 dL_law_1913 dL_law_1915 dL_law_1916 dL_law_1917 ?_
  refine lv_aload_n K.hx K.hb dL_law_1918 rfl (lv_at hl 1 rfl) ?_
  have hPc : va_P D vwCl (wX1 cI cJ cC cG h9 hn ap ht h0 pc u x oa out) _ := kp_l hP
  have hDc : va_D A (wX1 cI cJ cC cG h9 hn ap ht h0 pc u x oa out) := kd_l hD
  refine kj_x1 (k_rSWT (As := [.ref h9, .int (xs (j + 1)), .int (xs (j + 2)), .ref oa]) (rest := []) ⟨K.hx, K.hb, K.hml, K.hown, K.hts⟩ K.hK K.hN K.hq hS (kj_F hD hS K.hA) hPc hDc (zBT_blotsBehind_2 K.hst h1) (vx_cwSW (hh := [(0, 10, 13, 21), (0, 10, 17, 13), (0, 10, 21, 15)]) 4 K.hts gL_law_L_blotsBehind rfl rfl rfl (by decide +kernel) ⟨Nat.le_of_ble_eq_true rfl, Nat.le_of_ble_eq_true rfl⟩) rfl hl.1 rfl (Nat.le_of_ble_eq_true rfl) dL_law_1919 hf) hP hD hS K.hA (fun H locs hP hD hS => ?_)
  have hP : va_P D vwCl (wLw cI cJ cC cG h9 hn ap ht h0 pc u x ad oa out m1) H := hP
  have hD : va_D A (wLw cI cJ cC cG h9 hn ap ht h0 pc u x ad oa out m1) := hD
  refine lv_istore (lv' := [(5, .int 2), (4, .int (lw_i j)), (3, .ref oa), (2, .ref (ad 0)), (1, .ref h9), (0, .ref b)]) K.hx K.hb dL_law_1922 hl (by decide) rfl (fun ls hl => ?_)
  refine lv_aload_n K.hx K.hb dL_law_1924 rfl (lv_at hl 3 rfl) ?_
  refine lw_arg1 K hS (lv_at hl 5 rfl) (lv_at hl 1 rfl) hj hL dL_law_1925 dL_law_1926 dL_law_1928 dL_law_1929 dL_law_1930 ?_
  refine lw_arg2 K hS (lv_at hl 5 rfl) (lv_at hl 1 rfl) hj hL dL_law_1931 dL_law_1932 dL_law_1934 dL_law_1935 dL_law_1936 ?_
  have hPc : va_P D vwCl (wMt cI cJ ad m1) _ := kp_r hP
  have hDc : va_D A (wMt cI cJ ad m1) := kd_r hD
  refine kj_i2 (k_rV (As := [.int (xs (j + 1)), .int (xs (j + 2))]) (rest := []) ⟨K.hx, K.hb, K.hml, K.hown, K.hts⟩ K.hK K.hN hPc hDc (zM_blotsBehind h2) (cwV 2 K.hts gL_law_X10_blotsBehind rfl rfl rfl (by decide +kernel) ⟨Nat.le_of_ble_eq_true rfl, Nat.le_of_ble_eq_true rfl⟩) rfl rfl rfl hl.1 rfl (Nat.le_of_ble_eq_true rfl) dL_law_1937 (lw_fit hf)) hP hD hS K.hA (fun H locs hP hD hS => ?_)
  have hP : va_P D vwCl (wLw cI cJ cC cG h9 hn ap ht h0 pc u x ad oa out m') H := hP
  have hD : va_D A (wLw cI cJ cC cG h9 hn ap ht h0 pc u x ad oa out m') := hD
  refine lv_istore (lv' := [(6, .int r'), (5, .int 2), (4, .int (lw_i j)), (3, .ref oa), (2, .ref (ad 0)), (1, .ref h9), (0, .ref b)]) K.hx K.hb dL_law_1940 hl (by decide) rfl (fun ls hl => ?_)
  refine lv_aload_n K.hx K.hb dL_law_1942 rfl (lv_at hl 4 rfl) ?_
  have hPc : va_P D vwCl (wMt cI cJ ad m') _ := kp_r hP
  have hDc : va_D A (wMt cI cJ ad m') := kd_r hD
  refine kj_i2 (k_rV (As := []) (rest := []) ⟨K.hx, K.hb, K.hml, K.hown, K.hts⟩ K.hK K.hN hPc hDc zM_thrown (cwV 0 K.hts gL_law_X10_thrown rfl rfl rfl (by decide +kernel) ⟨Nat.le_of_ble_eq_true rfl, Nat.le_of_ble_eq_true rfl⟩) rfl rfl rfl hl.1 rfl (Nat.le_of_ble_eq_true rfl) dL_law_1943 (lw_fit hf)) hP hD hS K.hA (fun H locs hP hD hS => ?_)
  have hP : va_P D vwCl (wLw cI cJ cC cG h9 hn ap ht h0 pc u x ad oa out m') H := hP
  have hD : va_D A (wLw cI cJ cC cG h9 hn ap ht h0 pc u x ad oa out m') := hD
  refine lv_iload K.hx K.hb dL_law_1946 (lv_at hl 1 rfl) ?_
  refine lv_icmp_eq (tgt := 1953) K.hx K.hb dL_law_1948 (by decide) (fun cc => ?_) (fun cc => absurd h3 cc)
  refine lv_iload K.hx K.hb dL_law_1953 (lv_at hl 1 rfl) ?_
  refine lv_if_ne (tgt := 1970) K.hx K.hb dL_law_1955 (by decide) (fun cc => ?_) (fun cc => absurd cc (by decide))
  refine lv_goto (tgt := 2028) K.hx K.hb dL_law_1970 (by decide) ?_
  exact kk H locs ls hP hD hS (lv_sub hl [2, 3, 4, 5, 6] rfl)
set_option maxHeartbeats 8000000 in
set_option maxRecDepth 100000 in
theorem wlT_blotsBehind_3 {p : Program} {l : Launch} {e : Env} {s : State} {m : MethodId} {b L : Nat} {xs : Nat → Int32} {below : List Frame} {meth : Method} {c : Code} {A : Nat → Prop} {D : va_G} {cI cJ cC cG : ClassId} {h9 hn h0 : Nat} {ap ht pc : Nat → Nat} {u : lwH} {x : XT} {m1 : MT} {ad : Nat → Nat} {oa : Nat} {out : Nat → Int64} {H : Heap} {locs : List Loc} {ls : Array Slot} {Q : State → Prop} {C S j : Nat} (K : lwK p l s m b L xs meth c A D cI cJ cC cG) (hP : va_P D vwCl (wLw cI cJ cC cG h9 hn ap ht h0 pc u x ad oa out m1) H) (hD : va_D A (wLw cI cJ cC cG h9 hn ap ht h0 pc u x ad oa out m1)) (hS : va_S A s.heap H locs) (hl : lv_has ls 9 (lw_lv b h9 (ad 0) oa j)) (hj : j + 4 ≤ L) (hL : L ≤ 2048) {r' : Int32} {m' : MT} (hf : C + 1 ≤ room_1.cells ∧ S + 6 ≤ room_1.slots) (h1 : XT_blotsBehind x (xs (j + 1)) (xs (j + 2)) = some "java/lang/IllegalStateException") (h2 : MN_blotsBehind m1 (xs (j + 1)) (xs (j + 2)) = some (r', m')) (h3 : thr m' = 3) (kk : ∀ (H : Heap) (locs : List Loc) (ls : Array Slot), va_P D vwCl (wLw cI cJ cC cG h9 hn ap ht h0 pc u x ad oa out m') H → va_D A (wLw cI cJ cC cG h9 hn ap ht h0 pc u x ad oa out m') → va_S A s.heap H locs → lv_has ls 9 (lw_lv b h9 (ad 0) oa j) → W p l e room_1 s m #[Value.ref b] below meth c H locs (C + 1) (S + 6) Q (F0 m 2028 ls [])) : W p l e room_1 s m #[Value.ref b] below meth c H locs C S Q (F0 m 1905 ls []) := by
  have hl : lv_has ls 9 [(4, .int (lw_i j)), (3, .ref oa), (2, .ref (ad 0)), (1, .ref h9), (0, .ref b)] := hl
  refine lv_aload_n K.hx K.hb dL_law_1905 rfl (lv_at hl 3 rfl) ?_
  refine lw_arg1 K hS (lv_at hl 4 rfl) (lv_at hl 0 rfl) hj hL dL_law_1906 dL_law_1907 dL_law_1909 dL_law_1910 dL_law_1911 ?_
  refine lw_arg2 K hS (lv_at hl 4 rfl) (lv_at hl 0 rfl) hj hL dL_law_1912 dL_law_1913 dL_law_1915 dL_law_1916 dL_law_1917 ?_
  refine lv_aload_n K.hx K.hb dL_law_1918 rfl (lv_at hl 1 rfl) ?_
  have hPc : va_P D vwCl (wX1 cI cJ cC cG h9 hn ap ht h0 pc u x oa out) _ := kp_l hP
  have hDc : va_D A (wX1 cI cJ cC cG h9 hn ap ht h0 pc u x oa out) := kd_l hD
  refine kj_x1 (k_rSWT (As := [.ref h9, .int (xs (j + 1)), .int (xs (j + 2)), .ref oa]) (rest := []) ⟨K.hx, K.hb, K.hml, K.hown, K.hts⟩ K.hK K.hN K.hq hS (kj_F hD hS K.hA) hPc hDc (zBT_blotsBehind_3 K.hst h1) (vx_cwSW (hh := [(0, 10, 13, 21), (0, 10, 17, 13), (0, 10, 21, 15)]) 4 K.hts gL_law_L_blotsBehind rfl rfl rfl (by decide +kernel) ⟨Nat.le_of_ble_eq_true rfl, Nat.le_of_ble_eq_true rfl⟩) rfl hl.1 rfl (Nat.le_of_ble_eq_true rfl) dL_law_1919 hf) hP hD hS K.hA (fun H locs hP hD hS => ?_)
  have hP : va_P D vwCl (wLw cI cJ cC cG h9 hn ap ht h0 pc u x ad oa out m1) H := hP
  have hD : va_D A (wLw cI cJ cC cG h9 hn ap ht h0 pc u x ad oa out m1) := hD
  refine lv_istore (lv' := [(5, .int 3), (4, .int (lw_i j)), (3, .ref oa), (2, .ref (ad 0)), (1, .ref h9), (0, .ref b)]) K.hx K.hb dL_law_1922 hl (by decide) rfl (fun ls hl => ?_)
  refine lv_aload_n K.hx K.hb dL_law_1924 rfl (lv_at hl 3 rfl) ?_
  refine lw_arg1 K hS (lv_at hl 5 rfl) (lv_at hl 1 rfl) hj hL dL_law_1925 dL_law_1926 dL_law_1928 dL_law_1929 dL_law_1930 ?_
  refine lw_arg2 K hS (lv_at hl 5 rfl) (lv_at hl 1 rfl) hj hL dL_law_1931 dL_law_1932 dL_law_1934 dL_law_1935 dL_law_1936 ?_
  have hPc : va_P D vwCl (wMt cI cJ ad m1) _ := kp_r hP
  have hDc : va_D A (wMt cI cJ ad m1) := kd_r hD
  refine kj_i2 (k_rV (As := [.int (xs (j + 1)), .int (xs (j + 2))]) (rest := []) ⟨K.hx, K.hb, K.hml, K.hown, K.hts⟩ K.hK K.hN hPc hDc (zM_blotsBehind h2) (cwV 2 K.hts gL_law_X10_blotsBehind rfl rfl rfl (by decide +kernel) ⟨Nat.le_of_ble_eq_true rfl, Nat.le_of_ble_eq_true rfl⟩) rfl rfl rfl hl.1 rfl (Nat.le_of_ble_eq_true rfl) dL_law_1937 (lw_fit hf)) hP hD hS K.hA (fun H locs hP hD hS => ?_)
  have hP : va_P D vwCl (wLw cI cJ cC cG h9 hn ap ht h0 pc u x ad oa out m') H := hP
  have hD : va_D A (wLw cI cJ cC cG h9 hn ap ht h0 pc u x ad oa out m') := hD
  refine lv_istore (lv' := [(6, .int r'), (5, .int 3), (4, .int (lw_i j)), (3, .ref oa), (2, .ref (ad 0)), (1, .ref h9), (0, .ref b)]) K.hx K.hb dL_law_1940 hl (by decide) rfl (fun ls hl => ?_)
  refine lv_aload_n K.hx K.hb dL_law_1942 rfl (lv_at hl 4 rfl) ?_
  have hPc : va_P D vwCl (wMt cI cJ ad m') _ := kp_r hP
  have hDc : va_D A (wMt cI cJ ad m') := kd_r hD
  refine kj_i2 (k_rV (As := []) (rest := []) ⟨K.hx, K.hb, K.hml, K.hown, K.hts⟩ K.hK K.hN hPc hDc zM_thrown (cwV 0 K.hts gL_law_X10_thrown rfl rfl rfl (by decide +kernel) ⟨Nat.le_of_ble_eq_true rfl, Nat.le_of_ble_eq_true rfl⟩) rfl rfl rfl hl.1 rfl (Nat.le_of_ble_eq_true rfl) dL_law_1943 (lw_fit hf)) hP hD hS K.hA (fun H locs hP hD hS => ?_)
  have hP : va_P D vwCl (wLw cI cJ cC cG h9 hn ap ht h0 pc u x ad oa out m') H := hP
  have hD : va_D A (wLw cI cJ cC cG h9 hn ap ht h0 pc u x ad oa out m') := hD
  refine lv_iload K.hx K.hb dL_law_1946 (lv_at hl 1 rfl) ?_
  refine lv_icmp_eq (tgt := 1953) K.hx K.hb dL_law_1948 (by decide) (fun cc => ?_) (fun cc => absurd h3 cc)
  refine lv_iload K.hx K.hb dL_law_1953 (lv_at hl 1 rfl) ?_
  refine lv_if_ne (tgt := 1970) K.hx K.hb dL_law_1955 (by decide) (fun cc => ?_) (fun cc => absurd cc (by decide))
  refine lv_goto (tgt := 2028) K.hx K.hb dL_law_1970 (by decide) ?_
  exact kk H locs ls hP hD hS (lv_sub hl [2, 3, 4, 5, 6] rfl)
set_option maxHeartbeats 8000000 in
set_option maxRecDepth 100000 in
theorem wl_lead {p : Program} {l : Launch} {e : Env} {s : State} {m : MethodId} {b L : Nat} {xs : Nat → Int32} {below : List Frame} {meth : Method} {c : Code} {A : Nat → Prop} {D : va_G} {cI cJ cC cG : ClassId} {h9 hn h0 : Nat} {ap ht pc : Nat → Nat} {u : lwH} {x : XT} {m1 : MT} {ad : Nat → Nat} {oa : Nat} {out : Nat → Int64} {H : Heap} {locs : List Loc} {ls : Array Slot} {Q : State → Prop} {C S j : Nat} (K : lwK p l s m b L xs meth c A D cI cJ cC cG) (hP : va_P D vwCl (wLw cI cJ cC cG h9 hn ap ht h0 pc u x ad oa out m1) H) (hD : va_D A (wLw cI cJ cC cG h9 hn ap ht h0 pc u x ad oa out m1)) (hS : va_S A s.heap H locs) (hl : lv_has ls 9 (lw_lv b h9 (ad 0) oa j)) (hj : j + 4 ≤ L) (hL : L ≤ 2048) {r : UInt64} {x' : XT} {r' : UInt64} {m' : MT} (hf : C + 0 ≤ room_1.cells ∧ S + 0 ≤ room_1.slots) (h1 : XN_lead x = some (r, x')) (h2 : MN_lead m1 = some (r', m')) (h4 : Op.cmpValue (FP.dcmp r r') CmpOp.l = 0) (kk : ∀ (u : lwH) (H : Heap) (locs : List Loc) (ls : Array Slot), va_P D vwCl (wLw cI cJ cC cG h9 hn ap ht h0 pc u x' ad oa out m') H → va_D A (wLw cI cJ cC cG h9 hn ap ht h0 pc u x' ad oa out m') → va_S A s.heap H locs → lv_has ls 9 (lw_lv b h9 (ad 0) oa j) → W p l e room_1 s m #[Value.ref b] below meth c H locs C S Q (F0 m 2028 ls [])) : W p l e room_1 s m #[Value.ref b] below meth c H locs C S Q (F0 m 1973 ls []) := by
  have hl : lv_has ls 9 [(4, .int (lw_i j)), (3, .ref oa), (2, .ref (ad 0)), (1, .ref h9), (0, .ref b)] := hl
  refine lv_aload_n K.hx K.hb dL_law_1973 rfl (lv_at hl 3 rfl) ?_
  have hP := kp_a hP
  have hD := kd_a hD
  have hPc : va_P D vwCl (wXt cI cJ cC cG h9 hn ap (u.1) ht h0 (u.2.1) (u.2.2.1) pc (u.2.2.2) x) _ := kp_l hP
  have hDc : va_D A (wXt cI cJ cC cG h9 hn ap (u.1) ht h0 (u.2.1) (u.2.2.1) pc (u.2.2.2) x) := kd_l hD
  refine kj_d1 (k_rV (As := []) (rest := []) ⟨K.hx, K.hb, K.hml, K.hown, K.hts⟩ K.hK K.hN hPc hDc (zB_lead h1) (cwV 0 K.hts gL_law_X9_lead rfl rfl rfl (by decide +kernel) ⟨Nat.le_of_ble_eq_true rfl, Nat.le_of_ble_eq_true rfl⟩) rfl rfl rfl hl.1 rfl (Nat.le_of_ble_eq_true rfl) dL_law_1974 hf) hP hD hS K.hA (fun u H locs hP hD hS => ?_)
  have hP : va_P D vwCl (wLw cI cJ cC cG h9 hn ap ht h0 pc u x' ad oa out m1) H := kp_b hP
  have hD : va_D A (wLw cI cJ cC cG h9 hn ap ht h0 pc u x' ad oa out m1) := kd_b hD
  refine lv_dstore (lv' := [(5, .double r), (4, .int (lw_i j)), (3, .ref oa), (2, .ref (ad 0)), (1, .ref h9), (0, .ref b)]) K.hx K.hb dL_law_1977 hl (by decide) rfl (fun ls hl => ?_)
  refine lv_aload_n K.hx K.hb dL_law_1979 rfl (lv_at hl 3 rfl) ?_
  have hPc : va_P D vwCl (wMt cI cJ ad m1) _ := kp_r hP
  have hDc : va_D A (wMt cI cJ ad m1) := kd_r hD
  refine kj_d2 (k_rV (As := []) (rest := []) ⟨K.hx, K.hb, K.hml, K.hown, K.hts⟩ K.hK K.hN hPc hDc (zM_lead h2) (cwV 0 K.hts gL_law_X10_lead rfl rfl rfl (by decide +kernel) ⟨Nat.le_of_ble_eq_true rfl, Nat.le_of_ble_eq_true rfl⟩) rfl rfl rfl hl.1 rfl (Nat.le_of_ble_eq_true rfl) dL_law_1980 hf) hP hD hS K.hA (fun H locs hP hD hS => ?_)
  have hP : va_P D vwCl (wLw cI cJ cC cG h9 hn ap ht h0 pc u x' ad oa out m') H := hP
  have hD : va_D A (wLw cI cJ cC cG h9 hn ap ht h0 pc u x' ad oa out m') := hD
  refine lv_dstore (lv' := [(7, .double r'), (5, .double r), (4, .int (lw_i j)), (3, .ref oa), (2, .ref (ad 0)), (1, .ref h9), (0, .ref b)]) K.hx K.hb dL_law_1983 hl (by decide) rfl (fun ls hl => ?_)
  refine lv_dload K.hx K.hb dL_law_1985 (lv_at hl 1 rfl) ?_
  refine lv_dload K.hx K.hb dL_law_1987 (lv_at hl 0 rfl) ?_
  refine lv_dcmp K.hx K.hb dL_law_1989 ?_
  refine lv_if_eq (tgt := 2011) K.hx K.hb dL_law_1990 (by decide) (fun cc => ?_) (fun cc => absurd h4 cc)
  refine lv_goto (tgt := 2028) K.hx K.hb dL_law_2011 (by decide) ?_
  exact kk u H locs ls hP hD hS (lv_sub hl [2, 3, 4, 5, 6] rfl)
set_option maxHeartbeats 8000000 in
set_option maxRecDepth 100000 in
theorem wl_digest {p : Program} {l : Launch} {e : Env} {s : State} {m : MethodId} {b L : Nat} {xs : Nat → Int32} {below : List Frame} {meth : Method} {c : Code} {A : Nat → Prop} {D : va_G} {cI cJ cC cG : ClassId} {h9 hn h0 : Nat} {ap ht pc : Nat → Nat} {u : lwH} {x : XT} {m1 : MT} {ad : Nat → Nat} {oa : Nat} {out : Nat → Int64} {H : Heap} {locs : List Loc} {ls : Array Slot} {Q : State → Prop} {C S j : Nat} (K : lwK p l s m b L xs meth c A D cI cJ cC cG) (hP : va_P D vwCl (wLw cI cJ cC cG h9 hn ap ht h0 pc u x ad oa out m1) H) (hD : va_D A (wLw cI cJ cC cG h9 hn ap ht h0 pc u x ad oa out m1)) (hS : va_S A s.heap H locs) (hl : lv_has ls 9 (lw_lv b h9 (ad 0) oa j)) (hj : j + 4 ≤ L) (hL : L ≤ 2048) {r : Int64} {x' : XT} {r' : Int64} {m' : MT} (hf : C + 0 ≤ room_1.cells ∧ S + 0 ≤ room_1.slots) (h1 : XN_digest x = some (r, x')) (h2 : MN_digest m1 = some (r', m')) (h4 : r = r') (kk : ∀ (u : lwH) (H : Heap) (locs : List Loc) (ls : Array Slot), va_P D vwCl (wLw cI cJ cC cG h9 hn ap ht h0 pc u x' ad oa out m') H → va_D A (wLw cI cJ cC cG h9 hn ap ht h0 pc u x' ad oa out m') → va_S A s.heap H locs → lv_has ls 9 (lw_lv b h9 (ad 0) oa j) → W p l e room_1 s m #[Value.ref b] below meth c H locs C S Q (F0 m 2028 ls [])) : W p l e room_1 s m #[Value.ref b] below meth c H locs C S Q (F0 m 2014 ls []) := by
  have hl : lv_has ls 9 [(4, .int (lw_i j)), (3, .ref oa), (2, .ref (ad 0)), (1, .ref h9), (0, .ref b)] := hl
  refine lv_aload_n K.hx K.hb dL_law_2014 rfl (lv_at hl 3 rfl) ?_
  have hP := kp_a hP
  have hD := kd_a hD
  have hPc : va_P D vwCl (wXt cI cJ cC cG h9 hn ap (u.1) ht h0 (u.2.1) (u.2.2.1) pc (u.2.2.2) x) _ := kp_l hP
  have hDc : va_D A (wXt cI cJ cC cG h9 hn ap (u.1) ht h0 (u.2.1) (u.2.2.1) pc (u.2.2.2) x) := kd_l hD
  refine kj_l1 (k_rV (As := []) (rest := []) ⟨K.hx, K.hb, K.hml, K.hown, K.hts⟩ K.hK K.hN hPc hDc (zB_digest h1) (cwV 0 K.hts gL_law_X9_digest rfl rfl rfl (by decide +kernel) ⟨Nat.le_of_ble_eq_true rfl, Nat.le_of_ble_eq_true rfl⟩) rfl rfl rfl hl.1 rfl (Nat.le_of_ble_eq_true rfl) dL_law_2015 hf) hP hD hS K.hA (fun u H locs hP hD hS => ?_)
  have hP : va_P D vwCl (wLw cI cJ cC cG h9 hn ap ht h0 pc u x' ad oa out m1) H := kp_b hP
  have hD : va_D A (wLw cI cJ cC cG h9 hn ap ht h0 pc u x' ad oa out m1) := kd_b hD
  refine lv_aload_n K.hx K.hb dL_law_2018 rfl (lv_at hl 2 rfl) ?_
  have hPc : va_P D vwCl (wMt cI cJ ad m1) _ := kp_r hP
  have hDc : va_D A (wMt cI cJ ad m1) := kd_r hD
  refine kj_l2 (k_rV (As := []) (rest := [.long r]) ⟨K.hx, K.hb, K.hml, K.hown, K.hts⟩ K.hK K.hN hPc hDc (zM_digest h2) (cwV 0 K.hts gL_law_X10_digest rfl rfl rfl (by decide +kernel) ⟨Nat.le_of_ble_eq_true rfl, Nat.le_of_ble_eq_true rfl⟩) rfl rfl rfl hl.1 rfl (Nat.le_of_ble_eq_true rfl) dL_law_2019 hf) hP hD hS K.hA (fun H locs hP hD hS => ?_)
  have hP : va_P D vwCl (wLw cI cJ cC cG h9 hn ap ht h0 pc u x' ad oa out m') H := hP
  have hD : va_D A (wLw cI cJ cC cG h9 hn ap ht h0 pc u x' ad oa out m') := hD
  refine W.lcmp K.hx K.hb dL_law_2022 ?_
  refine lv_if_eq (tgt := 2028) K.hx K.hb dL_law_2023 (by decide) (fun cc => ?_) (fun cc => absurd (lw_ceq h4) cc)
  exact kk u H locs ls hP hD hS (lv_sub hl [0, 1, 2, 3, 4] rfl)
