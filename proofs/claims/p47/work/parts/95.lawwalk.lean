abbrev rmL_low : Room := { frames := 0, cells := 0, slots := 0, locals := 0 }
set_option maxHeartbeats 4000000 in
set_option maxRecDepth 100000 in
theorem zL_low {l : Launch} {D : va_G} {cI cJ cC cG : ClassId} {sz : Nat}  {a0 : Int32} {a1 : Int32} {r : Int32} (hm : mL_low a0 a1 = some (r)) : k_Mi l yL_low wsL_low rmL_low D (kT cI cJ cC cG) sz ([.int a0, .int a1] : List Value) [] [] r := by
  refine k_st_i (cc := cL_low) (maxL := 2) (by decide) rfl (Nat.le_of_ble_eq_true rfl) ?_
  intro p e z m below meth c A hx hb hr hml hts hown hlocks hsz hN hA hK hP hD hS ls hl
  have hown : z.vm.findClass RL = some m.cls := hown
  have hl : lv_has ls 2 [(0, .int a0), (1, .int a1)] := hl
  unfold mL_low at hm
  refine lv_iload_n hx hb dL_low_0 rfl (lv_at hl 0 rfl) ?_
  refine lv_ldc (v := 2147483647) hx hb hown (hts (.constant RL 7 (2147483647)) (by decide +kernel)) dL_low_1 ?_
  refine lv_iand hx hb dL_low_3 ?_
  refine lv_iload_n hx hb dL_low_4 rfl (lv_at hl 1 rfl) ?_
  obtain ⟨gz5, hm⟩ := k_gns hm
  refine lv_irem hx hb dL_low_5 (of_decide_eq_true gz5) ?_
  cases hm
  exact k_end_i hx hb hr hlocks hK hP hD hS dL_low_6

abbrev rmL_way : Room := { frames := 0, cells := 0, slots := 0, locals := 0 }
set_option maxHeartbeats 4000000 in
set_option maxRecDepth 100000 in
theorem zL_way {l : Launch} {D : va_G} {cI cJ cC cG : ClassId} {sz : Nat}  {a0 : Int32} {a1 : Int32} {r : Int32} (hm : mL_way a0 a1 = some (r)) : k_Mi l yL_way wsL_way rmL_way D (kT cI cJ cC cG) sz ([.int a0, .int a1] : List Value) [] [] r := by
  refine k_st_i (cc := cL_way) (maxL := 2) (by decide) rfl (Nat.le_of_ble_eq_true rfl) ?_
  intro p e z m below meth c A hx hb hr hml hts hown hlocks hsz hN hA hK hP hD hS ls hl
  have hown : z.vm.findClass RL = some m.cls := hown
  have hl : lv_has ls 2 [(0, .int a0), (1, .int a1)] := hl
  unfold mL_way at hm
  refine lv_iload_n hx hb dL_way_0 rfl (lv_at hl 1 rfl) ?_
  refine lv_if_ge (tgt := 9) hx hb dL_way_1 (by decide) (fun cc1 => ?_) (fun cc1 => ?_)
  · have hm := k_ip cc1 hm
    refine lv_iload_n hx hb dL_way_9 rfl (lv_at hl 0 rfl) ?_
    refine lv_if_ne (tgt := 20) hx hb dL_way_10 (by decide) (fun cc10 => ?_) (fun cc10 => ?_)
    · have hm := k_in cc10 hm
      refine lv_iload_n hx hb dL_way_20 rfl (lv_at hl 1 rfl) ?_
      refine lv_iconst (v := 1) hx hb dL_way_21 (by decide) ?_
      refine lv_iadd hx hb dL_way_22 ?_
      cases hm
      exact k_end_i hx hb hr hlocks hK hP hD hS dL_way_23
    · have hm := k_ip cc10 hm
      refine lv_bipush (v := 16) hx hb dL_way_13 (by decide) ?_
      refine lv_iload_n hx hb dL_way_15 rfl (lv_at hl 1 rfl) ?_
      refine lv_isub hx hb dL_way_16 ?_
      refine lv_goto (tgt := 23) hx hb dL_way_17 (by decide) ?_
      cases hm
      exact k_end_i hx hb hr hlocks hK hP hD hS dL_way_23
  · have hm := k_in cc1 hm
    refine lv_bipush (v := 17) hx hb dL_way_4 (by decide) ?_
    refine lv_goto (tgt := 23) hx hb dL_way_6 (by decide) ?_
    cases hm
    exact k_end_i hx hb hr hlocks hK hP hD hS dL_way_23

abbrev rmL_target : Room := { frames := 1, cells := 0, slots := 0, locals := 21 }
set_option maxHeartbeats 4000000 in
set_option maxRecDepth 100000 in
theorem zL_target {l : Launch} {D : va_G} {cI cJ cC cG : ClassId} {sz : Nat}  {a0 : Int32} {a1 : Int32} {a2 : Int32} {r : Int32} (hm : mL_target a0 a1 a2 = some (r)) : k_Mi l yL_target wsL_target rmL_target D (kT cI cJ cC cG) sz ([.int a0, .int a1, .int a2] : List Value) [] [] r := by
  refine k_st_i (cc := cL_target) (maxL := 4) (by decide) rfl (Nat.le_of_ble_eq_true rfl) ?_
  intro p e z m below meth c A hx hb hr hml hts hown hlocks hsz hN hA hK hP hD hS ls hl
  have hown : z.vm.findClass RL = some m.cls := hown
  have hl : lv_has ls 4 [(0, .int a0), (1, .int a1), (2, .int a2)] := hl
  unfold mL_target at hm
  refine lv_iload_n hx hb dL_target_0 rfl (lv_at hl 0 rfl) ?_
  refine lv_iload_n hx hb dL_target_1 rfl (lv_at hl 1 rfl) ?_
  obtain ⟨r1, hc2, hm⟩ := k_bds hm
  refine k_i_0 (k_rS (As := [.int a0, .int a1]) (rest := []) ⟨hx, hb, hml, hown, hts⟩ hK hN k_P0 (k_D0 (A := A)) (zL_way hc2) (va_cwS 2 hts gL_target_L_way rfl rfl rfl (by decide +kernel) ⟨Nat.le_of_ble_eq_true rfl, Nat.le_of_ble_eq_true rfl⟩) rfl hl.1 rfl (Nat.le_of_ble_eq_true rfl) dL_target_2 ⟨Nat.zero_le _, Nat.zero_le _⟩) hP hS hA (fun H locs hP hS => ?_)
  refine lv_iload_n hx hb dL_target_5 rfl (lv_at hl 2 rfl) ?_
  refine lv_isub hx hb dL_target_6 ?_
  refine lv_istore_n (lv' := [(3, .int (r1 - a2)), (0, .int a0), (1, .int a1), (2, .int a2)]) hx hb dL_target_7 rfl hl (by decide) rfl (fun ls hl => ?_)
  refine lv_iload_n hx hb dL_target_8 rfl (lv_at hl 0 rfl) ?_
  refine lv_if_gt (tgt := 17) hx hb dL_target_9 (by decide) (fun cc9 => ?_) (fun cc9 => ?_)
  · have hm := k_ip cc9 hm
    refine lv_iload_n hx hb dL_target_17 rfl (lv_at hl 1 rfl) ?_
    refine lv_if_ne (tgt := 28) hx hb dL_target_18 (by decide) (fun cc18 => ?_) (fun cc18 => ?_)
    · have hm := k_in cc18 hm
      refine lv_iload_n hx hb dL_target_28 rfl (lv_at hl 0 rfl) ?_
      refine lv_iconst (v := 1) hx hb dL_target_29 (by decide) ?_
      refine lv_isub hx hb dL_target_30 ?_
      cases hm
      exact k_end_i hx hb hr hlocks hK hP hD hS dL_target_31
    · have hm := k_ip cc18 hm
      refine lv_bipush (v := 16) hx hb dL_target_21 (by decide) ?_
      refine lv_iload_n hx hb dL_target_23 rfl (lv_at hl 0 rfl) ?_
      refine lv_isub hx hb dL_target_24 ?_
      refine lv_goto (tgt := 31) hx hb dL_target_25 (by decide) ?_
      cases hm
      exact k_end_i hx hb hr hlocks hK hP hD hS dL_target_31
  · have hm := k_in cc9 hm
    refine lv_bipush (v := 16) hx hb dL_target_12 (by decide) ?_
    refine lv_goto (tgt := 31) hx hb dL_target_14 (by decide) ?_
    cases hm
    exact k_end_i hx hb hr hlocks hK hP hD hS dL_target_31

abbrev rmL_pieces : Room := { frames := 3, cells := 0, slots := 0, locals := 66 }
set_option maxHeartbeats 4000000 in
set_option maxRecDepth 100000 in
theorem zL_pieces {l : Launch} {D : va_G} {cI cJ cC cG : ClassId} {sz : Nat} {h9 hn h0 : Nat} {ap q ht pa pb pc : Nat → Nat} {jk : JT} {x : XT} {a1 : Int32} {a2 : Int32} {r : Int32} (hm : mL_pieces x a1 a2 = some (r)) : k_MiE l yL_pieces wsL_pieces rmL_pieces D (kT cI cJ cC cG) sz ([.ref h9, .int a1, .int a2] : List Value) (wXt cI cJ cC cG h9 hn ap q ht h0 pa pb pc jk x) (fun u : (Nat → Nat) × (Nat → Nat) × (Nat → Nat) × (JT) => (wXt cI cJ cC cG h9 hn ap (u.1) ht h0 (u.2.1) (u.2.2.1) pc (u.2.2.2) x)) r := by
  refine k_st_iE (cc := cL_pieces) (maxL := 3) (by decide) rfl (Nat.le_of_ble_eq_true rfl) ?_
  intro p e z m below meth c A hx hb hr hml hts hown hlocks hsz hN hA hK hP hD hS ls hl
  have hown : z.vm.findClass RL = some m.cls := hown
  have hl : lv_has ls 3 [(0, .ref h9), (1, .int a1), (2, .int a2)] := hl
  unfold mL_pieces at hm
  refine lv_iload_n hx hb dL_pieces_0 rfl (lv_at hl 2 rfl) ?_
  refine lv_if_ge (tgt := 12) hx hb dL_pieces_1 (by decide) (fun cc1 => ?_) (fun cc1 => ?_)
  · have hm := k_ip cc1 hm
    refine lv_aload_n hx hb dL_pieces_12 rfl (lv_at hl 0 rfl) ?_
    refine lv_iload_n hx hb dL_pieces_13 rfl (lv_at hl 1 rfl) ?_
    refine lv_iload_n hx hb dL_pieces_14 rfl (lv_at hl 2 rfl) ?_
    obtain ⟨r1, hc15, hm⟩ := k_bds hm
    refine k_i_sE (k_rV (As := [.int a1, .int a2]) (rest := []) ⟨hx, hb, hml, hown, hts⟩ hK hN hP hD (zB_piecesOn hc15) (cwV 2 hts gL_pieces_X9_piecesOn rfl rfl rfl (by decide +kernel) ⟨Nat.le_of_ble_eq_true rfl, Nat.le_of_ble_eq_true rfl⟩) rfl rfl rfl hl.1 rfl (Nat.le_of_ble_eq_true rfl) dL_pieces_15 ⟨Nat.zero_le _, Nat.zero_le _⟩) hD hS hA (fun u9 H locs hP hD hS => ?_)
    obtain ⟨u2, u3, u4, u5⟩ := u9
    have hP : va_P D vwCl (wXt cI cJ cC cG h9 hn ap u2 ht h0 u3 u4 pc u5 x) H := hP
    have hD : va_D A (wXt cI cJ cC cG h9 hn ap u2 ht h0 u3 u4 pc u5 x) := hD
    cases hm
    exact k_end_iE (u2, u3, u4, u5) hx hb hr hlocks hK hP hD hS dL_pieces_18
  · have hm := k_in cc1 hm
    refine lv_aload_n hx hb dL_pieces_4 rfl (lv_at hl 0 rfl) ?_
    refine lv_iload_n hx hb dL_pieces_5 rfl (lv_at hl 1 rfl) ?_
    obtain ⟨r6, hc6, hm⟩ := k_bds hm
    refine k_i_sE (k_rV (As := [.int a1]) (rest := []) ⟨hx, hb, hml, hown, hts⟩ hK hN hP hD (zB_onBar hc6) (cwV 1 hts gL_pieces_X9_onBar rfl rfl rfl (by decide +kernel) ⟨Nat.le_of_ble_eq_true rfl, Nat.le_of_ble_eq_true rfl⟩) rfl rfl rfl hl.1 rfl (Nat.le_of_ble_eq_true rfl) dL_pieces_6 ⟨Nat.zero_le _, Nat.zero_le _⟩) hD hS hA (fun u9 H locs hP hD hS => ?_)
    obtain ⟨u7, u8, u9, u10⟩ := u9
    have hP : va_P D vwCl (wXt cI cJ cC cG h9 hn ap u7 ht h0 u8 u9 pc u10 x) H := hP
    have hD : va_D A (wXt cI cJ cC cG h9 hn ap u7 ht h0 u8 u9 pc u10 x) := hD
    refine lv_goto (tgt := 18) hx hb dL_pieces_9 (by decide) ?_
    cases hm
    exact k_end_iE (u7, u8, u9, u10) hx hb hr hlocks hK hP hD hS dL_pieces_18

abbrev rmL_find : Room := { frames := 13, cells := 0, slots := 0, locals := 386 }
set_option maxHeartbeats 4000000 in
set_option maxRecDepth 100000 in
theorem zL_find {l : Launch} {D : va_G} {cI cJ cC cG : ClassId} {sz : Nat} {h9 hn h0 : Nat} {ap q ht pa pb pc : Nat → Nat} {jk : JT} {x : XT} {a1 : Int32} {r : Int32} (hm : mL_find x a1 = some (r)) : k_MiE l yL_find wsL_find rmL_find D (kT cI cJ cC cG) sz ([.ref h9, .int a1] : List Value) (wXt cI cJ cC cG h9 hn ap q ht h0 pa pb pc jk x) (fun u : (Nat → Nat) × (Nat → Nat) × (Nat → Nat) × (JT) => (wXt cI cJ cC cG h9 hn ap (u.1) ht h0 (u.2.1) (u.2.2.1) pc (u.2.2.2) x)) r := by
  refine k_st_iE (cc := cL_find) (maxL := 5) (by decide) rfl (Nat.le_of_ble_eq_true rfl) ?_
  intro p e z m below meth c A hx hb hr hml hts hown hlocks hsz hN hA hK hP hD hS ls hl
  have hown : z.vm.findClass RL = some m.cls := hown
  have hl : lv_has ls 5 [(0, .ref h9), (1, .int a1)] := hl
  have J_4 := k_loop (z := fun _ _ => none) (st := mL_find_4 x a1) (fun k4 : (Int32) → (Int32) → Option (Int32) => ∀ (q : Nat → Nat) (pa : Nat → Nat) (pb : Nat → Nat) (jk : JT) (l2 : Int32) (l3 : Int32) (H : Heap) (locs : List Loc), va_P D vwCl (wXt cI cJ cC cG h9 hn ap q ht h0 pa pb pc jk x) H → va_D A (wXt cI cJ cC cG h9 hn ap q ht h0 pa pb pc jk x) → va_S A z.heap H locs → ∀ ls : Array Slot, lv_has ls 5 [(0, .ref h9), (1, .int a1), (2, .int l2), (3, .int l3)] → k4 l2 l3 = some (r) → W p l e rmL_find z m ([.ref h9, .int a1] : List Value).toArray below meth c H locs 0 0 (k_QiE below ([.ref h9, .int a1] : List Value) D (kT cI cJ cC cG) z A (fun u : (Nat → Nat) × (Nat → Nat) × (Nat → Nat) × (JT) => (wXt cI cJ cC cG h9 hn ap (u.1) ht h0 (u.2.1) (u.2.2.1) pc (u.2.2.2) x)) r) (F0 m 4 ls [])) (by intros; rename_i h; cases h) (by
    intro k4 ih4
    intro q pa pb jk l2 l3 H locs hP hD hS ls hl hm
    unfold mL_find_4 at hm
    refine lv_iload_n hx hb dL_find_4 rfl (lv_at hl 3 rfl) ?_
    refine lv_bipush (v := 102) hx hb dL_find_5 (by decide) ?_
    refine lv_icmp_ge (tgt := 75) hx hb dL_find_7 (by decide) (fun cc7 => ?_) (fun cc7 => ?_)
    · have hm := k_ip cc7 hm
      refine lv_iload_n hx hb dL_find_75 rfl (lv_at hl 2 rfl) ?_
      cases hm
      exact k_end_iE (q, pa, pb, jk) hx hb hr hlocks hK hP hD hS dL_find_76
    · have hm := k_in cc7 hm
      refine lv_iload_n hx hb dL_find_10 rfl (lv_at hl 3 rfl) ?_
      refine lv_iload_n hx hb dL_find_11 rfl (lv_at hl 1 rfl) ?_
      refine lv_bipush (v := 102) hx hb dL_find_12 (by decide) ?_
      obtain ⟨r1, hc14, hm⟩ := k_bds hm
      refine k_i_0 (k_rS (As := [.int a1, .int 102]) (rest := [.int l3]) ⟨hx, hb, hml, hown, hts⟩ hK hN k_P0 (k_D0 (A := A)) (zL_low hc14) (va_cwS 2 hts gL_find_L_low rfl rfl rfl (by decide +kernel) ⟨Nat.le_of_ble_eq_true rfl, Nat.le_of_ble_eq_true rfl⟩) rfl hl.1 rfl (Nat.le_of_ble_eq_true rfl) dL_find_14 ⟨Nat.zero_le _, Nat.zero_le _⟩) hP hS hA (fun H locs hP hS => ?_)
      refine lv_iadd hx hb dL_find_17 ?_
      refine lv_bipush (v := 102) hx hb dL_find_18 (by decide) ?_
      refine lv_irem hx hb dL_find_20 (by decide) ?_
      refine lv_istore (lv' := [(4, .int (k_irem (l3 + r1) 102)), (0, .ref h9), (1, .int a1), (2, .int l2), (3, .int l3)]) hx hb dL_find_21 hl (by decide) rfl (fun ls hl => ?_)
      refine lv_iload_n hx hb dL_find_23 rfl (lv_at hl 3 rfl) ?_
      refine lv_if_ge (tgt := 67) hx hb dL_find_24 (by decide) (fun cc24 => ?_) (fun cc24 => ?_)
      · have hm := k_ip cc24 hm
        refine lv_iload_n hx hb dL_find_67 rfl (lv_at hl 3 rfl) ?_
        refine lv_istore_n (lv' := [(2, .int l2), (4, .int (k_irem (l3 + r1) 102)), (0, .ref h9), (1, .int a1), (3, .int l3)]) hx hb dL_find_68 rfl hl (by decide) rfl (fun ls hl => ?_)
        refine lv_iinc (v := (l3 + 1)) (lv' := [(3, .int (l3 + 1)), (2, .int l2), (4, .int (k_irem (l3 + r1) 102)), (0, .ref h9), (1, .int a1)]) hx hb dL_find_69 hl (k := 4) rfl rfl (by decide) rfl (fun ls hl => ?_)
        refine lv_goto (tgt := 4) hx hb dL_find_72 (by decide) ?_
        exact ih4 q pa pb jk l2 (l3 + 1) _ _ hP hD hS _ (lv_sub hl [3, 4, 1, 0] rfl) hm
      · have hm := k_in cc24 hm
        refine lv_aload_n hx hb dL_find_27 rfl (lv_at hl 1 rfl) ?_
        refine lv_iload hx hb dL_find_28 (lv_at hl 0 rfl) ?_
        refine lv_bipush (v := 17) hx hb dL_find_30 (by decide) ?_
        refine lv_irem hx hb dL_find_32 (by decide) ?_
        refine lv_iconst (v := 1) hx hb dL_find_33 (by decide) ?_
        refine lv_isub hx hb dL_find_34 ?_
        refine lv_iconst (v := 1) hx hb dL_find_35 (by decide) ?_
        refine lv_iload hx hb dL_find_36 (lv_at hl 0 rfl) ?_
        refine lv_bipush (v := 17) hx hb dL_find_38 (by decide) ?_
        refine lv_idiv hx hb dL_find_40 (by decide) ?_
        refine lv_iadd hx hb dL_find_41 ?_
        obtain ⟨r2, hc42, hm⟩ := k_bds hm
        refine k_i_sE (k_rV (As := [.int ((k_irem (k_irem (l3 + r1) 102) 17) - 1), .int (1 + ((k_irem (l3 + r1) 102) / 17))]) (rest := []) ⟨hx, hb, hml, hown, hts⟩ hK hN hP hD (zB_whyNoStep hc42) (cwV 2 hts gL_find_X9_whyNoStep rfl rfl rfl (by decide +kernel) ⟨Nat.le_of_ble_eq_true rfl, Nat.le_of_ble_eq_true rfl⟩) rfl rfl rfl hl.1 rfl (Nat.le_of_ble_eq_true rfl) dL_find_42 ⟨Nat.zero_le _, Nat.zero_le _⟩) hD hS hA (fun u9 H locs hP hD hS => ?_)
        obtain ⟨u3, u4, u5, u6⟩ := u9
        have hP : va_P D vwCl (wXt cI cJ cC cG h9 hn ap u3 ht h0 u4 u5 pc u6 x) H := hP
        have hD : va_D A (wXt cI cJ cC cG h9 hn ap u3 ht h0 u4 u5 pc u6 x) := hD
        refine lv_if_ne (tgt := 67) hx hb dL_find_45 (by decide) (fun cc45 => ?_) (fun cc45 => ?_)
        · have hm := k_in cc45 hm
          refine lv_iload_n hx hb dL_find_67 rfl (lv_at hl 3 rfl) ?_
          refine lv_istore_n (lv' := [(2, .int l2), (4, .int (k_irem (l3 + r1) 102)), (0, .ref h9), (1, .int a1), (3, .int l3)]) hx hb dL_find_68 rfl hl (by decide) rfl (fun ls hl => ?_)
          refine lv_iinc (v := (l3 + 1)) (lv' := [(3, .int (l3 + 1)), (2, .int l2), (4, .int (k_irem (l3 + r1) 102)), (0, .ref h9), (1, .int a1)]) hx hb dL_find_69 hl (k := 4) rfl rfl (by decide) rfl (fun ls hl => ?_)
          refine lv_goto (tgt := 4) hx hb dL_find_72 (by decide) ?_
          exact ih4 u3 u4 u5 u6 l2 (l3 + 1) _ _ hP hD hS _ (lv_sub hl [3, 4, 1, 0] rfl) hm
        · have hm := k_ip cc45 hm
          refine lv_bipush (v := 32) hx hb dL_find_48 (by decide) ?_
          refine lv_iconst (v := 1) hx hb dL_find_50 (by decide) ?_
          refine lv_iload hx hb dL_find_51 (lv_at hl 0 rfl) ?_
          refine lv_bipush (v := 17) hx hb dL_find_53 (by decide) ?_
          refine lv_idiv hx hb dL_find_55 (by decide) ?_
          refine lv_iadd hx hb dL_find_56 ?_
          refine lv_imul hx hb dL_find_57 ?_
          refine lv_iload hx hb dL_find_58 (lv_at hl 0 rfl) ?_
          refine lv_bipush (v := 17) hx hb dL_find_60 (by decide) ?_
          refine lv_irem hx hb dL_find_62 (by decide) ?_
          refine lv_iadd hx hb dL_find_63 ?_
          refine lv_goto (tgt := 68) hx hb dL_find_64 (by decide) ?_
          refine lv_istore_n (lv' := [(2, .int ((32 * (1 + ((k_irem (l3 + r1) 102) / 17))) + (k_irem (k_irem (l3 + r1) 102) 17))), (4, .int (k_irem (l3 + r1) 102)), (0, .ref h9), (1, .int a1), (3, .int l3)]) hx hb dL_find_68 rfl hl (by decide) rfl (fun ls hl => ?_)
          refine lv_iinc (v := (l3 + 1)) (lv' := [(3, .int (l3 + 1)), (2, .int ((32 * (1 + ((k_irem (l3 + r1) 102) / 17))) + (k_irem (k_irem (l3 + r1) 102) 17))), (4, .int (k_irem (l3 + r1) 102)), (0, .ref h9), (1, .int a1)]) hx hb dL_find_69 hl (k := 4) rfl rfl (by decide) rfl (fun ls hl => ?_)
          refine lv_goto (tgt := 4) hx hb dL_find_72 (by decide) ?_
          exact ih4 u3 u4 u5 u6 ((32 * (1 + ((k_irem (l3 + r1) 102) / 17))) + (k_irem (k_irem (l3 + r1) 102) 17)) (l3 + 1) _ _ hP hD hS _ (lv_sub hl [3, 4, 1, 0] rfl) hm) k_F
  unfold mL_find at hm
  refine lv_iconst (v := (-1)) hx hb dL_find_0 (by decide) ?_
  refine lv_istore_n (lv' := [(2, .int (-1)), (0, .ref h9), (1, .int a1)]) hx hb dL_find_1 rfl hl (by decide) rfl (fun ls hl => ?_)
  refine lv_iconst (v := 0) hx hb dL_find_2 (by decide) ?_
  refine lv_istore_n (lv' := [(3, .int 0), (2, .int (-1)), (0, .ref h9), (1, .int a1)]) hx hb dL_find_3 rfl hl (by decide) rfl (fun ls hl => ?_)
  exact J_4 q pa pb jk (-1) 0 _ _ hP hD hS _ (lv_sub hl [2, 3, 1, 0] rfl) hm

abbrev rmL_isRolled : Room := { frames := 16, cells := 0, slots := 0, locals := 552 }
set_option maxHeartbeats 4000000 in
set_option maxRecDepth 100000 in
theorem zL_isRolled {l : Launch} {D : va_G} {cI cJ cC cG : ClassId} {sz : Nat} {h9 hn h0 : Nat} {ap q ht pa pb pc : Nat → Nat} {jk : JT} {x : XT} {a1 : Int32} {r : Bool} {x' : XT} (hm : mL_isRolled x a1 = some (r, x')) : k_MiE l yL_isRolled wsL_isRolled rmL_isRolled D (kT cI cJ cC cG) sz ([.ref h9, .int a1] : List Value) (wXt cI cJ cC cG h9 hn ap q ht h0 pa pb pc jk x) (fun u : (Nat → Nat) × (Nat → Nat) × (Nat → Nat) × (JT) => (wXt cI cJ cC cG h9 hn ap (u.1) ht h0 (u.2.1) (u.2.2.1) pc (u.2.2.2) x')) (k_b r) := by
  refine k_st_iE (cc := cL_isRolled) (maxL := 7) (by decide) rfl (Nat.le_of_ble_eq_true rfl) ?_
  intro p e z m below meth c A hx hb hr hml hts hown hlocks hsz hN hA hK hP hD hS ls hl
  have hown : z.vm.findClass RL = some m.cls := hown
  have hl : lv_has ls 7 [(0, .ref h9), (1, .int a1)] := hl
  have J_81 : ∀ (q : Nat → Nat) (pa : Nat → Nat) (pb : Nat → Nat) (jk : JT) (t0 : Int32) (t1 : Int32) (l2 : Int32) (l3 : Int32) (l4 : Int32) (l6 : Int32) (x : XT) (H : Heap) (locs : List Loc), va_P D vwCl (wXt cI cJ cC cG h9 hn ap q ht h0 pa pb pc jk x) H → va_D A (wXt cI cJ cC cG h9 hn ap q ht h0 pa pb pc jk x) → va_S A z.heap H locs → ∀ ls : Array Slot, lv_has ls 7 [(0, .ref h9), (2, .int l2), (3, .int l3), (4, .int l4), (6, .int l6)] → mL_isRolled_81 a1 t0 t1 l2 l3 l4 l6 x = some (r, x') → W p l e rmL_isRolled z m ([.ref h9, .int a1] : List Value).toArray below meth c H locs 0 0 (k_QiE below ([.ref h9, .int a1] : List Value) D (kT cI cJ cC cG) z A (fun u : (Nat → Nat) × (Nat → Nat) × (Nat → Nat) × (JT) => (wXt cI cJ cC cG h9 hn ap (u.1) ht h0 (u.2.1) (u.2.2.1) pc (u.2.2.2) x')) (k_b r)) (F0 m 81 ls [.int t0, .int t1]) := by
    intro q pa pb jk t0 t1 l2 l3 l4 l6 x H locs hP hD hS ls hl hm
    unfold mL_isRolled_81 at hm
    refine lv_icmp_ne (tgt := 141) hx hb dL_isRolled_81 (by decide) (fun cc81 => ?_) (fun cc81 => ?_)
    · have hm := k_in cc81 hm
      refine lv_iconst (v := 0) hx hb dL_isRolled_141 (by decide) ?_
      cases hm
      exact k_end_zE (q, pa, pb, jk) false hx hb hr hlocks hK hP hD hS dL_isRolled_142
    · have hm := k_ip cc81 hm
      refine lv_aload_n hx hb dL_isRolled_84 rfl (lv_at hl 0 rfl) ?_
      obtain ⟨r1, hc85, hm⟩ := k_bds hm
      refine k_i_sE (k_rV (As := []) (rest := []) ⟨hx, hb, hml, hown, hts⟩ hK hN hP hD (zB_diceLeft hc85) (cwV 0 hts gL_isRolled_X9_diceLeft rfl rfl rfl (by decide +kernel) ⟨Nat.le_of_ble_eq_true rfl, Nat.le_of_ble_eq_true rfl⟩) rfl rfl rfl hl.1 rfl (Nat.le_of_ble_eq_true rfl) dL_isRolled_85 ⟨Nat.zero_le _, Nat.zero_le _⟩) hD hS hA (fun u9 H locs hP hD hS => ?_)
      obtain ⟨u2, u3, u4, u5⟩ := u9
      have hP : va_P D vwCl (wXt cI cJ cC cG h9 hn ap u2 ht h0 u3 u4 pc u5 x) H := hP
      have hD : va_D A (wXt cI cJ cC cG h9 hn ap u2 ht h0 u3 u4 pc u5 x) := hD
      refine lv_iload hx hb dL_isRolled_88 (lv_at hl 4 rfl) ?_
      refine lv_icmp_ne (tgt := 141) hx hb dL_isRolled_90 (by decide) (fun cc90 => ?_) (fun cc90 => ?_)
      · have hm := k_in cc90 hm
        refine lv_iconst (v := 0) hx hb dL_isRolled_141 (by decide) ?_
        cases hm
        exact k_end_zE (u2, u3, u4, u5) false hx hb hr hlocks hK hP hD hS dL_isRolled_142
      · have hm := k_ip cc90 hm
        refine lv_aload_n hx hb dL_isRolled_93 rfl (lv_at hl 0 rfl) ?_
        obtain ⟨r6, hc94, hm⟩ := k_bds hm
        refine k_i_sE (k_rV (As := []) (rest := []) ⟨hx, hb, hml, hown, hts⟩ hK hN hP hD (zB_phase hc94) (cwV 0 hts gL_isRolled_X9_phase rfl rfl rfl (by decide +kernel) ⟨Nat.le_of_ble_eq_true rfl, Nat.le_of_ble_eq_true rfl⟩) rfl rfl rfl hl.1 rfl (Nat.le_of_ble_eq_true rfl) dL_isRolled_94 ⟨Nat.zero_le _, Nat.zero_le _⟩) hD hS hA (fun u9 H locs hP hD hS => ?_)
        obtain ⟨u7, u8, u9, u10⟩ := u9
        have hP : va_P D vwCl (wXt cI cJ cC cG h9 hn ap u7 ht h0 u8 u9 pc u10 x) H := hP
        have hD : va_D A (wXt cI cJ cC cG h9 hn ap u7 ht h0 u8 u9 pc u10 x) := hD
        refine lv_iconst (v := 1) hx hb dL_isRolled_97 (by decide) ?_
        refine lv_icmp_ne (tgt := 141) hx hb dL_isRolled_98 (by decide) (fun cc98 => ?_) (fun cc98 => ?_)
        · have hm := k_in cc98 hm
          refine lv_iconst (v := 0) hx hb dL_isRolled_141 (by decide) ?_
          cases hm
          exact k_end_zE (u7, u8, u9, u10) false hx hb hr hlocks hK hP hD hS dL_isRolled_142
        · have hm := k_ip cc98 hm
          refine lv_aload_n hx hb dL_isRolled_101 rfl (lv_at hl 0 rfl) ?_
          refine lv_iconst (v := 0) hx hb dL_isRolled_102 (by decide) ?_
          obtain ⟨r11, hc103, hm⟩ := k_bds hm
          refine k_i_sE (k_rV (As := [.int 0]) (rest := []) ⟨hx, hb, hml, hown, hts⟩ hK hN hP hD (zB_dieLeft hc103) (cwV 1 hts gL_isRolled_X9_dieLeft rfl rfl rfl (by decide +kernel) ⟨Nat.le_of_ble_eq_true rfl, Nat.le_of_ble_eq_true rfl⟩) rfl rfl rfl hl.1 rfl (Nat.le_of_ble_eq_true rfl) dL_isRolled_103 ⟨Nat.zero_le _, Nat.zero_le _⟩) hD hS hA (fun u9 H locs hP hD hS => ?_)
          obtain ⟨u12, u13, u14, u15⟩ := u9
          have hP : va_P D vwCl (wXt cI cJ cC cG h9 hn ap u12 ht h0 u13 u14 pc u15 x) H := hP
          have hD : va_D A (wXt cI cJ cC cG h9 hn ap u12 ht h0 u13 u14 pc u15 x) := hD
          refine lv_iload_n hx hb dL_isRolled_106 rfl (lv_at hl 1 rfl) ?_
          refine lv_icmp_ne (tgt := 141) hx hb dL_isRolled_107 (by decide) (fun cc107 => ?_) (fun cc107 => ?_)
          · have hm := k_in cc107 hm
            refine lv_iconst (v := 0) hx hb dL_isRolled_141 (by decide) ?_
            cases hm
            exact k_end_zE (u12, u13, u14, u15) false hx hb hr hlocks hK hP hD hS dL_isRolled_142
          · have hm := k_ip cc107 hm
            refine lv_aload_n hx hb dL_isRolled_110 rfl (lv_at hl 0 rfl) ?_
            refine lv_iconst (v := 1) hx hb dL_isRolled_111 (by decide) ?_
            obtain ⟨r16, hc112, hm⟩ := k_bds hm
            refine k_i_sE (k_rV (As := [.int 1]) (rest := []) ⟨hx, hb, hml, hown, hts⟩ hK hN hP hD (zB_dieLeft hc112) (cwV 1 hts gL_isRolled_X9_dieLeft rfl rfl rfl (by decide +kernel) ⟨Nat.le_of_ble_eq_true rfl, Nat.le_of_ble_eq_true rfl⟩) rfl rfl rfl hl.1 rfl (Nat.le_of_ble_eq_true rfl) dL_isRolled_112 ⟨Nat.zero_le _, Nat.zero_le _⟩) hD hS hA (fun u9 H locs hP hD hS => ?_)
            obtain ⟨u17, u18, u19, u20⟩ := u9
            have hP : va_P D vwCl (wXt cI cJ cC cG h9 hn ap u17 ht h0 u18 u19 pc u20 x) H := hP
            have hD : va_D A (wXt cI cJ cC cG h9 hn ap u17 ht h0 u18 u19 pc u20 x) := hD
            refine lv_iload_n hx hb dL_isRolled_115 rfl (lv_at hl 2 rfl) ?_
            refine lv_icmp_ne (tgt := 141) hx hb dL_isRolled_116 (by decide) (fun cc116 => ?_) (fun cc116 => ?_)
            · have hm := k_in cc116 hm
              refine lv_iconst (v := 0) hx hb dL_isRolled_141 (by decide) ?_
              cases hm
              exact k_end_zE (u17, u18, u19, u20) false hx hb hr hlocks hK hP hD hS dL_isRolled_142
            · have hm := k_ip cc116 hm
              refine lv_aload_n hx hb dL_isRolled_119 rfl (lv_at hl 0 rfl) ?_
              obtain ⟨r21, hc120, hm⟩ := k_bds hm
              refine k_i_sE (k_rV (As := []) (rest := []) ⟨hx, hb, hml, hown, hts⟩ hK hN hP hD (zB_plays hc120) (cwV 0 hts gL_isRolled_X9_plays rfl rfl rfl (by decide +kernel) ⟨Nat.le_of_ble_eq_true rfl, Nat.le_of_ble_eq_true rfl⟩) rfl rfl rfl hl.1 rfl (Nat.le_of_ble_eq_true rfl) dL_isRolled_120 ⟨Nat.zero_le _, Nat.zero_le _⟩) hD hS hA (fun u9 H locs hP hD hS => ?_)
              obtain ⟨u22, u23, u24, u25⟩ := u9
              have hP : va_P D vwCl (wXt cI cJ cC cG h9 hn ap u22 ht h0 u23 u24 pc u25 x) H := hP
              have hD : va_D A (wXt cI cJ cC cG h9 hn ap u22 ht h0 u23 u24 pc u25 x) := hD
              refine lv_iload hx hb dL_isRolled_123 (lv_at hl 3 rfl) ?_
              refine lv_icmp_ne (tgt := 141) hx hb dL_isRolled_125 (by decide) (fun cc125 => ?_) (fun cc125 => ?_)
              · have hm := k_in cc125 hm
                refine lv_iconst (v := 0) hx hb dL_isRolled_141 (by decide) ?_
                cases hm
                exact k_end_zE (u22, u23, u24, u25) false hx hb hr hlocks hK hP hD hS dL_isRolled_142
              · have hm := k_ip cc125 hm
                refine lv_aload_n hx hb dL_isRolled_128 rfl (lv_at hl 0 rfl) ?_
                obtain ⟨r26, hc129, hm⟩ := k_bds hm
                refine k_i_sE (k_rV (As := []) (rest := []) ⟨hx, hb, hml, hown, hts⟩ hK hN hP hD (zB_reach hc129) (cwV 0 hts gL_isRolled_X9_reach rfl rfl rfl (by decide +kernel) ⟨Nat.le_of_ble_eq_true rfl, Nat.le_of_ble_eq_true rfl⟩) rfl rfl rfl hl.1 rfl (Nat.le_of_ble_eq_true rfl) dL_isRolled_129 ⟨Nat.zero_le _, Nat.zero_le _⟩) hD hS hA (fun u9 H locs hP hD hS => ?_)
                obtain ⟨u27, u28, u29, u30⟩ := u9
                have hP : va_P D vwCl (wXt cI cJ cC cG h9 hn ap u27 ht h0 u28 u29 pc u30 x) H := hP
                have hD : va_D A (wXt cI cJ cC cG h9 hn ap u27 ht h0 u28 u29 pc u30 x) := hD
                refine lv_iload hx hb dL_isRolled_132 (lv_at hl 4 rfl) ?_
                refine lv_icmp_gt (tgt := 141) hx hb dL_isRolled_134 (by decide) (fun cc134 => ?_) (fun cc134 => ?_)
                · have hm := k_ip cc134 hm
                  refine lv_iconst (v := 0) hx hb dL_isRolled_141 (by decide) ?_
                  cases hm
                  exact k_end_zE (u27, u28, u29, u30) false hx hb hr hlocks hK hP hD hS dL_isRolled_142
                · have hm := k_in cc134 hm
                  refine lv_iconst (v := 1) hx hb dL_isRolled_137 (by decide) ?_
                  refine lv_goto (tgt := 142) hx hb dL_isRolled_138 (by decide) ?_
                  cases hm
                  exact k_end_zE (u27, u28, u29, u30) true hx hb hr hlocks hK hP hD hS dL_isRolled_142
  have J_54 : ∀ (q : Nat → Nat) (pa : Nat → Nat) (pb : Nat → Nat) (jk : JT) (t0 : Bool) (l2 : Int32) (l3 : Int32) (l4 : Int32) (x : XT) (H : Heap) (locs : List Loc), va_P D vwCl (wXt cI cJ cC cG h9 hn ap q ht h0 pa pb pc jk x) H → va_D A (wXt cI cJ cC cG h9 hn ap q ht h0 pa pb pc jk x) → va_S A z.heap H locs → ∀ ls : Array Slot, lv_has ls 7 [(0, .ref h9), (2, .int l2), (3, .int l3), (4, .int l4)] → mL_isRolled_54 a1 t0 l2 l3 l4 x = some (r, x') → W p l e rmL_isRolled z m ([.ref h9, .int a1] : List Value).toArray below meth c H locs 0 0 (k_QiE below ([.ref h9, .int a1] : List Value) D (kT cI cJ cC cG) z A (fun u : (Nat → Nat) × (Nat → Nat) × (Nat → Nat) × (JT) => (wXt cI cJ cC cG h9 hn ap (u.1) ht h0 (u.2.1) (u.2.2.1) pc (u.2.2.2) x')) (k_b r)) (F0 m 54 ls [.int (k_b t0)]) := by
    intro q pa pb jk t0 l2 l3 l4 x H locs hP hD hS ls hl hm
    unfold mL_isRolled_54 at hm
    refine lv_istore (lv' := [(5, .int (k_b t0)), (0, .ref h9), (2, .int l2), (3, .int l3), (4, .int l4)]) hx hb dL_isRolled_54 hl (by decide) rfl (fun ls hl => ?_)
    refine lv_aload_n hx hb dL_isRolled_56 rfl (lv_at hl 1 rfl) ?_
    refine lv_iload_n hx hb dL_isRolled_57 rfl (lv_at hl 2 rfl) ?_
    refine lv_iload_n hx hb dL_isRolled_58 rfl (lv_at hl 3 rfl) ?_
    obtain ⟨r31, w32, hc59, hm⟩ := k_bd2s hm
    refine k_i_sE (k_rV (As := [.int l2, .int l3]) (rest := []) ⟨hx, hb, hml, hown, hts⟩ hK hN hP hD (zB_roll hc59) (cwV 2 hts gL_isRolled_X9_roll rfl rfl rfl (by decide +kernel) ⟨Nat.le_of_ble_eq_true rfl, Nat.le_of_ble_eq_true rfl⟩) rfl rfl rfl hl.1 rfl (Nat.le_of_ble_eq_true rfl) dL_isRolled_59 ⟨Nat.zero_le _, Nat.zero_le _⟩) hD hS hA (fun u9 H locs hP hD hS => ?_)
    obtain ⟨u33, u34, u35, u36⟩ := u9
    have hP : va_P D vwCl (wXt cI cJ cC cG h9 hn ap u33 ht h0 u34 u35 pc u36 w32) H := hP
    have hD : va_D A (wXt cI cJ cC cG h9 hn ap u33 ht h0 u34 u35 pc u36 w32) := hD
    refine lv_istore (lv' := [(6, .int r31), (5, .int (k_b t0)), (0, .ref h9), (2, .int l2), (3, .int l3), (4, .int l4)]) hx hb dL_isRolled_62 hl (by decide) rfl (fun ls hl => ?_)
    refine lv_iload hx hb dL_isRolled_64 (lv_at hl 1 rfl) ?_
    refine lv_if_eq (tgt := 141) hx hb dL_isRolled_66 (by decide) (fun cc66 => ?_) (fun cc66 => ?_)
    · have hm := k_ip cc66 hm
      refine lv_iconst (v := 0) hx hb dL_isRolled_141 (by decide) ?_
      cases hm
      exact k_end_zE (u33, u34, u35, u36) false hx hb hr hlocks hK hP hD hS dL_isRolled_142
    · have hm := k_in cc66 hm
      refine lv_iload hx hb dL_isRolled_69 (lv_at hl 0 rfl) ?_
      refine lv_iload_n hx hb dL_isRolled_71 rfl (lv_at hl 3 rfl) ?_
      refine lv_iload_n hx hb dL_isRolled_72 rfl (lv_at hl 4 rfl) ?_
      refine lv_icmp_ne (tgt := 80) hx hb dL_isRolled_73 (by decide) (fun cc73 => ?_) (fun cc73 => ?_)
      · have hm := k_in cc73 hm
        refine lv_iconst (v := 2) hx hb dL_isRolled_80 (by decide) ?_
        exact J_81 u33 u34 u35 u36 2 r31 l2 l3 l4 r31 w32 _ _ hP hD hS _ (lv_sub hl [2, 3, 4, 5, 0] rfl) hm
      · have hm := k_ip cc73 hm
        refine lv_iconst (v := 4) hx hb dL_isRolled_76 (by decide) ?_
        refine lv_goto (tgt := 81) hx hb dL_isRolled_77 (by decide) ?_
        exact J_81 u33 u34 u35 u36 4 r31 l2 l3 l4 r31 w32 _ _ hP hD hS _ (lv_sub hl [2, 3, 4, 5, 0] rfl) hm
  have J_29 : ∀ (q : Nat → Nat) (pa : Nat → Nat) (pb : Nat → Nat) (jk : JT) (t0 : Int32) (l2 : Int32) (x : XT) (H : Heap) (locs : List Loc), va_P D vwCl (wXt cI cJ cC cG h9 hn ap q ht h0 pa pb pc jk x) H → va_D A (wXt cI cJ cC cG h9 hn ap q ht h0 pa pb pc jk x) → va_S A z.heap H locs → ∀ ls : Array Slot, lv_has ls 7 [(0, .ref h9), (2, .int l2)] → mL_isRolled_29 a1 t0 l2 x = some (r, x') → W p l e rmL_isRolled z m ([.ref h9, .int a1] : List Value).toArray below meth c H locs 0 0 (k_QiE below ([.ref h9, .int a1] : List Value) D (kT cI cJ cC cG) z A (fun u : (Nat → Nat) × (Nat → Nat) × (Nat → Nat) × (JT) => (wXt cI cJ cC cG h9 hn ap (u.1) ht h0 (u.2.1) (u.2.2.1) pc (u.2.2.2) x')) (k_b r)) (F0 m 29 ls [.int t0]) := by
    intro q pa pb jk t0 l2 x H locs hP hD hS ls hl hm
    unfold mL_isRolled_29 at hm
    refine lv_istore_n (lv' := [(3, .int t0), (0, .ref h9), (2, .int l2)]) hx hb dL_isRolled_29 rfl hl (by decide) rfl (fun ls hl => ?_)
    refine lv_aload_n hx hb dL_isRolled_30 rfl (lv_at hl 1 rfl) ?_
    refine lv_iload_n hx hb dL_isRolled_31 rfl (lv_at hl 2 rfl) ?_
    refine lv_iload_n hx hb dL_isRolled_32 rfl (lv_at hl 0 rfl) ?_
    obtain ⟨r37, hc33, hm⟩ := k_bds hm
    refine k_i_sE (k_rV (As := [.int l2, .int t0]) (rest := []) ⟨hx, hb, hml, hown, hts⟩ hK hN hP hD (zB_playsWith hc33) (cwV 2 hts gL_isRolled_X9_playsWith rfl rfl rfl (by decide +kernel) ⟨Nat.le_of_ble_eq_true rfl, Nat.le_of_ble_eq_true rfl⟩) rfl rfl rfl hl.1 rfl (Nat.le_of_ble_eq_true rfl) dL_isRolled_33 ⟨Nat.zero_le _, Nat.zero_le _⟩) hD hS hA (fun u9 H locs hP hD hS => ?_)
    obtain ⟨u38, u39, u40, u41⟩ := u9
    have hP : va_P D vwCl (wXt cI cJ cC cG h9 hn ap u38 ht h0 u39 u40 pc u41 x) H := hP
    have hD : va_D A (wXt cI cJ cC cG h9 hn ap u38 ht h0 u39 u40 pc u41 x) := hD
    refine lv_istore (lv' := [(4, .int r37), (3, .int t0), (0, .ref h9), (2, .int l2)]) hx hb dL_isRolled_36 hl (by decide) rfl (fun ls hl => ?_)
    refine lv_aload_n hx hb dL_isRolled_38 rfl (lv_at hl 2 rfl) ?_
    refine lv_iload_n hx hb dL_isRolled_39 rfl (lv_at hl 1 rfl) ?_
    refine lv_iload_n hx hb dL_isRolled_40 rfl (lv_at hl 3 rfl) ?_
    obtain ⟨r42, hc41, hm⟩ := k_bds hm
    refine k_i_sE (k_rV (As := [.int t0, .int l2]) (rest := []) ⟨hx, hb, hml, hown, hts⟩ hK hN hP hD (zB_playsWith hc41) (cwV 2 hts gL_isRolled_X9_playsWith rfl rfl rfl (by decide +kernel) ⟨Nat.le_of_ble_eq_true rfl, Nat.le_of_ble_eq_true rfl⟩) rfl rfl rfl hl.1 rfl (Nat.le_of_ble_eq_true rfl) dL_isRolled_41 ⟨Nat.zero_le _, Nat.zero_le _⟩) hD hS hA (fun u9 H locs hP hD hS => ?_)
    obtain ⟨u43, u44, u45, u46⟩ := u9
    have hP : va_P D vwCl (wXt cI cJ cC cG h9 hn ap u43 ht h0 u44 u45 pc u46 x) H := hP
    have hD : va_D A (wXt cI cJ cC cG h9 hn ap u43 ht h0 u44 u45 pc u46 x) := hD
    refine lv_iload hx hb dL_isRolled_44 (lv_at hl 0 rfl) ?_
    refine lv_icmp_ne (tgt := 53) hx hb dL_isRolled_46 (by decide) (fun cc46 => ?_) (fun cc46 => ?_)
    · have hm := k_in cc46 hm
      refine lv_iconst (v := 0) hx hb dL_isRolled_53 (by decide) ?_
      exact J_54 u43 u44 u45 u46 false l2 t0 r37 x _ _ hP hD hS _ (lv_sub hl [2, 3, 1, 0] rfl) hm
    · have hm := k_ip cc46 hm
      refine lv_iconst (v := 1) hx hb dL_isRolled_49 (by decide) ?_
      refine lv_goto (tgt := 54) hx hb dL_isRolled_50 (by decide) ?_
      exact J_54 u43 u44 u45 u46 true l2 t0 r37 x _ _ hP hD hS _ (lv_sub hl [2, 3, 1, 0] rfl) hm
  unfold mL_isRolled at hm
  refine lv_iconst (v := 1) hx hb dL_isRolled_0 (by decide) ?_
  refine lv_iload_n hx hb dL_isRolled_1 rfl (lv_at hl 1 rfl) ?_
  refine lv_bipush (v := 6) hx hb dL_isRolled_2 (by decide) ?_
  obtain ⟨r47, hc4, hm⟩ := k_bds hm
  refine k_i_0 (k_rS (As := [.int a1, .int 6]) (rest := [.int 1]) ⟨hx, hb, hml, hown, hts⟩ hK hN k_P0 (k_D0 (A := A)) (zL_low hc4) (va_cwS 2 hts gL_isRolled_L_low rfl rfl rfl (by decide +kernel) ⟨Nat.le_of_ble_eq_true rfl, Nat.le_of_ble_eq_true rfl⟩) rfl hl.1 rfl (Nat.le_of_ble_eq_true rfl) dL_isRolled_4 ⟨Nat.zero_le _, Nat.zero_le _⟩) hP hS hA (fun H locs hP hS => ?_)
  refine lv_iadd hx hb dL_isRolled_7 ?_
  refine lv_istore_n (lv' := [(2, .int (1 + r47)), (0, .ref h9), (1, .int a1)]) hx hb dL_isRolled_8 rfl hl (by decide) rfl (fun ls hl => ?_)
  refine lv_iload_n hx hb dL_isRolled_9 rfl (lv_at hl 2 rfl) ?_
  refine lv_iconst (v := 3) hx hb dL_isRolled_10 (by decide) ?_
  refine lv_iand hx hb dL_isRolled_11 ?_
  refine lv_if_ne (tgt := 19) hx hb dL_isRolled_12 (by decide) (fun cc12 => ?_) (fun cc12 => ?_)
  · have hm := k_in cc12 hm
    refine lv_iconst (v := 1) hx hb dL_isRolled_19 (by decide) ?_
    refine lv_iload_n hx hb dL_isRolled_20 rfl (lv_at hl 2 rfl) ?_
    refine lv_iconst (v := 3) hx hb dL_isRolled_21 (by decide) ?_
    refine lv_ishr hx hb dL_isRolled_22 ?_
    refine lv_bipush (v := 6) hx hb dL_isRolled_23 (by decide) ?_
    obtain ⟨r48, hc25, hm⟩ := k_bds hm
    refine k_i_0 (k_rS (As := [.int (a1 >>> ((3 : Int32) &&& 31)), .int 6]) (rest := [.int 1]) ⟨hx, hb, hml, hown, hts⟩ hK hN k_P0 (k_D0 (A := A)) (zL_low hc25) (va_cwS 2 hts gL_isRolled_L_low rfl rfl rfl (by decide +kernel) ⟨Nat.le_of_ble_eq_true rfl, Nat.le_of_ble_eq_true rfl⟩) rfl hl.1 rfl (Nat.le_of_ble_eq_true rfl) dL_isRolled_25 ⟨Nat.zero_le _, Nat.zero_le _⟩) hP hS hA (fun H locs hP hS => ?_)
    refine lv_iadd hx hb dL_isRolled_28 ?_
    exact J_29 q pa pb jk (1 + r48) (1 + r47) x _ _ hP hD hS _ (lv_sub hl [1, 0] rfl) hm
  · have hm := k_ip cc12 hm
    refine lv_iload_n hx hb dL_isRolled_15 rfl (lv_at hl 0 rfl) ?_
    refine lv_goto (tgt := 29) hx hb dL_isRolled_16 (by decide) ?_
    exact J_29 q pa pb jk (1 + r47) (1 + r47) x _ _ hP hD hS _ (lv_sub hl [1, 0] rfl) hm

abbrev rmL_isOffered : Room := { frames := 5, cells := 0, slots := 0, locals := 142 }
set_option maxHeartbeats 4000000 in
set_option maxRecDepth 100000 in
theorem zL_isOffered {l : Launch} {D : va_G} {cI cJ cC cG : ClassId} {sz : Nat} {h9 hn h0 : Nat} {ap q ht pa pb pc : Nat → Nat} {jk : JT} {x : XT} {a1 : Bool} {r : Bool} {x' : XT} (hm : mL_isOffered x a1 = some (r, x')) : k_MiE l yL_isOffered wsL_isOffered rmL_isOffered D (kT cI cJ cC cG) sz ([.ref h9, .int (k_b a1)] : List Value) (wXt cI cJ cC cG h9 hn ap q ht h0 pa pb pc jk x) (fun u : (Nat → Nat) × (Nat → Nat) × (Nat → Nat) × (JT) => (wXt cI cJ cC cG h9 hn ap (u.1) ht h0 (u.2.1) (u.2.2.1) pc (u.2.2.2) x')) (k_b r) := by
  refine k_st_iE (cc := cL_isOffered) (maxL := 6) (by decide) rfl (Nat.le_of_ble_eq_true rfl) ?_
  intro p e z m below meth c A hx hb hr hml hts hown hlocks hsz hN hA hK hP hD hS ls hl
  have hown : z.vm.findClass RL = some m.cls := hown
  have hl : lv_has ls 6 [(0, .ref h9), (1, .int (k_b a1))] := hl
  have J_66 : ∀ (q : Nat → Nat) (pa : Nat → Nat) (pb : Nat → Nat) (jk : JT) (t0 : Bool) (l2 : Int32) (l3 : Int32) (l4 : Int32) (x : XT) (H : Heap) (locs : List Loc), va_P D vwCl (wXt cI cJ cC cG h9 hn ap q ht h0 pa pb pc jk x) H → va_D A (wXt cI cJ cC cG h9 hn ap q ht h0 pa pb pc jk x) → va_S A z.heap H locs → ∀ ls : Array Slot, lv_has ls 6 [(0, .ref h9), (1, .int (k_b a1)), (2, .int l2), (3, .int l3), (4, .int l4)] → mL_isOffered_66 a1 t0 l2 l3 l4 x = some (r, x') → W p l e rmL_isOffered z m ([.ref h9, .int (k_b a1)] : List Value).toArray below meth c H locs 0 0 (k_QiE below ([.ref h9, .int (k_b a1)] : List Value) D (kT cI cJ cC cG) z A (fun u : (Nat → Nat) × (Nat → Nat) × (Nat → Nat) × (JT) => (wXt cI cJ cC cG h9 hn ap (u.1) ht h0 (u.2.1) (u.2.2.1) pc (u.2.2.2) x')) (k_b r)) (F0 m 66 ls [.int (k_b t0)]) := by
    intro q pa pb jk t0 l2 l3 l4 x H locs hP hD hS ls hl hm
    unfold mL_isOffered_66 at hm
    refine lv_istore (lv' := [(5, .int (k_b t0)), (0, .ref h9), (1, .int (k_b a1)), (2, .int l2), (3, .int l3), (4, .int l4)]) hx hb dL_isOffered_66 hl (by decide) rfl (fun ls hl => ?_)
    refine lv_iload_n hx hb dL_isOffered_68 rfl (lv_at hl 2 rfl) ?_
    refine lv_if_eq (tgt := 128) hx hb dL_isOffered_69 (by decide) (fun cc69 => ?_) (fun cc69 => ?_)
    · have hm := k_ip cc69 hm
      refine lv_iload hx hb dL_isOffered_128 (lv_at hl 0 rfl) ?_
      refine lv_if_eq (tgt := 168) hx hb dL_isOffered_130 (by decide) (fun cc130 => ?_) (fun cc130 => ?_)
      · have hm := k_ip cc130 hm
        refine lv_iconst (v := 0) hx hb dL_isOffered_168 (by decide) ?_
        cases hm
        exact k_end_zE (q, pa, pb, jk) false hx hb hr hlocks hK hP hD hS dL_isOffered_169
      · have hm := k_in cc130 hm
        refine lv_aload_n hx hb dL_isOffered_133 rfl (lv_at hl 1 rfl) ?_
        obtain ⟨r1, w2, hc134, hm⟩ := k_bd2s hm
        refine k_i_sE (k_rV (As := []) (rest := []) ⟨hx, hb, hml, hown, hts⟩ hK hN hP hD (zB_drop hc134) (cwV 0 hts gL_isOffered_X9_drop rfl rfl rfl (by decide +kernel) ⟨Nat.le_of_ble_eq_true rfl, Nat.le_of_ble_eq_true rfl⟩) rfl rfl rfl hl.1 rfl (Nat.le_of_ble_eq_true rfl) dL_isOffered_134 ⟨Nat.zero_le _, Nat.zero_le _⟩) hD hS hA (fun u9 H locs hP hD hS => ?_)
        obtain ⟨u3, u4, u5, u6⟩ := u9
        have hP : va_P D vwCl (wXt cI cJ cC cG h9 hn ap u3 ht h0 u4 u5 pc u6 w2) H := hP
        have hD : va_D A (wXt cI cJ cC cG h9 hn ap u3 ht h0 u4 u5 pc u6 w2) := hD
        refine lv_iload hx hb dL_isOffered_137 (lv_at hl 5 rfl) ?_
        refine lv_iload_n hx hb dL_isOffered_139 rfl (lv_at hl 3 rfl) ?_
        refine lv_iadd hx hb dL_isOffered_140 ?_
        refine lv_icmp_ne (tgt := 168) hx hb dL_isOffered_141 (by decide) (fun cc141 => ?_) (fun cc141 => ?_)
        · have hm := k_in cc141 hm
          refine lv_iconst (v := 0) hx hb dL_isOffered_168 (by decide) ?_
          cases hm
          exact k_end_zE (u3, u4, u5, u6) false hx hb hr hlocks hK hP hD hS dL_isOffered_169
        · have hm := k_ip cc141 hm
          refine lv_aload_n hx hb dL_isOffered_144 rfl (lv_at hl 1 rfl) ?_
          obtain ⟨r7, hc145, hm⟩ := k_bds hm
          refine k_i_sE (k_rV (As := []) (rest := []) ⟨hx, hb, hml, hown, hts⟩ hK hN hP hD (zB_phase hc145) (cwV 0 hts gL_isOffered_X9_phase rfl rfl rfl (by decide +kernel) ⟨Nat.le_of_ble_eq_true rfl, Nat.le_of_ble_eq_true rfl⟩) rfl rfl rfl hl.1 rfl (Nat.le_of_ble_eq_true rfl) dL_isOffered_145 ⟨Nat.zero_le _, Nat.zero_le _⟩) hD hS hA (fun u9 H locs hP hD hS => ?_)
          obtain ⟨u8, u9, u10, u11⟩ := u9
          have hP : va_P D vwCl (wXt cI cJ cC cG h9 hn ap u8 ht h0 u9 u10 pc u11 w2) H := hP
          have hD : va_D A (wXt cI cJ cC cG h9 hn ap u8 ht h0 u9 u10 pc u11 w2) := hD
          refine lv_iconst (v := 3) hx hb dL_isOffered_148 (by decide) ?_
          refine lv_icmp_ne (tgt := 168) hx hb dL_isOffered_149 (by decide) (fun cc149 => ?_) (fun cc149 => ?_)
          · have hm := k_in cc149 hm
            refine lv_iconst (v := 0) hx hb dL_isOffered_168 (by decide) ?_
            cases hm
            exact k_end_zE (u8, u9, u10, u11) false hx hb hr hlocks hK hP hD hS dL_isOffered_169
          · have hm := k_ip cc149 hm
            refine lv_aload_n hx hb dL_isOffered_152 rfl (lv_at hl 1 rfl) ?_
            refine lv_iload_n hx hb dL_isOffered_153 rfl (lv_at hl 4 rfl) ?_
            obtain ⟨r12, hc154, hm⟩ := k_bds hm
            refine k_i_sE (k_rV (As := [.int l3]) (rest := []) ⟨hx, hb, hml, hown, hts⟩ hK hN hP hD (zB_score hc154) (cwV 1 hts gL_isOffered_X9_score rfl rfl rfl (by decide +kernel) ⟨Nat.le_of_ble_eq_true rfl, Nat.le_of_ble_eq_true rfl⟩) rfl rfl rfl hl.1 rfl (Nat.le_of_ble_eq_true rfl) dL_isOffered_154 ⟨Nat.zero_le _, Nat.zero_le _⟩) hD hS hA (fun u9 H locs hP hD hS => ?_)
            obtain ⟨u13, u14, u15, u16⟩ := u9
            have hP : va_P D vwCl (wXt cI cJ cC cG h9 hn ap u13 ht h0 u14 u15 pc u16 w2) H := hP
            have hD : va_D A (wXt cI cJ cC cG h9 hn ap u13 ht h0 u14 u15 pc u16 w2) := hD
            refine lv_iload hx hb dL_isOffered_157 (lv_at hl 5 rfl) ?_
            refine lv_iload_n hx hb dL_isOffered_159 rfl (lv_at hl 3 rfl) ?_
            refine lv_iadd hx hb dL_isOffered_160 ?_
            refine lv_icmp_ne (tgt := 168) hx hb dL_isOffered_161 (by decide) (fun cc161 => ?_) (fun cc161 => ?_)
            · have hm := k_in cc161 hm
              refine lv_iconst (v := 0) hx hb dL_isOffered_168 (by decide) ?_
              cases hm
              exact k_end_zE (u13, u14, u15, u16) false hx hb hr hlocks hK hP hD hS dL_isOffered_169
            · have hm := k_ip cc161 hm
              refine lv_iconst (v := 1) hx hb dL_isOffered_164 (by decide) ?_
              refine lv_goto (tgt := 169) hx hb dL_isOffered_165 (by decide) ?_
              cases hm
              exact k_end_zE (u13, u14, u15, u16) true hx hb hr hlocks hK hP hD hS dL_isOffered_169
    · have hm := k_in cc69 hm
      refine lv_iload hx hb dL_isOffered_72 (lv_at hl 0 rfl) ?_
      refine lv_if_eq (tgt := 126) hx hb dL_isOffered_74 (by decide) (fun cc74 => ?_) (fun cc74 => ?_)
      · have hm := k_ip cc74 hm
        refine lv_iconst (v := 0) hx hb dL_isOffered_126 (by decide) ?_
        cases hm
        exact k_end_zE (q, pa, pb, jk) false hx hb hr hlocks hK hP hD hS dL_isOffered_127
      · have hm := k_in cc74 hm
        refine lv_aload_n hx hb dL_isOffered_77 rfl (lv_at hl 1 rfl) ?_
        obtain ⟨r17, w18, hc78, hm⟩ := k_bd2s hm
        refine k_i_sE (k_rV (As := []) (rest := []) ⟨hx, hb, hml, hown, hts⟩ hK hN hP hD (zB_take hc78) (cwV 0 hts gL_isOffered_X9_take rfl rfl rfl (by decide +kernel) ⟨Nat.le_of_ble_eq_true rfl, Nat.le_of_ble_eq_true rfl⟩) rfl rfl rfl hl.1 rfl (Nat.le_of_ble_eq_true rfl) dL_isOffered_78 ⟨Nat.zero_le _, Nat.zero_le _⟩) hD hS hA (fun u9 H locs hP hD hS => ?_)
        obtain ⟨u19, u20, u21, u22⟩ := u9
        have hP : va_P D vwCl (wXt cI cJ cC cG h9 hn ap u19 ht h0 u20 u21 pc u22 w18) H := hP
        have hD : va_D A (wXt cI cJ cC cG h9 hn ap u19 ht h0 u20 u21 pc u22 w18) := hD
        refine lv_iconst (v := 2) hx hb dL_isOffered_81 (by decide) ?_
        refine lv_iload_n hx hb dL_isOffered_82 rfl (lv_at hl 3 rfl) ?_
        refine lv_imul hx hb dL_isOffered_83 ?_
        refine lv_icmp_ne (tgt := 126) hx hb dL_isOffered_84 (by decide) (fun cc84 => ?_) (fun cc84 => ?_)
        · have hm := k_in cc84 hm
          refine lv_iconst (v := 0) hx hb dL_isOffered_126 (by decide) ?_
          cases hm
          exact k_end_zE (u19, u20, u21, u22) false hx hb hr hlocks hK hP hD hS dL_isOffered_127
        · have hm := k_ip cc84 hm
          refine lv_aload_n hx hb dL_isOffered_87 rfl (lv_at hl 1 rfl) ?_
          obtain ⟨r23, hc88, hm⟩ := k_bds hm
          refine k_i_sE (k_rV (As := []) (rest := []) ⟨hx, hb, hml, hown, hts⟩ hK hN hP hD (zB_stake hc88) (cwV 0 hts gL_isOffered_X9_stake rfl rfl rfl (by decide +kernel) ⟨Nat.le_of_ble_eq_true rfl, Nat.le_of_ble_eq_true rfl⟩) rfl rfl rfl hl.1 rfl (Nat.le_of_ble_eq_true rfl) dL_isOffered_88 ⟨Nat.zero_le _, Nat.zero_le _⟩) hD hS hA (fun u9 H locs hP hD hS => ?_)
          obtain ⟨u24, u25, u26, u27⟩ := u9
          have hP : va_P D vwCl (wXt cI cJ cC cG h9 hn ap u24 ht h0 u25 u26 pc u27 w18) H := hP
          have hD : va_D A (wXt cI cJ cC cG h9 hn ap u24 ht h0 u25 u26 pc u27 w18) := hD
          refine lv_iconst (v := 2) hx hb dL_isOffered_91 (by decide) ?_
          refine lv_iload_n hx hb dL_isOffered_92 rfl (lv_at hl 3 rfl) ?_
          refine lv_imul hx hb dL_isOffered_93 ?_
          refine lv_icmp_ne (tgt := 126) hx hb dL_isOffered_94 (by decide) (fun cc94 => ?_) (fun cc94 => ?_)
          · have hm := k_in cc94 hm
            refine lv_iconst (v := 0) hx hb dL_isOffered_126 (by decide) ?_
            cases hm
            exact k_end_zE (u24, u25, u26, u27) false hx hb hr hlocks hK hP hD hS dL_isOffered_127
          · have hm := k_ip cc94 hm
            refine lv_aload_n hx hb dL_isOffered_97 rfl (lv_at hl 1 rfl) ?_
            obtain ⟨r28, hc98, hm⟩ := k_bds hm
            refine k_i_sE (k_rV (As := []) (rest := []) ⟨hx, hb, hml, hown, hts⟩ hK hN hP hD (zB_cubeOf hc98) (cwV 0 hts gL_isOffered_X9_cubeOf rfl rfl rfl (by decide +kernel) ⟨Nat.le_of_ble_eq_true rfl, Nat.le_of_ble_eq_true rfl⟩) rfl rfl rfl hl.1 rfl (Nat.le_of_ble_eq_true rfl) dL_isOffered_98 ⟨Nat.zero_le _, Nat.zero_le _⟩) hD hS hA (fun u9 H locs hP hD hS => ?_)
            obtain ⟨u29, u30, u31, u32⟩ := u9
            have hP : va_P D vwCl (wXt cI cJ cC cG h9 hn ap u29 ht h0 u30 u31 pc u32 w18) H := hP
            have hD : va_D A (wXt cI cJ cC cG h9 hn ap u29 ht h0 u30 u31 pc u32 w18) := hD
            refine lv_iconst (v := 1) hx hb dL_isOffered_101 (by decide) ?_
            refine lv_iload_n hx hb dL_isOffered_102 rfl (lv_at hl 4 rfl) ?_
            refine lv_isub hx hb dL_isOffered_103 ?_
            refine lv_icmp_ne (tgt := 126) hx hb dL_isOffered_104 (by decide) (fun cc104 => ?_) (fun cc104 => ?_)
            · have hm := k_in cc104 hm
              refine lv_iconst (v := 0) hx hb dL_isOffered_126 (by decide) ?_
              cases hm
              exact k_end_zE (u29, u30, u31, u32) false hx hb hr hlocks hK hP hD hS dL_isOffered_127
            · have hm := k_ip cc104 hm
              refine lv_aload_n hx hb dL_isOffered_107 rfl (lv_at hl 1 rfl) ?_
              obtain ⟨r33, hc108, hm⟩ := k_bds hm
              refine k_i_sE (k_rV (As := []) (rest := []) ⟨hx, hb, hml, hown, hts⟩ hK hN hP hD (zB_phase hc108) (cwV 0 hts gL_isOffered_X9_phase rfl rfl rfl (by decide +kernel) ⟨Nat.le_of_ble_eq_true rfl, Nat.le_of_ble_eq_true rfl⟩) rfl rfl rfl hl.1 rfl (Nat.le_of_ble_eq_true rfl) dL_isOffered_108 ⟨Nat.zero_le _, Nat.zero_le _⟩) hD hS hA (fun u9 H locs hP hD hS => ?_)
              obtain ⟨u34, u35, u36, u37⟩ := u9
              have hP : va_P D vwCl (wXt cI cJ cC cG h9 hn ap u34 ht h0 u35 u36 pc u37 w18) H := hP
              have hD : va_D A (wXt cI cJ cC cG h9 hn ap u34 ht h0 u35 u36 pc u37 w18) := hD
              refine lv_if_ne (tgt := 126) hx hb dL_isOffered_111 (by decide) (fun cc111 => ?_) (fun cc111 => ?_)
              · have hm := k_in cc111 hm
                refine lv_iconst (v := 0) hx hb dL_isOffered_126 (by decide) ?_
                cases hm
                exact k_end_zE (u34, u35, u36, u37) false hx hb hr hlocks hK hP hD hS dL_isOffered_127
              · have hm := k_ip cc111 hm
                refine lv_aload_n hx hb dL_isOffered_114 rfl (lv_at hl 1 rfl) ?_
                obtain ⟨r38, hc115, hm⟩ := k_bds hm
                refine k_i_sE (k_rV (As := []) (rest := []) ⟨hx, hb, hml, hown, hts⟩ hK hN hP hD (zB_mover hc115) (cwV 0 hts gL_isOffered_X9_mover rfl rfl rfl (by decide +kernel) ⟨Nat.le_of_ble_eq_true rfl, Nat.le_of_ble_eq_true rfl⟩) rfl rfl rfl hl.1 rfl (Nat.le_of_ble_eq_true rfl) dL_isOffered_115 ⟨Nat.zero_le _, Nat.zero_le _⟩) hD hS hA (fun u9 H locs hP hD hS => ?_)
                obtain ⟨u39, u40, u41, u42⟩ := u9
                have hP : va_P D vwCl (wXt cI cJ cC cG h9 hn ap u39 ht h0 u40 u41 pc u42 w18) H := hP
                have hD : va_D A (wXt cI cJ cC cG h9 hn ap u39 ht h0 u40 u41 pc u42 w18) := hD
                refine lv_iload_n hx hb dL_isOffered_118 rfl (lv_at hl 4 rfl) ?_
                refine lv_icmp_ne (tgt := 126) hx hb dL_isOffered_119 (by decide) (fun cc119 => ?_) (fun cc119 => ?_)
                · have hm := k_in cc119 hm
                  refine lv_iconst (v := 0) hx hb dL_isOffered_126 (by decide) ?_
                  cases hm
                  exact k_end_zE (u39, u40, u41, u42) false hx hb hr hlocks hK hP hD hS dL_isOffered_127
                · have hm := k_ip cc119 hm
                  refine lv_iconst (v := 1) hx hb dL_isOffered_122 (by decide) ?_
                  refine lv_goto (tgt := 127) hx hb dL_isOffered_123 (by decide) ?_
                  cases hm
                  exact k_end_zE (u39, u40, u41, u42) true hx hb hr hlocks hK hP hD hS dL_isOffered_127
  have J_65 : ∀ (q : Nat → Nat) (pa : Nat → Nat) (pb : Nat → Nat) (jk : JT) (l2 : Int32) (l3 : Int32) (l4 : Int32) (x : XT) (H : Heap) (locs : List Loc), va_P D vwCl (wXt cI cJ cC cG h9 hn ap q ht h0 pa pb pc jk x) H → va_D A (wXt cI cJ cC cG h9 hn ap q ht h0 pa pb pc jk x) → va_S A z.heap H locs → ∀ ls : Array Slot, lv_has ls 6 [(0, .ref h9), (1, .int (k_b a1)), (2, .int l2), (3, .int l3), (4, .int l4)] → mL_isOffered_65 a1 l2 l3 l4 x = some (r, x') → W p l e rmL_isOffered z m ([.ref h9, .int (k_b a1)] : List Value).toArray below meth c H locs 0 0 (k_QiE below ([.ref h9, .int (k_b a1)] : List Value) D (kT cI cJ cC cG) z A (fun u : (Nat → Nat) × (Nat → Nat) × (Nat → Nat) × (JT) => (wXt cI cJ cC cG h9 hn ap (u.1) ht h0 (u.2.1) (u.2.2.1) pc (u.2.2.2) x')) (k_b r)) (F0 m 65 ls []) := by
    intro q pa pb jk l2 l3 l4 x H locs hP hD hS ls hl hm
    unfold mL_isOffered_65 at hm
    refine lv_iconst (v := 0) hx hb dL_isOffered_65 (by decide) ?_
    exact J_66 q pa pb jk false l2 l3 l4 x _ _ hP hD hS _ (lv_sub hl [0, 1, 2, 3, 4] rfl) hm
  unfold mL_isOffered at hm
  refine lv_aload_n hx hb dL_isOffered_0 rfl (lv_at hl 0 rfl) ?_
  obtain ⟨r43, hc1, hm⟩ := k_bds hm
  refine k_i_sE (k_rV (As := []) (rest := []) ⟨hx, hb, hml, hown, hts⟩ hK hN hP hD (zB_stake hc1) (cwV 0 hts gL_isOffered_X9_stake rfl rfl rfl (by decide +kernel) ⟨Nat.le_of_ble_eq_true rfl, Nat.le_of_ble_eq_true rfl⟩) rfl rfl rfl hl.1 rfl (Nat.le_of_ble_eq_true rfl) dL_isOffered_1 ⟨Nat.zero_le _, Nat.zero_le _⟩) hD hS hA (fun u9 H locs hP hD hS => ?_)
  obtain ⟨u44, u45, u46, u47⟩ := u9
  have hP : va_P D vwCl (wXt cI cJ cC cG h9 hn ap u44 ht h0 u45 u46 pc u47 x) H := hP
  have hD : va_D A (wXt cI cJ cC cG h9 hn ap u44 ht h0 u45 u46 pc u47 x) := hD
  refine lv_istore_n (lv' := [(2, .int r43), (0, .ref h9), (1, .int (k_b a1))]) hx hb dL_isOffered_4 rfl hl (by decide) rfl (fun ls hl => ?_)
  refine lv_aload_n hx hb dL_isOffered_5 rfl (lv_at hl 1 rfl) ?_
  obtain ⟨r48, hc6, hm⟩ := k_bds hm
  refine k_i_sE (k_rV (As := []) (rest := []) ⟨hx, hb, hml, hown, hts⟩ hK hN hP hD (zB_mover hc6) (cwV 0 hts gL_isOffered_X9_mover rfl rfl rfl (by decide +kernel) ⟨Nat.le_of_ble_eq_true rfl, Nat.le_of_ble_eq_true rfl⟩) rfl rfl rfl hl.1 rfl (Nat.le_of_ble_eq_true rfl) dL_isOffered_6 ⟨Nat.zero_le _, Nat.zero_le _⟩) hD hS hA (fun u9 H locs hP hD hS => ?_)
  obtain ⟨u49, u50, u51, u52⟩ := u9
  have hP : va_P D vwCl (wXt cI cJ cC cG h9 hn ap u49 ht h0 u50 u51 pc u52 x) H := hP
  have hD : va_D A (wXt cI cJ cC cG h9 hn ap u49 ht h0 u50 u51 pc u52 x) := hD
  refine lv_istore_n (lv' := [(3, .int r48), (2, .int r43), (0, .ref h9), (1, .int (k_b a1))]) hx hb dL_isOffered_9 rfl hl (by decide) rfl (fun ls hl => ?_)
  refine lv_aload_n hx hb dL_isOffered_10 rfl (lv_at hl 2 rfl) ?_
  refine lv_iload_n hx hb dL_isOffered_11 rfl (lv_at hl 0 rfl) ?_
  obtain ⟨r53, hc12, hm⟩ := k_bds hm
  refine k_i_sE (k_rV (As := [.int r48]) (rest := []) ⟨hx, hb, hml, hown, hts⟩ hK hN hP hD (zB_score hc12) (cwV 1 hts gL_isOffered_X9_score rfl rfl rfl (by decide +kernel) ⟨Nat.le_of_ble_eq_true rfl, Nat.le_of_ble_eq_true rfl⟩) rfl rfl rfl hl.1 rfl (Nat.le_of_ble_eq_true rfl) dL_isOffered_12 ⟨Nat.zero_le _, Nat.zero_le _⟩) hD hS hA (fun u9 H locs hP hD hS => ?_)
  obtain ⟨u54, u55, u56, u57⟩ := u9
  have hP : va_P D vwCl (wXt cI cJ cC cG h9 hn ap u54 ht h0 u55 u56 pc u57 x) H := hP
  have hD : va_D A (wXt cI cJ cC cG h9 hn ap u54 ht h0 u55 u56 pc u57 x) := hD
  refine lv_istore (lv' := [(4, .int r53), (3, .int r48), (2, .int r43), (0, .ref h9), (1, .int (k_b a1))]) hx hb dL_isOffered_15 hl (by decide) rfl (fun ls hl => ?_)
  refine lv_iload_n hx hb dL_isOffered_17 rfl (lv_at hl 2 rfl) ?_
  refine lv_bipush (v := 32) hx hb dL_isOffered_18 (by decide) ?_
  refine lv_icmp_gt (tgt := 33) hx hb dL_isOffered_20 (by decide) (fun cc20 => ?_) (fun cc20 => ?_)
  · have hm := k_ip cc20 hm
    refine lv_iconst (v := 1) hx hb dL_isOffered_33 (by decide) ?_
    cases hm
    exact k_end_zE (u54, u55, u56, u57) true hx hb hr hlocks hK hP hD hS dL_isOffered_34
  · have hm := k_in cc20 hm
    refine lv_aload_n hx hb dL_isOffered_23 rfl (lv_at hl 3 rfl) ?_
    obtain ⟨r58, hc24, hm⟩ := k_bds hm
    refine k_i_sE (k_rV (As := []) (rest := []) ⟨hx, hb, hml, hown, hts⟩ hK hN hP hD (zB_cubeOf hc24) (cwV 0 hts gL_isOffered_X9_cubeOf rfl rfl rfl (by decide +kernel) ⟨Nat.le_of_ble_eq_true rfl, Nat.le_of_ble_eq_true rfl⟩) rfl rfl rfl hl.1 rfl (Nat.le_of_ble_eq_true rfl) dL_isOffered_24 ⟨Nat.zero_le _, Nat.zero_le _⟩) hD hS hA (fun u9 H locs hP hD hS => ?_)
    obtain ⟨u59, u60, u61, u62⟩ := u9
    have hP : va_P D vwCl (wXt cI cJ cC cG h9 hn ap u59 ht h0 u60 u61 pc u62 x) H := hP
    have hD : va_D A (wXt cI cJ cC cG h9 hn ap u59 ht h0 u60 u61 pc u62 x) := hD
    refine lv_iconst (v := 1) hx hb dL_isOffered_27 (by decide) ?_
    refine lv_iload_n hx hb dL_isOffered_28 rfl (lv_at hl 1 rfl) ?_
    refine lv_isub hx hb dL_isOffered_29 ?_
    refine lv_icmp_ne (tgt := 35) hx hb dL_isOffered_30 (by decide) (fun cc30 => ?_) (fun cc30 => ?_)
    · have hm := k_in cc30 hm
      refine lv_aload_n hx hb dL_isOffered_35 rfl (lv_at hl 3 rfl) ?_
      obtain ⟨r63, w64, hc36, hm⟩ := k_bd2s hm
      refine k_i_sE (k_rV (As := []) (rest := []) ⟨hx, hb, hml, hown, hts⟩ hK hN hP hD (zB_offer hc36) (cwV 0 hts gL_isOffered_X9_offer rfl rfl rfl (by decide +kernel) ⟨Nat.le_of_ble_eq_true rfl, Nat.le_of_ble_eq_true rfl⟩) rfl rfl rfl hl.1 rfl (Nat.le_of_ble_eq_true rfl) dL_isOffered_36 ⟨Nat.zero_le _, Nat.zero_le _⟩) hD hS hA (fun u9 H locs hP hD hS => ?_)
      obtain ⟨u65, u66, u67, u68⟩ := u9
      have hP : va_P D vwCl (wXt cI cJ cC cG h9 hn ap u65 ht h0 u66 u67 pc u68 w64) H := hP
      have hD : va_D A (wXt cI cJ cC cG h9 hn ap u65 ht h0 u66 u67 pc u68 w64) := hD
      refine lv_iconst (v := 2) hx hb dL_isOffered_39 (by decide) ?_
      refine lv_iload_n hx hb dL_isOffered_40 rfl (lv_at hl 2 rfl) ?_
      refine lv_imul hx hb dL_isOffered_41 ?_
      refine lv_icmp_ne (tgt := 65) hx hb dL_isOffered_42 (by decide) (fun cc42 => ?_) (fun cc42 => ?_)
      · have hm := k_in cc42 hm
        exact J_65 u65 u66 u67 u68 r43 r48 r53 w64 _ _ hP hD hS _ (lv_sub hl [3, 4, 2, 1, 0] rfl) hm
      · have hm := k_ip cc42 hm
        refine lv_aload_n hx hb dL_isOffered_45 rfl (lv_at hl 3 rfl) ?_
        obtain ⟨r69, hc46, hm⟩ := k_bds hm
        refine k_i_sE (k_rV (As := []) (rest := []) ⟨hx, hb, hml, hown, hts⟩ hK hN hP hD (zB_phase hc46) (cwV 0 hts gL_isOffered_X9_phase rfl rfl rfl (by decide +kernel) ⟨Nat.le_of_ble_eq_true rfl, Nat.le_of_ble_eq_true rfl⟩) rfl rfl rfl hl.1 rfl (Nat.le_of_ble_eq_true rfl) dL_isOffered_46 ⟨Nat.zero_le _, Nat.zero_le _⟩) hD hS hA (fun u9 H locs hP hD hS => ?_)
        obtain ⟨u70, u71, u72, u73⟩ := u9
        have hP : va_P D vwCl (wXt cI cJ cC cG h9 hn ap u70 ht h0 u71 u72 pc u73 w64) H := hP
        have hD : va_D A (wXt cI cJ cC cG h9 hn ap u70 ht h0 u71 u72 pc u73 w64) := hD
        refine lv_iconst (v := 2) hx hb dL_isOffered_49 (by decide) ?_
        refine lv_icmp_ne (tgt := 65) hx hb dL_isOffered_50 (by decide) (fun cc50 => ?_) (fun cc50 => ?_)
        · have hm := k_in cc50 hm
          exact J_65 u70 u71 u72 u73 r43 r48 r53 w64 _ _ hP hD hS _ (lv_sub hl [3, 4, 2, 1, 0] rfl) hm
        · have hm := k_ip cc50 hm
          refine lv_aload_n hx hb dL_isOffered_53 rfl (lv_at hl 3 rfl) ?_
          obtain ⟨r74, hc54, hm⟩ := k_bds hm
          refine k_i_sE (k_rV (As := []) (rest := []) ⟨hx, hb, hml, hown, hts⟩ hK hN hP hD (zB_stake hc54) (cwV 0 hts gL_isOffered_X9_stake rfl rfl rfl (by decide +kernel) ⟨Nat.le_of_ble_eq_true rfl, Nat.le_of_ble_eq_true rfl⟩) rfl rfl rfl hl.1 rfl (Nat.le_of_ble_eq_true rfl) dL_isOffered_54 ⟨Nat.zero_le _, Nat.zero_le _⟩) hD hS hA (fun u9 H locs hP hD hS => ?_)
          obtain ⟨u75, u76, u77, u78⟩ := u9
          have hP : va_P D vwCl (wXt cI cJ cC cG h9 hn ap u75 ht h0 u76 u77 pc u78 w64) H := hP
          have hD : va_D A (wXt cI cJ cC cG h9 hn ap u75 ht h0 u76 u77 pc u78 w64) := hD
          refine lv_iload_n hx hb dL_isOffered_57 rfl (lv_at hl 2 rfl) ?_
          refine lv_icmp_ne (tgt := 65) hx hb dL_isOffered_58 (by decide) (fun cc58 => ?_) (fun cc58 => ?_)
          · have hm := k_in cc58 hm
            exact J_65 u75 u76 u77 u78 r43 r48 r53 w64 _ _ hP hD hS _ (lv_sub hl [3, 4, 2, 1, 0] rfl) hm
          · have hm := k_ip cc58 hm
            refine lv_iconst (v := 1) hx hb dL_isOffered_61 (by decide) ?_
            refine lv_goto (tgt := 66) hx hb dL_isOffered_62 (by decide) ?_
            exact J_66 u75 u76 u77 u78 true r43 r48 r53 w64 _ _ hP hD hS _ (lv_sub hl [3, 4, 2, 1, 0] rfl) hm
    · have hm := k_ip cc30 hm
      refine lv_iconst (v := 1) hx hb dL_isOffered_33 (by decide) ?_
      cases hm
      exact k_end_zE (u59, u60, u61, u62) true hx hb hr hlocks hK hP hD hS dL_isOffered_34

abbrev rmL_isAnew : Room := { frames := 5, cells := 0, slots := 0, locals := 142 }
set_option maxHeartbeats 4000000 in
set_option maxRecDepth 100000 in
theorem zL_isAnew {l : Launch} {D : va_G} {cI cJ cC cG : ClassId} {sz : Nat} {h9 hn h0 : Nat} {ap q ht pa pb pc : Nat → Nat} {jk : JT} {x : XT} {r : Bool} {x' : XT} (hm : mL_isAnew x = some (r, x')) : k_MiE l yL_isAnew wsL_isAnew rmL_isAnew D (kT cI cJ cC cG) sz ([.ref h9] : List Value) (wXt cI cJ cC cG h9 hn ap q ht h0 pa pb pc jk x) (fun u : (Nat → Nat) × (Nat → Nat) × (Nat → Nat) × (JT) => (wXt cI cJ cC cG h9 hn ap (u.1) ht h0 (u.2.1) (u.2.2.1) pc (u.2.2.2) x')) (k_b r) := by
  refine k_st_iE (cc := cL_isAnew) (maxL := 2) (by decide) rfl (Nat.le_of_ble_eq_true rfl) ?_
  intro p e z m below meth c A hx hb hr hml hts hown hlocks hsz hN hA hK hP hD hS ls hl
  have hown : z.vm.findClass RL = some m.cls := hown
  have hl : lv_has ls 2 [(0, .ref h9)] := hl
  unfold mL_isAnew at hm
  refine lv_aload_n hx hb dL_isAnew_0 rfl (lv_at hl 0 rfl) ?_
  obtain ⟨r1, hc1, hm⟩ := k_bds hm
  refine k_i_sE (k_rV (As := []) (rest := []) ⟨hx, hb, hml, hown, hts⟩ hK hN hP hD (zB_mover hc1) (cwV 0 hts gL_isAnew_X9_mover rfl rfl rfl (by decide +kernel) ⟨Nat.le_of_ble_eq_true rfl, Nat.le_of_ble_eq_true rfl⟩) rfl rfl rfl hl.1 rfl (Nat.le_of_ble_eq_true rfl) dL_isAnew_1 ⟨Nat.zero_le _, Nat.zero_le _⟩) hD hS hA (fun u9 H locs hP hD hS => ?_)
  obtain ⟨u2, u3, u4, u5⟩ := u9
  have hP : va_P D vwCl (wXt cI cJ cC cG h9 hn ap u2 ht h0 u3 u4 pc u5 x) H := hP
  have hD : va_D A (wXt cI cJ cC cG h9 hn ap u2 ht h0 u3 u4 pc u5 x) := hD
  refine lv_istore_n (lv' := [(1, .int r1), (0, .ref h9)]) hx hb dL_isAnew_4 rfl hl (by decide) rfl (fun ls hl => ?_)
  refine lv_aload_n hx hb dL_isAnew_5 rfl (lv_at hl 1 rfl) ?_
  obtain ⟨r6, w7, hc6, hm⟩ := k_bd2s hm
  refine k_i_sE (k_rV (As := []) (rest := []) ⟨hx, hb, hml, hown, hts⟩ hK hN hP hD (zB_newGame hc6) (cwV 0 hts gL_isAnew_X9_newGame rfl rfl rfl (by decide +kernel) ⟨Nat.le_of_ble_eq_true rfl, Nat.le_of_ble_eq_true rfl⟩) rfl rfl rfl hl.1 rfl (Nat.le_of_ble_eq_true rfl) dL_isAnew_6 ⟨Nat.zero_le _, Nat.zero_le _⟩) hD hS hA (fun u9 H locs hP hD hS => ?_)
  obtain ⟨u8, u9, u10, u11⟩ := u9
  have hP : va_P D vwCl (wXt cI cJ cC cG h9 hn ap u8 ht h0 u9 u10 pc u11 w7) H := hP
  have hD : va_D A (wXt cI cJ cC cG h9 hn ap u8 ht h0 u9 u10 pc u11 w7) := hD
  refine lv_iconst (v := 1) hx hb dL_isAnew_9 (by decide) ?_
  refine lv_iload_n hx hb dL_isAnew_10 rfl (lv_at hl 0 rfl) ?_
  refine lv_isub hx hb dL_isAnew_11 ?_
  refine lv_icmp_ne (tgt := 88) hx hb dL_isAnew_12 (by decide) (fun cc12 => ?_) (fun cc12 => ?_)
  · have hm := k_in cc12 hm
    refine lv_iconst (v := 0) hx hb dL_isAnew_88 (by decide) ?_
    cases hm
    exact k_end_zE (u8, u9, u10, u11) false hx hb hr hlocks hK hP hD hS dL_isAnew_89
  · have hm := k_ip cc12 hm
    refine lv_aload_n hx hb dL_isAnew_15 rfl (lv_at hl 1 rfl) ?_
    obtain ⟨r12, hc16, hm⟩ := k_bds hm
    refine k_i_sE (k_rV (As := []) (rest := []) ⟨hx, hb, hml, hown, hts⟩ hK hN hP hD (zB_mover hc16) (cwV 0 hts gL_isAnew_X9_mover rfl rfl rfl (by decide +kernel) ⟨Nat.le_of_ble_eq_true rfl, Nat.le_of_ble_eq_true rfl⟩) rfl rfl rfl hl.1 rfl (Nat.le_of_ble_eq_true rfl) dL_isAnew_16 ⟨Nat.zero_le _, Nat.zero_le _⟩) hD hS hA (fun u9 H locs hP hD hS => ?_)
    obtain ⟨u13, u14, u15, u16⟩ := u9
    have hP : va_P D vwCl (wXt cI cJ cC cG h9 hn ap u13 ht h0 u14 u15 pc u16 w7) H := hP
    have hD : va_D A (wXt cI cJ cC cG h9 hn ap u13 ht h0 u14 u15 pc u16 w7) := hD
    refine lv_iconst (v := 1) hx hb dL_isAnew_19 (by decide) ?_
    refine lv_iload_n hx hb dL_isAnew_20 rfl (lv_at hl 0 rfl) ?_
    refine lv_isub hx hb dL_isAnew_21 ?_
    refine lv_icmp_ne (tgt := 88) hx hb dL_isAnew_22 (by decide) (fun cc22 => ?_) (fun cc22 => ?_)
    · have hm := k_in cc22 hm
      refine lv_iconst (v := 0) hx hb dL_isAnew_88 (by decide) ?_
      cases hm
      exact k_end_zE (u13, u14, u15, u16) false hx hb hr hlocks hK hP hD hS dL_isAnew_89
    · have hm := k_ip cc22 hm
      refine lv_aload_n hx hb dL_isAnew_25 rfl (lv_at hl 1 rfl) ?_
      obtain ⟨r17, hc26, hm⟩ := k_bds hm
      refine k_i_sE (k_rV (As := []) (rest := []) ⟨hx, hb, hml, hown, hts⟩ hK hN hP hD (zB_stake hc26) (cwV 0 hts gL_isAnew_X9_stake rfl rfl rfl (by decide +kernel) ⟨Nat.le_of_ble_eq_true rfl, Nat.le_of_ble_eq_true rfl⟩) rfl rfl rfl hl.1 rfl (Nat.le_of_ble_eq_true rfl) dL_isAnew_26 ⟨Nat.zero_le _, Nat.zero_le _⟩) hD hS hA (fun u9 H locs hP hD hS => ?_)
      obtain ⟨u18, u19, u20, u21⟩ := u9
      have hP : va_P D vwCl (wXt cI cJ cC cG h9 hn ap u18 ht h0 u19 u20 pc u21 w7) H := hP
      have hD : va_D A (wXt cI cJ cC cG h9 hn ap u18 ht h0 u19 u20 pc u21 w7) := hD
      refine lv_iconst (v := 1) hx hb dL_isAnew_29 (by decide) ?_
      refine lv_icmp_ne (tgt := 88) hx hb dL_isAnew_30 (by decide) (fun cc30 => ?_) (fun cc30 => ?_)
      · have hm := k_in cc30 hm
        refine lv_iconst (v := 0) hx hb dL_isAnew_88 (by decide) ?_
        cases hm
        exact k_end_zE (u18, u19, u20, u21) false hx hb hr hlocks hK hP hD hS dL_isAnew_89
      · have hm := k_ip cc30 hm
        refine lv_aload_n hx hb dL_isAnew_33 rfl (lv_at hl 1 rfl) ?_
        obtain ⟨r22, hc34, hm⟩ := k_bds hm
        refine k_i_sE (k_rV (As := []) (rest := []) ⟨hx, hb, hml, hown, hts⟩ hK hN hP hD (zB_cubeOf hc34) (cwV 0 hts gL_isAnew_X9_cubeOf rfl rfl rfl (by decide +kernel) ⟨Nat.le_of_ble_eq_true rfl, Nat.le_of_ble_eq_true rfl⟩) rfl rfl rfl hl.1 rfl (Nat.le_of_ble_eq_true rfl) dL_isAnew_34 ⟨Nat.zero_le _, Nat.zero_le _⟩) hD hS hA (fun u9 H locs hP hD hS => ?_)
        obtain ⟨u23, u24, u25, u26⟩ := u9
        have hP : va_P D vwCl (wXt cI cJ cC cG h9 hn ap u23 ht h0 u24 u25 pc u26 w7) H := hP
        have hD : va_D A (wXt cI cJ cC cG h9 hn ap u23 ht h0 u24 u25 pc u26 w7) := hD
        refine lv_iconst (v := (-1)) hx hb dL_isAnew_37 (by decide) ?_
        refine lv_icmp_ne (tgt := 88) hx hb dL_isAnew_38 (by decide) (fun cc38 => ?_) (fun cc38 => ?_)
        · have hm := k_in cc38 hm
          refine lv_iconst (v := 0) hx hb dL_isAnew_88 (by decide) ?_
          cases hm
          exact k_end_zE (u23, u24, u25, u26) false hx hb hr hlocks hK hP hD hS dL_isAnew_89
        · have hm := k_ip cc38 hm
          refine lv_aload_n hx hb dL_isAnew_41 rfl (lv_at hl 1 rfl) ?_
          obtain ⟨r27, hc42, hm⟩ := k_bds hm
          refine k_i_sE (k_rV (As := []) (rest := []) ⟨hx, hb, hml, hown, hts⟩ hK hN hP hD (zB_phase hc42) (cwV 0 hts gL_isAnew_X9_phase rfl rfl rfl (by decide +kernel) ⟨Nat.le_of_ble_eq_true rfl, Nat.le_of_ble_eq_true rfl⟩) rfl rfl rfl hl.1 rfl (Nat.le_of_ble_eq_true rfl) dL_isAnew_42 ⟨Nat.zero_le _, Nat.zero_le _⟩) hD hS hA (fun u9 H locs hP hD hS => ?_)
          obtain ⟨u28, u29, u30, u31⟩ := u9
          have hP : va_P D vwCl (wXt cI cJ cC cG h9 hn ap u28 ht h0 u29 u30 pc u31 w7) H := hP
          have hD : va_D A (wXt cI cJ cC cG h9 hn ap u28 ht h0 u29 u30 pc u31 w7) := hD
          refine lv_if_ne (tgt := 88) hx hb dL_isAnew_45 (by decide) (fun cc45 => ?_) (fun cc45 => ?_)
          · have hm := k_in cc45 hm
            refine lv_iconst (v := 0) hx hb dL_isAnew_88 (by decide) ?_
            cases hm
            exact k_end_zE (u28, u29, u30, u31) false hx hb hr hlocks hK hP hD hS dL_isAnew_89
          · have hm := k_ip cc45 hm
            refine lv_aload_n hx hb dL_isAnew_48 rfl (lv_at hl 1 rfl) ?_
            refine lv_iconst (v := 0) hx hb dL_isAnew_49 (by decide) ?_
            obtain ⟨r32, hc50, hm⟩ := k_bds hm
            refine k_i_sE (k_rV (As := [.int 0]) (rest := []) ⟨hx, hb, hml, hown, hts⟩ hK hN hP hD (zB_pips hc50) (cwV 1 hts gL_isAnew_X9_pips rfl rfl rfl (by decide +kernel) ⟨Nat.le_of_ble_eq_true rfl, Nat.le_of_ble_eq_true rfl⟩) rfl rfl rfl hl.1 rfl (Nat.le_of_ble_eq_true rfl) dL_isAnew_50 ⟨Nat.zero_le _, Nat.zero_le _⟩) hD hS hA (fun u9 H locs hP hD hS => ?_)
            obtain ⟨u33, u34, u35, u36⟩ := u9
            have hP : va_P D vwCl (wXt cI cJ cC cG h9 hn ap u33 ht h0 u34 u35 pc u36 w7) H := hP
            have hD : va_D A (wXt cI cJ cC cG h9 hn ap u33 ht h0 u34 u35 pc u36 w7) := hD
            refine lv_bipush (v := 74) hx hb dL_isAnew_53 (by decide) ?_
            refine lv_icmp_ne (tgt := 88) hx hb dL_isAnew_55 (by decide) (fun cc55 => ?_) (fun cc55 => ?_)
            · have hm := k_in cc55 hm
              refine lv_iconst (v := 0) hx hb dL_isAnew_88 (by decide) ?_
              cases hm
              exact k_end_zE (u33, u34, u35, u36) false hx hb hr hlocks hK hP hD hS dL_isAnew_89
            · have hm := k_ip cc55 hm
              refine lv_aload_n hx hb dL_isAnew_58 rfl (lv_at hl 1 rfl) ?_
              refine lv_iconst (v := 1) hx hb dL_isAnew_59 (by decide) ?_
              obtain ⟨r37, hc60, hm⟩ := k_bds hm
              refine k_i_sE (k_rV (As := [.int 1]) (rest := []) ⟨hx, hb, hml, hown, hts⟩ hK hN hP hD (zB_pips hc60) (cwV 1 hts gL_isAnew_X9_pips rfl rfl rfl (by decide +kernel) ⟨Nat.le_of_ble_eq_true rfl, Nat.le_of_ble_eq_true rfl⟩) rfl rfl rfl hl.1 rfl (Nat.le_of_ble_eq_true rfl) dL_isAnew_60 ⟨Nat.zero_le _, Nat.zero_le _⟩) hD hS hA (fun u9 H locs hP hD hS => ?_)
              obtain ⟨u38, u39, u40, u41⟩ := u9
              have hP : va_P D vwCl (wXt cI cJ cC cG h9 hn ap u38 ht h0 u39 u40 pc u41 w7) H := hP
              have hD : va_D A (wXt cI cJ cC cG h9 hn ap u38 ht h0 u39 u40 pc u41 w7) := hD
              refine lv_bipush (v := 74) hx hb dL_isAnew_63 (by decide) ?_
              refine lv_icmp_ne (tgt := 88) hx hb dL_isAnew_65 (by decide) (fun cc65 => ?_) (fun cc65 => ?_)
              · have hm := k_in cc65 hm
                refine lv_iconst (v := 0) hx hb dL_isAnew_88 (by decide) ?_
                cases hm
                exact k_end_zE (u38, u39, u40, u41) false hx hb hr hlocks hK hP hD hS dL_isAnew_89
              · have hm := k_ip cc65 hm
                refine lv_aload_n hx hb dL_isAnew_68 rfl (lv_at hl 1 rfl) ?_
                refine lv_iconst (v := 0) hx hb dL_isAnew_69 (by decide) ?_
                obtain ⟨r42, hc70, hm⟩ := k_bds hm
                refine k_i_sE (k_rV (As := [.int 0]) (rest := []) ⟨hx, hb, hml, hown, hts⟩ hK hN hP hD (zB_blots hc70) (cwV 1 hts gL_isAnew_X9_blots rfl rfl rfl (by decide +kernel) ⟨Nat.le_of_ble_eq_true rfl, Nat.le_of_ble_eq_true rfl⟩) rfl rfl rfl hl.1 rfl (Nat.le_of_ble_eq_true rfl) dL_isAnew_70 ⟨Nat.zero_le _, Nat.zero_le _⟩) hD hS hA (fun u9 H locs hP hD hS => ?_)
                obtain ⟨u43, u44, u45, u46⟩ := u9
                have hP : va_P D vwCl (wXt cI cJ cC cG h9 hn ap u43 ht h0 u44 u45 pc u46 w7) H := hP
                have hD : va_D A (wXt cI cJ cC cG h9 hn ap u43 ht h0 u44 u45 pc u46 w7) := hD
                refine lv_if_ne (tgt := 88) hx hb dL_isAnew_73 (by decide) (fun cc73 => ?_) (fun cc73 => ?_)
                · have hm := k_in cc73 hm
                  refine lv_iconst (v := 0) hx hb dL_isAnew_88 (by decide) ?_
                  cases hm
                  exact k_end_zE (u43, u44, u45, u46) false hx hb hr hlocks hK hP hD hS dL_isAnew_89
                · have hm := k_ip cc73 hm
                  refine lv_aload_n hx hb dL_isAnew_76 rfl (lv_at hl 1 rfl) ?_
                  refine lv_iconst (v := 1) hx hb dL_isAnew_77 (by decide) ?_
                  obtain ⟨r47, hc78, hm⟩ := k_bds hm
                  refine k_i_sE (k_rV (As := [.int 1]) (rest := []) ⟨hx, hb, hml, hown, hts⟩ hK hN hP hD (zB_blots hc78) (cwV 1 hts gL_isAnew_X9_blots rfl rfl rfl (by decide +kernel) ⟨Nat.le_of_ble_eq_true rfl, Nat.le_of_ble_eq_true rfl⟩) rfl rfl rfl hl.1 rfl (Nat.le_of_ble_eq_true rfl) dL_isAnew_78 ⟨Nat.zero_le _, Nat.zero_le _⟩) hD hS hA (fun u9 H locs hP hD hS => ?_)
                  obtain ⟨u48, u49, u50, u51⟩ := u9
                  have hP : va_P D vwCl (wXt cI cJ cC cG h9 hn ap u48 ht h0 u49 u50 pc u51 w7) H := hP
                  have hD : va_D A (wXt cI cJ cC cG h9 hn ap u48 ht h0 u49 u50 pc u51 w7) := hD
                  refine lv_if_ne (tgt := 88) hx hb dL_isAnew_81 (by decide) (fun cc81 => ?_) (fun cc81 => ?_)
                  · have hm := k_in cc81 hm
                    refine lv_iconst (v := 0) hx hb dL_isAnew_88 (by decide) ?_
                    cases hm
                    exact k_end_zE (u48, u49, u50, u51) false hx hb hr hlocks hK hP hD hS dL_isAnew_89
                  · have hm := k_ip cc81 hm
                    refine lv_iconst (v := 1) hx hb dL_isAnew_84 (by decide) ?_
                    refine lv_goto (tgt := 89) hx hb dL_isAnew_85 (by decide) ?_
                    cases hm
                    exact k_end_zE (u48, u49, u50, u51) true hx hb hr hlocks hK hP hD hS dL_isAnew_89

abbrev rmL_isCarried : Room := { frames := 5, cells := 0, slots := 0, locals := 145 }
set_option maxHeartbeats 4000000 in
set_option maxRecDepth 100000 in
theorem zL_isCarried {l : Launch} {D : va_G} {cI cJ cC cG : ClassId} {sz : Nat} {h9 hn h0 : Nat} {ap q ht pa pb pc : Nat → Nat} {jk : JT} {x : XT} {a1 : Int32} {r : Bool} {x' : XT} (hm : mL_isCarried x a1 = some (r, x')) : k_MiE l yL_isCarried wsL_isCarried rmL_isCarried D (kT cI cJ cC cG) sz ([.ref h9, .int a1] : List Value) (wXt cI cJ cC cG h9 hn ap q ht h0 pa pb pc jk x) (fun u : (Nat → Nat) × (Nat → Nat) × (Nat → Nat) × (JT) => (wXt cI cJ cC cG h9 hn ap (u.1) ht h0 (u.2.1) (u.2.2.1) pc (u.2.2.2) x')) (k_b r) := by
  refine k_st_iE (cc := cL_isCarried) (maxL := 7) (by decide) rfl (Nat.le_of_ble_eq_true rfl) ?_
  intro p e z m below meth c A hx hb hr hml hts hown hlocks hsz hN hA hK hP hD hS ls hl
  have hown : z.vm.findClass RL = some m.cls := hown
  have hl : lv_has ls 7 [(0, .ref h9), (1, .int a1)] := hl
  have J_108 : ∀ (q : Nat → Nat) (pa : Nat → Nat) (pb : Nat → Nat) (jk : JT) (l2 : Int32) (l4 : Int32) (x : XT) (H : Heap) (locs : List Loc), va_P D vwCl (wXt cI cJ cC cG h9 hn ap q ht h0 pa pb pc jk x) H → va_D A (wXt cI cJ cC cG h9 hn ap q ht h0 pa pb pc jk x) → va_S A z.heap H locs → ∀ ls : Array Slot, lv_has ls 7 [(0, .ref h9), (2, .int l2), (4, .int l4)] → mL_isCarried_108 a1 l2 l4 x = some (r, x') → W p l e rmL_isCarried z m ([.ref h9, .int a1] : List Value).toArray below meth c H locs 0 0 (k_QiE below ([.ref h9, .int a1] : List Value) D (kT cI cJ cC cG) z A (fun u : (Nat → Nat) × (Nat → Nat) × (Nat → Nat) × (JT) => (wXt cI cJ cC cG h9 hn ap (u.1) ht h0 (u.2.1) (u.2.2.1) pc (u.2.2.2) x')) (k_b r)) (F0 m 108 ls []) := by
    intro q pa pb jk l2 l4 x H locs hP hD hS ls hl hm
    unfold mL_isCarried_108 at hm
    refine lv_aload_n hx hb dL_isCarried_108 rfl (lv_at hl 0 rfl) ?_
    refine lv_iload_n hx hb dL_isCarried_109 rfl (lv_at hl 1 rfl) ?_
    refine lv_iload hx hb dL_isCarried_110 (lv_at hl 2 rfl) ?_
    obtain ⟨r1, hc112, hm⟩ := k_bds hm
    refine k_i_sE (k_rV (As := [.int l2, .int l4]) (rest := []) ⟨hx, hb, hml, hown, hts⟩ hK hN hP hD (zB_piecesOn hc112) (cwV 2 hts gL_isCarried_X9_piecesOn rfl rfl rfl (by decide +kernel) ⟨Nat.le_of_ble_eq_true rfl, Nat.le_of_ble_eq_true rfl⟩) rfl rfl rfl hl.1 rfl (Nat.le_of_ble_eq_true rfl) dL_isCarried_112 ⟨Nat.zero_le _, Nat.zero_le _⟩) hD hS hA (fun u9 H locs hP hD hS => ?_)
    obtain ⟨u2, u3, u4, u5⟩ := u9
    have hP : va_P D vwCl (wXt cI cJ cC cG h9 hn ap u2 ht h0 u3 u4 pc u5 x) H := hP
    have hD : va_D A (wXt cI cJ cC cG h9 hn ap u2 ht h0 u3 u4 pc u5 x) := hD
    refine lv_if_le (tgt := 122) hx hb dL_isCarried_115 (by decide) (fun cc115 => ?_) (fun cc115 => ?_)
    · have hm := k_ip cc115 hm
      refine lv_iconst (v := 0) hx hb dL_isCarried_122 (by decide) ?_
      cases hm
      exact k_end_zE (u2, u3, u4, u5) false hx hb hr hlocks hK hP hD hS dL_isCarried_123
    · have hm := k_in cc115 hm
      refine lv_iconst (v := 1) hx hb dL_isCarried_118 (by decide) ?_
      refine lv_goto (tgt := 123) hx hb dL_isCarried_119 (by decide) ?_
      cases hm
      exact k_end_zE (u2, u3, u4, u5) true hx hb hr hlocks hK hP hD hS dL_isCarried_123
  unfold mL_isCarried at hm
  refine lv_iload_n hx hb dL_isCarried_0 rfl (lv_at hl 1 rfl) ?_
  refine lv_iconst (v := 1) hx hb dL_isCarried_1 (by decide) ?_
  refine lv_iand hx hb dL_isCarried_2 ?_
  refine lv_istore_n (lv' := [(2, .int (a1 &&& 1)), (0, .ref h9), (1, .int a1)]) hx hb dL_isCarried_3 rfl hl (by decide) rfl (fun ls hl => ?_)
  refine lv_iload_n hx hb dL_isCarried_4 rfl (lv_at hl 2 rfl) ?_
  refine lv_iconst (v := 1) hx hb dL_isCarried_5 (by decide) ?_
  refine lv_ishr hx hb dL_isCarried_6 ?_
  refine lv_bipush (v := 16) hx hb dL_isCarried_7 (by decide) ?_
  obtain ⟨r6, hc9, hm⟩ := k_bds hm
  refine k_i_0 (k_rS (As := [.int (a1 >>> ((1 : Int32) &&& 31)), .int 16]) (rest := []) ⟨hx, hb, hml, hown, hts⟩ hK hN k_P0 (k_D0 (A := A)) (zL_low hc9) (va_cwS 2 hts gL_isCarried_L_low rfl rfl rfl (by decide +kernel) ⟨Nat.le_of_ble_eq_true rfl, Nat.le_of_ble_eq_true rfl⟩) rfl hl.1 rfl (Nat.le_of_ble_eq_true rfl) dL_isCarried_9 ⟨Nat.zero_le _, Nat.zero_le _⟩) hP hS hA (fun H locs hP hS => ?_)
  refine lv_istore_n (lv' := [(3, .int r6), (2, .int (a1 &&& 1)), (0, .ref h9), (1, .int a1)]) hx hb dL_isCarried_12 rfl hl (by decide) rfl (fun ls hl => ?_)
  refine lv_iload_n hx hb dL_isCarried_13 rfl (lv_at hl 3 rfl) ?_
  refine lv_iconst (v := 5) hx hb dL_isCarried_14 (by decide) ?_
  refine lv_ishr hx hb dL_isCarried_15 ?_
  refine lv_bipush (v := 16) hx hb dL_isCarried_16 (by decide) ?_
  obtain ⟨r7, hc18, hm⟩ := k_bds hm
  refine k_i_0 (k_rS (As := [.int (a1 >>> ((5 : Int32) &&& 31)), .int 16]) (rest := []) ⟨hx, hb, hml, hown, hts⟩ hK hN k_P0 (k_D0 (A := A)) (zL_low hc18) (va_cwS 2 hts gL_isCarried_L_low rfl rfl rfl (by decide +kernel) ⟨Nat.le_of_ble_eq_true rfl, Nat.le_of_ble_eq_true rfl⟩) rfl hl.1 rfl (Nat.le_of_ble_eq_true rfl) dL_isCarried_18 ⟨Nat.zero_le _, Nat.zero_le _⟩) hP hS hA (fun H locs hP hS => ?_)
  refine lv_istore (lv' := [(4, .int r7), (3, .int r6), (2, .int (a1 &&& 1)), (0, .ref h9), (1, .int a1)]) hx hb dL_isCarried_21 hl (by decide) rfl (fun ls hl => ?_)
  refine lv_aload_n hx hb dL_isCarried_23 rfl (lv_at hl 3 rfl) ?_
  refine lv_iload_n hx hb dL_isCarried_24 rfl (lv_at hl 2 rfl) ?_
  refine lv_iload_n hx hb dL_isCarried_25 rfl (lv_at hl 1 rfl) ?_
  obtain ⟨r8, hc26, hm⟩ := k_bds hm
  refine k_i_sE (k_rV (As := [.int (a1 &&& 1), .int r6]) (rest := []) ⟨hx, hb, hml, hown, hts⟩ hK hN hP hD (zB_piecesOn hc26) (cwV 2 hts gL_isCarried_X9_piecesOn rfl rfl rfl (by decide +kernel) ⟨Nat.le_of_ble_eq_true rfl, Nat.le_of_ble_eq_true rfl⟩) rfl rfl rfl hl.1 rfl (Nat.le_of_ble_eq_true rfl) dL_isCarried_26 ⟨Nat.zero_le _, Nat.zero_le _⟩) hD hS hA (fun u9 H locs hP hD hS => ?_)
  obtain ⟨u9, u10, u11, u12⟩ := u9
  have hP : va_P D vwCl (wXt cI cJ cC cG h9 hn ap u9 ht h0 u10 u11 pc u12 x) H := hP
  have hD : va_D A (wXt cI cJ cC cG h9 hn ap u9 ht h0 u10 u11 pc u12 x) := hD
  refine lv_if_eq (tgt := 44) hx hb dL_isCarried_29 (by decide) (fun cc29 => ?_) (fun cc29 => ?_)
  · have hm := k_ip cc29 hm
    refine lv_iconst (v := 1) hx hb dL_isCarried_44 (by decide) ?_
    cases hm
    exact k_end_zE (u9, u10, u11, u12) true hx hb hr hlocks hK hP hD hS dL_isCarried_45
  · have hm := k_in cc29 hm
    refine lv_aload_n hx hb dL_isCarried_32 rfl (lv_at hl 3 rfl) ?_
    refine lv_iconst (v := 1) hx hb dL_isCarried_33 (by decide) ?_
    refine lv_iload_n hx hb dL_isCarried_34 rfl (lv_at hl 2 rfl) ?_
    refine lv_isub hx hb dL_isCarried_35 ?_
    refine lv_iload hx hb dL_isCarried_36 (lv_at hl 0 rfl) ?_
    obtain ⟨r13, hc38, hm⟩ := k_bds hm
    refine k_i_sE (k_rV (As := [.int (1 - (a1 &&& 1)), .int r7]) (rest := []) ⟨hx, hb, hml, hown, hts⟩ hK hN hP hD (zB_piecesOn hc38) (cwV 2 hts gL_isCarried_X9_piecesOn rfl rfl rfl (by decide +kernel) ⟨Nat.le_of_ble_eq_true rfl, Nat.le_of_ble_eq_true rfl⟩) rfl rfl rfl hl.1 rfl (Nat.le_of_ble_eq_true rfl) dL_isCarried_38 ⟨Nat.zero_le _, Nat.zero_le _⟩) hD hS hA (fun u9 H locs hP hD hS => ?_)
    obtain ⟨u14, u15, u16, u17⟩ := u9
    have hP : va_P D vwCl (wXt cI cJ cC cG h9 hn ap u14 ht h0 u15 u16 pc u17 x) H := hP
    have hD : va_D A (wXt cI cJ cC cG h9 hn ap u14 ht h0 u15 u16 pc u17 x) := hD
    refine lv_if_le (tgt := 46) hx hb dL_isCarried_41 (by decide) (fun cc41 => ?_) (fun cc41 => ?_)
    · have hm := k_ip cc41 hm
      refine lv_aload_n hx hb dL_isCarried_46 rfl (lv_at hl 3 rfl) ?_
      refine lv_iload_n hx hb dL_isCarried_47 rfl (lv_at hl 2 rfl) ?_
      obtain ⟨r18, hc48, hm⟩ := k_bds hm
      refine k_i_sE (k_rV (As := [.int (a1 &&& 1)]) (rest := []) ⟨hx, hb, hml, hown, hts⟩ hK hN hP hD (zB_pips hc48) (cwV 1 hts gL_isCarried_X9_pips rfl rfl rfl (by decide +kernel) ⟨Nat.le_of_ble_eq_true rfl, Nat.le_of_ble_eq_true rfl⟩) rfl rfl rfl hl.1 rfl (Nat.le_of_ble_eq_true rfl) dL_isCarried_48 ⟨Nat.zero_le _, Nat.zero_le _⟩) hD hS hA (fun u9 H locs hP hD hS => ?_)
      obtain ⟨u19, u20, u21, u22⟩ := u9
      have hP : va_P D vwCl (wXt cI cJ cC cG h9 hn ap u19 ht h0 u20 u21 pc u22 x) H := hP
      have hD : va_D A (wXt cI cJ cC cG h9 hn ap u19 ht h0 u20 u21 pc u22 x) := hD
      refine lv_istore (lv' := [(5, .int r18), (4, .int r7), (3, .int r6), (2, .int (a1 &&& 1)), (0, .ref h9), (1, .int a1)]) hx hb dL_isCarried_51 hl (by decide) rfl (fun ls hl => ?_)
      refine lv_aload_n hx hb dL_isCarried_53 rfl (lv_at hl 4 rfl) ?_
      refine lv_iload_n hx hb dL_isCarried_54 rfl (lv_at hl 3 rfl) ?_
      refine lv_iload hx hb dL_isCarried_55 (lv_at hl 1 rfl) ?_
      obtain ⟨r23, hc57, hm⟩ := k_bds hm
      refine k_i_sE (k_rV (As := [.int (a1 &&& 1), .int r7]) (rest := []) ⟨hx, hb, hml, hown, hts⟩ hK hN hP hD (zB_piecesOn hc57) (cwV 2 hts gL_isCarried_X9_piecesOn rfl rfl rfl (by decide +kernel) ⟨Nat.le_of_ble_eq_true rfl, Nat.le_of_ble_eq_true rfl⟩) rfl rfl rfl hl.1 rfl (Nat.le_of_ble_eq_true rfl) dL_isCarried_57 ⟨Nat.zero_le _, Nat.zero_le _⟩) hD hS hA (fun u9 H locs hP hD hS => ?_)
      obtain ⟨u24, u25, u26, u27⟩ := u9
      have hP : va_P D vwCl (wXt cI cJ cC cG h9 hn ap u24 ht h0 u25 u26 pc u27 x) H := hP
      have hD : va_D A (wXt cI cJ cC cG h9 hn ap u24 ht h0 u25 u26 pc u27 x) := hD
      refine lv_istore (lv' := [(6, .int r23), (5, .int r18), (4, .int r7), (3, .int r6), (2, .int (a1 &&& 1)), (0, .ref h9), (1, .int a1)]) hx hb dL_isCarried_60 hl (by decide) rfl (fun ls hl => ?_)
      refine lv_aload_n hx hb dL_isCarried_62 rfl (lv_at hl 5 rfl) ?_
      refine lv_iload_n hx hb dL_isCarried_63 rfl (lv_at hl 4 rfl) ?_
      refine lv_iload_n hx hb dL_isCarried_64 rfl (lv_at hl 3 rfl) ?_
      refine lv_iload hx hb dL_isCarried_65 (lv_at hl 2 rfl) ?_
      obtain ⟨r28, w29, hc67, hm⟩ := k_bd2s hm
      refine k_i_sE (k_rV (As := [.int (a1 &&& 1), .int r6, .int r7]) (rest := []) ⟨hx, hb, hml, hown, hts⟩ hK hN hP hD (zB_carry hc67) (cwV 3 hts gL_isCarried_X9_carry rfl rfl rfl (by decide +kernel) ⟨Nat.le_of_ble_eq_true rfl, Nat.le_of_ble_eq_true rfl⟩) rfl rfl rfl hl.1 rfl (Nat.le_of_ble_eq_true rfl) dL_isCarried_67 ⟨Nat.zero_le _, Nat.zero_le _⟩) hD hS hA (fun u9 H locs hP hD hS => ?_)
      obtain ⟨u30, u31, u32, u33⟩ := u9
      have hP : va_P D vwCl (wXt cI cJ cC cG h9 hn ap u30 ht h0 u31 u32 pc u33 w29) H := hP
      have hD : va_D A (wXt cI cJ cC cG h9 hn ap u30 ht h0 u31 u32 pc u33 w29) := hD
      refine lv_iload hx hb dL_isCarried_70 (lv_at hl 1 rfl) ?_
      refine lv_iload_n hx hb dL_isCarried_72 rfl (lv_at hl 4 rfl) ?_
      refine lv_iload_n hx hb dL_isCarried_73 rfl (lv_at hl 3 rfl) ?_
      obtain ⟨r34, hc74, hm⟩ := k_bds hm
      refine k_i_0 (k_rS (As := [.int (a1 &&& 1), .int r6]) (rest := [.int r18, .int r28]) ⟨hx, hb, hml, hown, hts⟩ hK hN k_P0 (k_D0 (A := A)) (zL_way hc74) (va_cwS 2 hts gL_isCarried_L_way rfl rfl rfl (by decide +kernel) ⟨Nat.le_of_ble_eq_true rfl, Nat.le_of_ble_eq_true rfl⟩) rfl hl.1 rfl (Nat.le_of_ble_eq_true rfl) dL_isCarried_74 ⟨Nat.zero_le _, Nat.zero_le _⟩) hP hS hA (fun H locs hP hS => ?_)
      refine lv_isub hx hb dL_isCarried_77 ?_
      refine lv_iload_n hx hb dL_isCarried_78 rfl (lv_at hl 4 rfl) ?_
      refine lv_iload hx hb dL_isCarried_79 (lv_at hl 2 rfl) ?_
      obtain ⟨r35, hc81, hm⟩ := k_bds hm
      refine k_i_0 (k_rS (As := [.int (a1 &&& 1), .int r7]) (rest := [.int (r18 - r34), .int r28]) ⟨hx, hb, hml, hown, hts⟩ hK hN k_P0 (k_D0 (A := A)) (zL_way hc81) (va_cwS 2 hts gL_isCarried_L_way rfl rfl rfl (by decide +kernel) ⟨Nat.le_of_ble_eq_true rfl, Nat.le_of_ble_eq_true rfl⟩) rfl hl.1 rfl (Nat.le_of_ble_eq_true rfl) dL_isCarried_81 ⟨Nat.zero_le _, Nat.zero_le _⟩) hP hS hA (fun H locs hP hS => ?_)
      refine lv_iadd hx hb dL_isCarried_84 ?_
      refine lv_icmp_ne (tgt := 122) hx hb dL_isCarried_85 (by decide) (fun cc85 => ?_) (fun cc85 => ?_)
      · have hm := k_in cc85 hm
        refine lv_iconst (v := 0) hx hb dL_isCarried_122 (by decide) ?_
        cases hm
        exact k_end_zE (u30, u31, u32, u33) false hx hb hr hlocks hK hP hD hS dL_isCarried_123
      · have hm := k_ip cc85 hm
        refine lv_iload_n hx hb dL_isCarried_88 rfl (lv_at hl 3 rfl) ?_
        refine lv_iload hx hb dL_isCarried_89 (lv_at hl 2 rfl) ?_
        refine lv_icmp_eq (tgt := 108) hx hb dL_isCarried_91 (by decide) (fun cc91 => ?_) (fun cc91 => ?_)
        · have hm := k_ip cc91 hm
          exact J_108 u30 u31 u32 u33 (a1 &&& 1) r7 w29 _ _ hP hD hS _ (lv_sub hl [5, 4, 2] rfl) hm
        · have hm := k_in cc91 hm
          refine lv_aload_n hx hb dL_isCarried_94 rfl (lv_at hl 5 rfl) ?_
          refine lv_iload_n hx hb dL_isCarried_95 rfl (lv_at hl 4 rfl) ?_
          refine lv_iload hx hb dL_isCarried_96 (lv_at hl 2 rfl) ?_
          obtain ⟨r36, hc98, hm⟩ := k_bds hm
          refine k_i_sE (k_rV (As := [.int (a1 &&& 1), .int r7]) (rest := []) ⟨hx, hb, hml, hown, hts⟩ hK hN hP hD (zB_piecesOn hc98) (cwV 2 hts gL_isCarried_X9_piecesOn rfl rfl rfl (by decide +kernel) ⟨Nat.le_of_ble_eq_true rfl, Nat.le_of_ble_eq_true rfl⟩) rfl rfl rfl hl.1 rfl (Nat.le_of_ble_eq_true rfl) dL_isCarried_98 ⟨Nat.zero_le _, Nat.zero_le _⟩) hD hS hA (fun u9 H locs hP hD hS => ?_)
          obtain ⟨u37, u38, u39, u40⟩ := u9
          have hP : va_P D vwCl (wXt cI cJ cC cG h9 hn ap u37 ht h0 u38 u39 pc u40 w29) H := hP
          have hD : va_D A (wXt cI cJ cC cG h9 hn ap u37 ht h0 u38 u39 pc u40 w29) := hD
          refine lv_iload hx hb dL_isCarried_101 (lv_at hl 0 rfl) ?_
          refine lv_iconst (v := 1) hx hb dL_isCarried_103 (by decide) ?_
          refine lv_iadd hx hb dL_isCarried_104 ?_
          refine lv_icmp_ne (tgt := 122) hx hb dL_isCarried_105 (by decide) (fun cc105 => ?_) (fun cc105 => ?_)
          · have hm := k_in cc105 hm
            refine lv_iconst (v := 0) hx hb dL_isCarried_122 (by decide) ?_
            cases hm
            exact k_end_zE (u37, u38, u39, u40) false hx hb hr hlocks hK hP hD hS dL_isCarried_123
          · have hm := k_ip cc105 hm
            exact J_108 u37 u38 u39 u40 (a1 &&& 1) r7 w29 _ _ hP hD hS _ (lv_sub hl [5, 4, 2] rfl) hm
    · have hm := k_in cc41 hm
      refine lv_iconst (v := 1) hx hb dL_isCarried_44 (by decide) ?_
      cases hm
      exact k_end_zE (u14, u15, u16, u17) true hx hb hr hlocks hK hP hD hS dL_isCarried_45

