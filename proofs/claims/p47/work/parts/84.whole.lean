abbrev rmX9_roll : Room := { frames := 4, cells := 0, slots := 0, locals := 122 }
set_option maxHeartbeats 4000000 in
set_option maxRecDepth 100000 in
theorem zX9_roll {l : Launch} {D : va_G} {cI cJ cC cG : ClassId} {sz : Nat} {h9 hn h0 : Nat} {ap q ht pa pb pc : Nat → Nat} {jk : JT} {hasS : Bool} {cnt : Int32} {snp : GT} {G : Nat → GT} {c_mover : Int32} {c_phase : Int32} {c_dice : Int32} {c_stake : Int32} {c_cube : Int32} {c_pieces0 : Int64} {c_pieces1 : Int64} {c_score0 : Int32} {c_score1 : Int32} {c_hits0 : Int32} {c_hits1 : Int32} {c_stopped : Bool} {c_stopPart : Int32} {t_signs : Nat → Int32} {t_length : Int32} {a1 : Int32} {a2 : Int32} {r : Int32} {cnt' : Int32} {G' : Nat → GT} {c_phase' : Int32} {c_dice' : Int32} (hm : mX9_roll cnt G c_mover c_phase c_dice c_stake c_cube c_pieces0 c_pieces1 c_score0 c_score1 c_hits0 c_hits1 c_stopped c_stopPart a1 a2 = some (r, cnt', G', c_phase', c_dice')) : k_MiE l yX9_roll wsX9_roll rmX9_roll D (kT cI cJ cC cG) sz ([.ref h9, .int a1, .int a2] : List Value) (wX cI cJ cC cG h9 hn ap q ht h0 pa pb pc jk hasS cnt snp G c_mover c_phase c_dice c_stake c_cube c_pieces0 c_pieces1 c_score0 c_score1 c_hits0 c_hits1 c_stopped c_stopPart t_signs t_length) (fun u : (Nat → Nat) × (Nat → Nat) × (Nat → Nat) × (JT) => (wX cI cJ cC cG h9 hn ap (u.1) ht h0 (u.2.1) (u.2.2.1) pc (u.2.2.2) hasS cnt' snp G' c_mover c_phase' c_dice' c_stake c_cube c_pieces0 c_pieces1 c_score0 c_score1 c_hits0 c_hits1 c_stopped c_stopPart t_signs t_length)) r := by
  refine k_st_iE (cc := cX9_roll) (maxL := 3) (by decide) rfl (Nat.le_of_ble_eq_true rfl) ?_
  intro p e z m below meth c A hx hb hr hml hts hown hlocks hsz hN hA hK hP hD hS ls hl
  have hown : z.vm.findClass RX9 = some m.cls := hown
  have hinX1 : ∀ w ∈ wsX10, w ∈ wsX9_roll := by decide +kernel
  have hinX9 : ∀ w ∈ wsX90, w ∈ wsX9_roll := by decide +kernel
  have fl10 := hts (.fieldLink RX9 10 "MagpieRuns" "now" "LMagpieRuns$Game;") (by decide +kernel)
  have fl19 := hts (.fieldLink RX9 19 "MagpieRuns" "past" "LMagpieRuns$Past;") (by decide +kernel)
  have fl61 := hts (.fieldLink RX9 61 "MagpieRuns$Game" "dice" "I") (by decide +kernel)
  have hl : lv_has ls 3 [(0, .ref h9), (1, .int a1), (2, .int a2)] := hl
  have J_14 : ∀ (q : Nat → Nat) (pa : Nat → Nat) (pb : Nat → Nat) (jk : JT) (cnt : Int32) (G : Nat → GT) (c_phase : Int32) (c_dice : Int32) (H : Heap) (locs : List Loc), va_P D vwCl (wX cI cJ cC cG h9 hn ap q ht h0 pa pb pc jk hasS cnt snp G c_mover c_phase c_dice c_stake c_cube c_pieces0 c_pieces1 c_score0 c_score1 c_hits0 c_hits1 c_stopped c_stopPart t_signs t_length) H → va_D A (wX cI cJ cC cG h9 hn ap q ht h0 pa pb pc jk hasS cnt snp G c_mover c_phase c_dice c_stake c_cube c_pieces0 c_pieces1 c_score0 c_score1 c_hits0 c_hits1 c_stopped c_stopPart t_signs t_length) → va_S A z.heap H locs → ∀ ls : Array Slot, lv_has ls 3 [] → mX9_roll_14 c_mover c_stake c_cube c_pieces0 c_pieces1 c_score0 c_score1 c_hits0 c_hits1 c_stopped c_stopPart a1 a2 cnt G c_phase c_dice = some (r, cnt', G', c_phase', c_dice') → W p l e rmX9_roll z m ([.ref h9, .int a1, .int a2] : List Value).toArray below meth c H locs 0 0 (k_QiE below ([.ref h9, .int a1, .int a2] : List Value) D (kT cI cJ cC cG) z A (fun u : (Nat → Nat) × (Nat → Nat) × (Nat → Nat) × (JT) => (wX cI cJ cC cG h9 hn ap (u.1) ht h0 (u.2.1) (u.2.2.1) pc (u.2.2.2) hasS cnt' snp G' c_mover c_phase' c_dice' c_stake c_cube c_pieces0 c_pieces1 c_score0 c_score1 c_hits0 c_hits1 c_stopped c_stopPart t_signs t_length)) r) (F0 m 14 ls []) := by
    intro q pa pb jk cnt G c_phase c_dice H locs hP hD hS ls hl hm
    unfold mX9_roll_14 at hm
    cases hm
  unfold mX9_roll at hm
  refine lv_iload_n hx hb dX9_roll_0 rfl (lv_at hl 1 rfl) ?_
  obtain ⟨r1, hc1, hm⟩ := k_bds hm
  refine k_i_0 (k_rS (As := [.int a1]) (rest := []) ⟨hx, hb, hml, hown, hts⟩ hK hN k_P0 (k_D0 (A := A)) (zX0_isDie hc1) (va_cwS 1 hts gX9_roll_X0_isDie rfl rfl rfl (by decide +kernel) ⟨Nat.le_of_ble_eq_true rfl, Nat.le_of_ble_eq_true rfl⟩) rfl hl.1 rfl (Nat.le_of_ble_eq_true rfl) dX9_roll_1 ⟨Nat.zero_le _, Nat.zero_le _⟩) hP hS hA (fun H locs hP hS => ?_)
  refine lv_if_eq (tgt := 14) hx hb dX9_roll_4 (by decide) (fun cc4 => ?_) (fun cc4 => ?_)
  · have hm := k_ip cc4 hm
    exact J_14 q pa pb jk cnt G c_phase c_dice _ _ hP hD hS _ (lv_sub hl [] rfl) hm
  · have hm := k_in cc4 hm
    refine lv_iload_n hx hb dX9_roll_7 rfl (lv_at hl 2 rfl) ?_
    obtain ⟨r2, hc8, hm⟩ := k_bds hm
    refine k_i_0 (k_rS (As := [.int a2]) (rest := []) ⟨hx, hb, hml, hown, hts⟩ hK hN k_P0 (k_D0 (A := A)) (zX0_isDie hc8) (va_cwS 1 hts gX9_roll_X0_isDie rfl rfl rfl (by decide +kernel) ⟨Nat.le_of_ble_eq_true rfl, Nat.le_of_ble_eq_true rfl⟩) rfl hl.1 rfl (Nat.le_of_ble_eq_true rfl) dX9_roll_8 ⟨Nat.zero_le _, Nat.zero_le _⟩) hP hS hA (fun H locs hP hS => ?_)
    refine lv_if_ne (tgt := 22) hx hb dX9_roll_11 (by decide) (fun cc11 => ?_) (fun cc11 => ?_)
    · have hm := k_in cc11 hm
      refine lv_aload_n hx hb dX9_roll_22 rfl (lv_at hl 0 rfl) ?_
      refine va_get (D := D) (ci := 5) (v := .ref hn) (C := RX9) (T := TX9) (N := 4) hx hb hts hinX9 hown hK hP 0 rfl rfl 0 (by decide) fl10 (fun _ h9 => h9) rfl dX9_roll_23 ?_
      obtain ⟨r3, hc26, hm⟩ := k_bds hm
      have hPc : va_P D vwCl (wG hn c_mover c_phase c_dice c_stake c_cube c_pieces0 c_pieces1 c_score0 c_score1 c_hits0 c_hits1 c_stopped c_stopPart) _ := k_Psub hP [1] rfl
      have hDc : va_D A (wG hn c_mover c_phase c_dice c_stake c_cube c_pieces0 c_pieces1 c_score0 c_score1 c_hits0 c_hits1 c_stopped c_stopPart) := hD.sub [1] (by decide) rfl
      refine k_i_c (Wf := (wX cI cJ cC cG h9 hn ap q ht h0 pa pb pc jk hasS cnt snp G c_mover c_phase c_dice c_stake c_cube c_pieces0 c_pieces1 c_score0 c_score1 c_hits0 c_hits1 c_stopped c_stopPart t_signs t_length)) [1] [0, 2, 3, 4, 5, 6, 7, 8, 9, 10, 11, 12, 13, 14, 15, 16, 17, 18, 19, 20, 21, 22, 23, 24] [0, 24, 1, 2, 3, 4, 5, 6, 7, 8, 9, 10, 11, 12, 13, 14, 15, 16, 17, 18, 19, 20, 21, 22, 23] (k_rV (As := []) (rest := []) ⟨hx, hb, hml, hown, hts⟩ hK hN hPc hDc (zX1_awaitsRoll hc26) (cwV 0 hts gX9_roll_X1_awaitsRoll rfl rfl rfl (by decide +kernel) ⟨Nat.le_of_ble_eq_true rfl, Nat.le_of_ble_eq_true rfl⟩) rfl rfl rfl hl.1 rfl (Nat.le_of_ble_eq_true rfl) dX9_roll_26 ⟨Nat.zero_le _, Nat.zero_le _⟩) hP hD hS hA rfl rfl (by decide) (by decide) rfl (by decide) (fun H locs hP hD hS => ?_)
      refine lv_if_ne (tgt := 40) hx hb dX9_roll_29 (by decide) (fun cc29 => ?_) (fun cc29 => ?_)
      · have hm := k_in cc29 hm
        refine lv_aload_n hx hb dX9_roll_40 rfl (lv_at hl 0 rfl) ?_
        refine va_get (D := D) (ci := 5) (v := .ref (ap 0)) (C := RX9) (T := TX9) (N := 4) hx hb hts hinX9 hown hK hP 0 rfl rfl 1 (by decide) fl19 (fun _ h9 => h9) rfl dX9_roll_41 ?_
        refine lv_aload_n hx hb dX9_roll_44 rfl (lv_at hl 0 rfl) ?_
        refine va_get (D := D) (ci := 5) (v := .ref hn) (C := RX9) (T := TX9) (N := 4) hx hb hts hinX9 hown hK hP 0 rfl rfl 0 (by decide) fl10 (fun _ h9 => h9) rfl dX9_roll_45 ?_
        obtain ⟨w4, w5, hc48, hm⟩ := k_bd2s hm
        have hPc : va_P D vwCl (wPa cG ap q hn hasS cnt snp G c_mover c_phase c_dice c_stake c_cube c_pieces0 c_pieces1 c_score0 c_score1 c_hits0 c_hits1 c_stopped c_stopPart) _ := k_Psub hP [2, 3, 4, 5, 6, 7, 8, 9, 1] rfl
        have hDc : va_D A (wPa cG ap q hn hasS cnt snp G c_mover c_phase c_dice c_stake c_cube c_pieces0 c_pieces1 c_score0 c_score1 c_hits0 c_hits1 c_stopped c_stopPart) := hD.sub [2, 3, 4, 5, 6, 7, 8, 9, 1] (by decide) rfl
        refine k_v_cE (fun u : (Nat → Nat) => (wX cI cJ cC cG h9 hn ap u ht h0 pa pb pc jk hasS w4 snp w5 c_mover c_phase c_dice c_stake c_cube c_pieces0 c_pieces1 c_score0 c_score1 c_hits0 c_hits1 c_stopped c_stopPart t_signs t_length)) [2, 3, 4, 5, 6, 7, 8, 9, 1] [0, 10, 11, 12, 13, 14, 15, 16, 17, 18, 19, 20, 21, 22, 23, 24] [0, 24, 16, 17, 18, 19, 20, 21, 22, 23, 1, 2, 3, 4, 5, 6, 7, 8, 9, 10, 11, 12, 13, 14, 15] (k_rV (As := [.ref hn]) (rest := []) ⟨hx, hb, hml, hown, hts⟩ hK hN hPc hDc (zX2_save hc48) (cwV 1 hts gX9_roll_X2_save rfl rfl rfl (by decide +kernel) ⟨Nat.le_of_ble_eq_true rfl, Nat.le_of_ble_eq_true rfl⟩) rfl rfl rfl hl.1 rfl (Nat.le_of_ble_eq_true rfl) dX9_roll_48 ⟨Nat.zero_le _, Nat.zero_le _⟩) hP hD hS hA rfl rfl (by decide) (by decide) (fun u => rfl) (by decide) (fun u9 H locs hP hD hS => ?_)
        generalize u9 = u6 at hP hD
        have hP : va_P D vwCl (wX cI cJ cC cG h9 hn ap u6 ht h0 pa pb pc jk hasS w4 snp w5 c_mover c_phase c_dice c_stake c_cube c_pieces0 c_pieces1 c_score0 c_score1 c_hits0 c_hits1 c_stopped c_stopPart t_signs t_length) H := hP
        have hD : va_D A (wX cI cJ cC cG h9 hn ap u6 ht h0 pa pb pc jk hasS w4 snp w5 c_mover c_phase c_dice c_stake c_cube c_pieces0 c_pieces1 c_score0 c_score1 c_hits0 c_hits1 c_stopped c_stopPart t_signs t_length) := hD
        refine lv_aload_n hx hb dX9_roll_51 rfl (lv_at hl 0 rfl) ?_
        refine va_get (D := D) (ci := 5) (v := .ref hn) (C := RX9) (T := TX9) (N := 4) hx hb hts hinX9 hown hK hP 0 rfl rfl 0 (by decide) fl10 (fun _ h9 => h9) rfl dX9_roll_52 ?_
        refine lv_iload_n hx hb dX9_roll_55 rfl (lv_at hl 1 rfl) ?_
        refine lv_iload_n hx hb dX9_roll_56 rfl (lv_at hl 2 rfl) ?_
        obtain ⟨w7, w8, hc57, hm⟩ := k_bd2s hm
        have hPc : va_P D vwCl (wG hn c_mover c_phase c_dice c_stake c_cube c_pieces0 c_pieces1 c_score0 c_score1 c_hits0 c_hits1 c_stopped c_stopPart) _ := k_Psub hP [1] rfl
        have hDc : va_D A (wG hn c_mover c_phase c_dice c_stake c_cube c_pieces0 c_pieces1 c_score0 c_score1 c_hits0 c_hits1 c_stopped c_stopPart) := hD.sub [1] (by decide) rfl
        refine k_v_c (Wf := (wX cI cJ cC cG h9 hn ap u6 ht h0 pa pb pc jk hasS w4 snp w5 c_mover w7 w8 c_stake c_cube c_pieces0 c_pieces1 c_score0 c_score1 c_hits0 c_hits1 c_stopped c_stopPart t_signs t_length)) [1] [0, 2, 3, 4, 5, 6, 7, 8, 9, 10, 11, 12, 13, 14, 15, 16, 17, 18, 19, 20, 21, 22, 23, 24] [0, 24, 1, 2, 3, 4, 5, 6, 7, 8, 9, 10, 11, 12, 13, 14, 15, 16, 17, 18, 19, 20, 21, 22, 23] (k_rV (As := [.int a1, .int a2]) (rest := []) ⟨hx, hb, hml, hown, hts⟩ hK hN hPc hDc (zX1_doRoll hc57) (cwV 2 hts gX9_roll_X1_doRoll rfl rfl rfl (by decide +kernel) ⟨Nat.le_of_ble_eq_true rfl, Nat.le_of_ble_eq_true rfl⟩) rfl rfl rfl hl.1 rfl (Nat.le_of_ble_eq_true rfl) dX9_roll_57 ⟨Nat.zero_le _, Nat.zero_le _⟩) hP hD hS hA rfl rfl (by decide) (by decide) rfl (by decide) (fun H locs hP hD hS => ?_)
        refine lv_aload_n hx hb dX9_roll_60 rfl (lv_at hl 0 rfl) ?_
        refine va_get (D := D) (ci := 5) (v := .ref hn) (C := RX9) (T := TX9) (N := 4) hx hb hts hinX9 hown hK hP 0 rfl rfl 0 (by decide) fl10 (fun _ h9 => h9) rfl dX9_roll_61 ?_
        refine va_get (D := D) (ci := 0) (v := .int w8) (C := RX1) (T := TX1) (N := 13) hx hb hts hinX1 hown hK hP 1 rfl rfl 2 (by decide) fl61 (fun _ h9 => h9) rfl dX9_roll_64 ?_
        obtain ⟨r9, hc67, hm⟩ := k_bds hm
        refine k_i_0 (k_rS (As := [.int w8]) (rest := []) ⟨hx, hb, hml, hown, hts⟩ hK hN k_P0 (k_D0 (A := A)) (zX0_count hc67) (va_cwS 1 hts gX9_roll_X0_count rfl rfl rfl (by decide +kernel) ⟨Nat.le_of_ble_eq_true rfl, Nat.le_of_ble_eq_true rfl⟩) rfl hl.1 rfl (Nat.le_of_ble_eq_true rfl) dX9_roll_67 ⟨Nat.zero_le _, Nat.zero_le _⟩) hP hS hA (fun H locs hP hS => ?_)
        cases hm
        exact k_end_iE (u6, pa, pb, jk) hx hb hr hlocks hK hP hD hS dX9_roll_70
      · have hm := k_ip cc29 hm
        cases hm
    · have hm := k_ip cc11 hm
      exact J_14 q pa pb jk cnt G c_phase c_dice _ _ hP hD hS _ (lv_sub hl [] rfl) hm

abbrev rmX9_isPoint : Room := { frames := 0, cells := 0, slots := 0, locals := 0 }
set_option maxHeartbeats 4000000 in
set_option maxRecDepth 100000 in
theorem zX9_isPoint {l : Launch} {D : va_G} {cI cJ cC cG : ClassId} {sz : Nat}  {a0 : Int32} {r : Bool} (hm : mX9_isPoint a0 = some (r)) : k_Mi l yX9_isPoint wsX9_isPoint rmX9_isPoint D (kT cI cJ cC cG) sz ([.int a0] : List Value) [] [] (k_b r) := by
  refine k_st_i (cc := cX9_isPoint) (maxL := 1) (by decide) rfl (Nat.le_of_ble_eq_true rfl) ?_
  intro p e z m below meth c A hx hb hr hml hts hown hlocks hsz hN hA hK hP hD hS ls hl
  have hown : z.vm.findClass RX9 = some m.cls := hown
  have hl : lv_has ls 1 [(0, .int a0)] := hl
  unfold mX9_isPoint at hm
  refine lv_iload_n hx hb dX9_isPoint_0 rfl (lv_at hl 0 rfl) ?_
  refine lv_if_lt (tgt := 14) hx hb dX9_isPoint_1 (by decide) (fun cc1 => ?_) (fun cc1 => ?_)
  · have hm := k_ip cc1 hm
    refine lv_iconst (v := 0) hx hb dX9_isPoint_14 (by decide) ?_
    cases hm
    exact k_end_z false hx hb hr hlocks hK hP hD hS dX9_isPoint_15
  · have hm := k_in cc1 hm
    refine lv_iload_n hx hb dX9_isPoint_4 rfl (lv_at hl 0 rfl) ?_
    refine lv_bipush (v := 16) hx hb dX9_isPoint_5 (by decide) ?_
    refine lv_icmp_ge (tgt := 14) hx hb dX9_isPoint_7 (by decide) (fun cc7 => ?_) (fun cc7 => ?_)
    · have hm := k_ip cc7 hm
      refine lv_iconst (v := 0) hx hb dX9_isPoint_14 (by decide) ?_
      cases hm
      exact k_end_z false hx hb hr hlocks hK hP hD hS dX9_isPoint_15
    · have hm := k_in cc7 hm
      refine lv_iconst (v := 1) hx hb dX9_isPoint_10 (by decide) ?_
      refine lv_goto (tgt := 15) hx hb dX9_isPoint_11 (by decide) ?_
      cases hm
      exact k_end_z true hx hb hr hlocks hK hP hD hS dX9_isPoint_15

abbrev rmX9_isPointOrBar : Room := { frames := 1, cells := 0, slots := 0, locals := 20 }
set_option maxHeartbeats 4000000 in
set_option maxRecDepth 100000 in
theorem zX9_isPointOrBar {l : Launch} {D : va_G} {cI cJ cC cG : ClassId} {sz : Nat}  {a0 : Int32} {r : Bool} (hm : mX9_isPointOrBar a0 = some (r)) : k_Mi l yX9_isPointOrBar wsX9_isPointOrBar rmX9_isPointOrBar D (kT cI cJ cC cG) sz ([.int a0] : List Value) [] [] (k_b r) := by
  refine k_st_i (cc := cX9_isPointOrBar) (maxL := 1) (by decide) rfl (Nat.le_of_ble_eq_true rfl) ?_
  intro p e z m below meth c A hx hb hr hml hts hown hlocks hsz hN hA hK hP hD hS ls hl
  have hown : z.vm.findClass RX9 = some m.cls := hown
  have hl : lv_has ls 1 [(0, .int a0)] := hl
  unfold mX9_isPointOrBar at hm
  refine lv_iload_n hx hb dX9_isPointOrBar_0 rfl (lv_at hl 0 rfl) ?_
  refine lv_iconst (v := (-1)) hx hb dX9_isPointOrBar_1 (by decide) ?_
  refine lv_icmp_eq (tgt := 12) hx hb dX9_isPointOrBar_2 (by decide) (fun cc2 => ?_) (fun cc2 => ?_)
  · have hm := k_ip cc2 hm
    refine lv_iconst (v := 1) hx hb dX9_isPointOrBar_12 (by decide) ?_
    refine lv_goto (tgt := 17) hx hb dX9_isPointOrBar_13 (by decide) ?_
    cases hm
    exact k_end_z true hx hb hr hlocks hK hP hD hS dX9_isPointOrBar_17
  · have hm := k_in cc2 hm
    refine lv_iload_n hx hb dX9_isPointOrBar_5 rfl (lv_at hl 0 rfl) ?_
    obtain ⟨r1, hc6, hm⟩ := k_bds hm
    refine k_i_0 (k_rS (As := [.int a0]) (rest := []) ⟨hx, hb, hml, hown, hts⟩ hK hN k_P0 (k_D0 (A := A)) (zX9_isPoint hc6) (va_cwS 1 hts gX9_isPointOrBar_X9_isPoint rfl rfl rfl (by decide +kernel) ⟨Nat.le_of_ble_eq_true rfl, Nat.le_of_ble_eq_true rfl⟩) rfl hl.1 rfl (Nat.le_of_ble_eq_true rfl) dX9_isPointOrBar_6 ⟨Nat.zero_le _, Nat.zero_le _⟩) hP hS hA (fun H locs hP hS => ?_)
    refine lv_if_eq (tgt := 16) hx hb dX9_isPointOrBar_9 (by decide) (fun cc9 => ?_) (fun cc9 => ?_)
    · have hm := k_ip cc9 hm
      refine lv_iconst (v := 0) hx hb dX9_isPointOrBar_16 (by decide) ?_
      cases hm
      exact k_end_z false hx hb hr hlocks hK hP hD hS dX9_isPointOrBar_17
    · have hm := k_in cc9 hm
      refine lv_iconst (v := 1) hx hb dX9_isPointOrBar_12 (by decide) ?_
      refine lv_goto (tgt := 17) hx hb dX9_isPointOrBar_13 (by decide) ?_
      cases hm
      exact k_end_z true hx hb hr hlocks hK hP hD hS dX9_isPointOrBar_17

abbrev rmX9_step : Room := { frames := 12, cells := 0, slots := 0, locals := 364 }
set_option maxHeartbeats 4000000 in
set_option maxRecDepth 100000 in
theorem zX9_step {l : Launch} {D : va_G} {cI cJ cC cG : ClassId} {sz : Nat} {h9 hn h0 : Nat} {ap q ht pa pb pc : Nat → Nat} {jk : JT} {hasS : Bool} {cnt : Int32} {snp : GT} {G : Nat → GT} {c_mover : Int32} {c_phase : Int32} {c_dice : Int32} {c_stake : Int32} {c_cube : Int32} {c_pieces0 : Int64} {c_pieces1 : Int64} {c_score0 : Int32} {c_score1 : Int32} {c_hits0 : Int32} {c_hits1 : Int32} {c_stopped : Bool} {c_stopPart : Int32} {t_signs : Nat → Int32} {t_length : Int32} {a1 : Int32} {a2 : Int32} {r : Bool} {cnt' : Int32} {G' : Nat → GT} {c_phase' : Int32} {c_dice' : Int32} {c_pieces0' : Int64} {c_pieces1' : Int64} {c_score0' : Int32} {c_score1' : Int32} {c_hits0' : Int32} {c_hits1' : Int32} (hm : mX9_step cnt G c_mover c_phase c_dice c_stake c_cube c_pieces0 c_pieces1 c_score0 c_score1 c_hits0 c_hits1 c_stopped c_stopPart a1 a2 = some (r, cnt', G', c_phase', c_dice', c_pieces0', c_pieces1', c_score0', c_score1', c_hits0', c_hits1')) : k_MiE l yX9_step wsX9_step rmX9_step D (kT cI cJ cC cG) sz ([.ref h9, .int a1, .int a2] : List Value) (wX cI cJ cC cG h9 hn ap q ht h0 pa pb pc jk hasS cnt snp G c_mover c_phase c_dice c_stake c_cube c_pieces0 c_pieces1 c_score0 c_score1 c_hits0 c_hits1 c_stopped c_stopPart t_signs t_length) (fun u : (Nat → Nat) × (Nat → Nat) × (Nat → Nat) × (JT) => (wX cI cJ cC cG h9 hn ap (u.1) ht h0 (u.2.1) (u.2.2.1) pc (u.2.2.2) hasS cnt' snp G' c_mover c_phase' c_dice' c_stake c_cube c_pieces0' c_pieces1' c_score0' c_score1' c_hits0' c_hits1' c_stopped c_stopPart t_signs t_length)) (k_b r) := by
  refine k_st_iE (cc := cX9_step) (maxL := 3) (by decide) rfl (Nat.le_of_ble_eq_true rfl) ?_
  intro p e z m below meth c A hx hb hr hml hts hown hlocks hsz hN hA hK hP hD hS ls hl
  have hown : z.vm.findClass RX9 = some m.cls := hown
  have hinX9 : ∀ w ∈ wsX90, w ∈ wsX9_step := by decide +kernel
  have fl10 := hts (.fieldLink RX9 10 "MagpieRuns" "now" "LMagpieRuns$Game;") (by decide +kernel)
  have fl19 := hts (.fieldLink RX9 19 "MagpieRuns" "past" "LMagpieRuns$Past;") (by decide +kernel)
  have hl : lv_has ls 3 [(0, .ref h9), (1, .int a1), (2, .int a2)] := hl
  unfold mX9_step at hm
  refine lv_iload_n hx hb dX9_step_0 rfl (lv_at hl 1 rfl) ?_
  obtain ⟨r1, hc1, hm⟩ := k_bds hm
  refine k_i_0 (k_rS (As := [.int a1]) (rest := []) ⟨hx, hb, hml, hown, hts⟩ hK hN k_P0 (k_D0 (A := A)) (zX9_isPointOrBar hc1) (va_cwS 1 hts gX9_step_X9_isPointOrBar rfl rfl rfl (by decide +kernel) ⟨Nat.le_of_ble_eq_true rfl, Nat.le_of_ble_eq_true rfl⟩) rfl hl.1 rfl (Nat.le_of_ble_eq_true rfl) dX9_step_1 ⟨Nat.zero_le _, Nat.zero_le _⟩) hP hS hA (fun H locs hP hS => ?_)
  refine lv_if_ne (tgt := 15) hx hb dX9_step_4 (by decide) (fun cc4 => ?_) (fun cc4 => ?_)
  · have hm := k_in cc4 hm
    refine lv_iload_n hx hb dX9_step_15 rfl (lv_at hl 2 rfl) ?_
    obtain ⟨r2, hc16, hm⟩ := k_bds hm
    refine k_i_0 (k_rS (As := [.int a2]) (rest := []) ⟨hx, hb, hml, hown, hts⟩ hK hN k_P0 (k_D0 (A := A)) (zX0_isDie hc16) (va_cwS 1 hts gX9_step_X0_isDie rfl rfl rfl (by decide +kernel) ⟨Nat.le_of_ble_eq_true rfl, Nat.le_of_ble_eq_true rfl⟩) rfl hl.1 rfl (Nat.le_of_ble_eq_true rfl) dX9_step_16 ⟨Nat.zero_le _, Nat.zero_le _⟩) hP hS hA (fun H locs hP hS => ?_)
    refine lv_if_ne (tgt := 30) hx hb dX9_step_19 (by decide) (fun cc19 => ?_) (fun cc19 => ?_)
    · have hm := k_in cc19 hm
      refine lv_aload_n hx hb dX9_step_30 rfl (lv_at hl 0 rfl) ?_
      refine va_get (D := D) (ci := 5) (v := .ref hn) (C := RX9) (T := TX9) (N := 4) hx hb hts hinX9 hown hK hP 0 rfl rfl 0 (by decide) fl10 (fun _ h9 => h9) rfl dX9_step_31 ?_
      refine lv_iload_n hx hb dX9_step_34 rfl (lv_at hl 1 rfl) ?_
      refine lv_iload_n hx hb dX9_step_35 rfl (lv_at hl 2 rfl) ?_
      obtain ⟨r3, hc36, hm⟩ := k_bds hm
      have hPc : va_P D vwCl (wG hn c_mover c_phase c_dice c_stake c_cube c_pieces0 c_pieces1 c_score0 c_score1 c_hits0 c_hits1 c_stopped c_stopPart) _ := k_Psub hP [1] rfl
      have hDc : va_D A (wG hn c_mover c_phase c_dice c_stake c_cube c_pieces0 c_pieces1 c_score0 c_score1 c_hits0 c_hits1 c_stopped c_stopPart) := hD.sub [1] (by decide) rfl
      refine k_i_c (Wf := (wX cI cJ cC cG h9 hn ap q ht h0 pa pb pc jk hasS cnt snp G c_mover c_phase c_dice c_stake c_cube c_pieces0 c_pieces1 c_score0 c_score1 c_hits0 c_hits1 c_stopped c_stopPart t_signs t_length)) [1] [0, 2, 3, 4, 5, 6, 7, 8, 9, 10, 11, 12, 13, 14, 15, 16, 17, 18, 19, 20, 21, 22, 23, 24] [0, 24, 1, 2, 3, 4, 5, 6, 7, 8, 9, 10, 11, 12, 13, 14, 15, 16, 17, 18, 19, 20, 21, 22, 23] (k_rV (As := [.int a1, .int a2]) (rest := []) ⟨hx, hb, hml, hown, hts⟩ hK hN hPc hDc (zX1_reasonAgainst hc36) (cwV 2 hts gX9_step_X1_reasonAgainst rfl rfl rfl (by decide +kernel) ⟨Nat.le_of_ble_eq_true rfl, Nat.le_of_ble_eq_true rfl⟩) rfl rfl rfl hl.1 rfl (Nat.le_of_ble_eq_true rfl) dX9_step_36 ⟨Nat.zero_le _, Nat.zero_le _⟩) hP hD hS hA rfl rfl (by decide) (by decide) rfl (by decide) (fun H locs hP hD hS => ?_)
      refine lv_if_eq (tgt := 50) hx hb dX9_step_39 (by decide) (fun cc39 => ?_) (fun cc39 => ?_)
      · have hm := k_ip cc39 hm
        refine lv_aload_n hx hb dX9_step_50 rfl (lv_at hl 0 rfl) ?_
        refine va_get (D := D) (ci := 5) (v := .ref (ap 0)) (C := RX9) (T := TX9) (N := 4) hx hb hts hinX9 hown hK hP 0 rfl rfl 1 (by decide) fl19 (fun _ h9 => h9) rfl dX9_step_51 ?_
        refine lv_aload_n hx hb dX9_step_54 rfl (lv_at hl 0 rfl) ?_
        refine va_get (D := D) (ci := 5) (v := .ref hn) (C := RX9) (T := TX9) (N := 4) hx hb hts hinX9 hown hK hP 0 rfl rfl 0 (by decide) fl10 (fun _ h9 => h9) rfl dX9_step_55 ?_
        obtain ⟨w4, w5, hc58, hm⟩ := k_bd2s hm
        have hPc : va_P D vwCl (wPa cG ap q hn hasS cnt snp G c_mover c_phase c_dice c_stake c_cube c_pieces0 c_pieces1 c_score0 c_score1 c_hits0 c_hits1 c_stopped c_stopPart) _ := k_Psub hP [2, 3, 4, 5, 6, 7, 8, 9, 1] rfl
        have hDc : va_D A (wPa cG ap q hn hasS cnt snp G c_mover c_phase c_dice c_stake c_cube c_pieces0 c_pieces1 c_score0 c_score1 c_hits0 c_hits1 c_stopped c_stopPart) := hD.sub [2, 3, 4, 5, 6, 7, 8, 9, 1] (by decide) rfl
        refine k_v_cE (fun u : (Nat → Nat) => (wX cI cJ cC cG h9 hn ap u ht h0 pa pb pc jk hasS w4 snp w5 c_mover c_phase c_dice c_stake c_cube c_pieces0 c_pieces1 c_score0 c_score1 c_hits0 c_hits1 c_stopped c_stopPart t_signs t_length)) [2, 3, 4, 5, 6, 7, 8, 9, 1] [0, 10, 11, 12, 13, 14, 15, 16, 17, 18, 19, 20, 21, 22, 23, 24] [0, 24, 16, 17, 18, 19, 20, 21, 22, 23, 1, 2, 3, 4, 5, 6, 7, 8, 9, 10, 11, 12, 13, 14, 15] (k_rV (As := [.ref hn]) (rest := []) ⟨hx, hb, hml, hown, hts⟩ hK hN hPc hDc (zX2_save hc58) (cwV 1 hts gX9_step_X2_save rfl rfl rfl (by decide +kernel) ⟨Nat.le_of_ble_eq_true rfl, Nat.le_of_ble_eq_true rfl⟩) rfl rfl rfl hl.1 rfl (Nat.le_of_ble_eq_true rfl) dX9_step_58 ⟨Nat.zero_le _, Nat.zero_le _⟩) hP hD hS hA rfl rfl (by decide) (by decide) (fun u => rfl) (by decide) (fun u9 H locs hP hD hS => ?_)
        generalize u9 = u6 at hP hD
        have hP : va_P D vwCl (wX cI cJ cC cG h9 hn ap u6 ht h0 pa pb pc jk hasS w4 snp w5 c_mover c_phase c_dice c_stake c_cube c_pieces0 c_pieces1 c_score0 c_score1 c_hits0 c_hits1 c_stopped c_stopPart t_signs t_length) H := hP
        have hD : va_D A (wX cI cJ cC cG h9 hn ap u6 ht h0 pa pb pc jk hasS w4 snp w5 c_mover c_phase c_dice c_stake c_cube c_pieces0 c_pieces1 c_score0 c_score1 c_hits0 c_hits1 c_stopped c_stopPart t_signs t_length) := hD
        refine lv_aload_n hx hb dX9_step_61 rfl (lv_at hl 0 rfl) ?_
        refine va_get (D := D) (ci := 5) (v := .ref hn) (C := RX9) (T := TX9) (N := 4) hx hb hts hinX9 hown hK hP 0 rfl rfl 0 (by decide) fl10 (fun _ h9 => h9) rfl dX9_step_62 ?_
        refine lv_iload_n hx hb dX9_step_65 rfl (lv_at hl 1 rfl) ?_
        refine lv_iload_n hx hb dX9_step_66 rfl (lv_at hl 2 rfl) ?_
        obtain ⟨r7, w8, w9, w10, w11, w12, w13, w14, w15, hc67, hm⟩ := k_bd9s hm
        have hPc : va_P D vwCl (wG hn c_mover c_phase c_dice c_stake c_cube c_pieces0 c_pieces1 c_score0 c_score1 c_hits0 c_hits1 c_stopped c_stopPart) _ := k_Psub hP [1] rfl
        have hDc : va_D A (wG hn c_mover c_phase c_dice c_stake c_cube c_pieces0 c_pieces1 c_score0 c_score1 c_hits0 c_hits1 c_stopped c_stopPart) := hD.sub [1] (by decide) rfl
        refine k_i_c (Wf := (wX cI cJ cC cG h9 hn ap u6 ht h0 pa pb pc jk hasS w4 snp w5 c_mover w8 w9 c_stake c_cube w10 w11 w12 w13 w14 w15 c_stopped c_stopPart t_signs t_length)) [1] [0, 2, 3, 4, 5, 6, 7, 8, 9, 10, 11, 12, 13, 14, 15, 16, 17, 18, 19, 20, 21, 22, 23, 24] [0, 24, 1, 2, 3, 4, 5, 6, 7, 8, 9, 10, 11, 12, 13, 14, 15, 16, 17, 18, 19, 20, 21, 22, 23] (k_rV (As := [.int a1, .int a2]) (rest := []) ⟨hx, hb, hml, hown, hts⟩ hK hN hPc hDc (zX1_doStep hc67) (cwV 2 hts gX9_step_X1_doStep rfl rfl rfl (by decide +kernel) ⟨Nat.le_of_ble_eq_true rfl, Nat.le_of_ble_eq_true rfl⟩) rfl rfl rfl hl.1 rfl (Nat.le_of_ble_eq_true rfl) dX9_step_67 ⟨Nat.zero_le _, Nat.zero_le _⟩) hP hD hS hA rfl rfl (by decide) (by decide) rfl (by decide) (fun H locs hP hD hS => ?_)
        cases hm
        exact k_end_zE (u6, pa, pb, jk) _ hx hb hr hlocks hK hP hD hS dX9_step_70
      · have hm := k_in cc39 hm
        cases hm
    · have hm := k_ip cc19 hm
      cases hm
  · have hm := k_ip cc4 hm
    cases hm

abbrev rmX9_endTurn : Room := { frames := 12, cells := 0, slots := 0, locals := 352 }
set_option maxHeartbeats 4000000 in
set_option maxRecDepth 100000 in
theorem zX9_endTurn {l : Launch} {D : va_G} {cI cJ cC cG : ClassId} {sz : Nat} {h9 hn h0 : Nat} {ap q ht pa pb pc : Nat → Nat} {jk : JT} {hasS : Bool} {cnt : Int32} {snp : GT} {G : Nat → GT} {c_mover : Int32} {c_phase : Int32} {c_dice : Int32} {c_stake : Int32} {c_cube : Int32} {c_pieces0 : Int64} {c_pieces1 : Int64} {c_score0 : Int32} {c_score1 : Int32} {c_hits0 : Int32} {c_hits1 : Int32} {c_stopped : Bool} {c_stopPart : Int32} {t_signs : Nat → Int32} {t_length : Int32} {r : Int32} {cnt' : Int32} {G' : Nat → GT} {c_mover' : Int32} {c_phase' : Int32} {c_dice' : Int32} (hm : mX9_endTurn cnt G c_mover c_phase c_dice c_stake c_cube c_pieces0 c_pieces1 c_score0 c_score1 c_hits0 c_hits1 c_stopped c_stopPart = some (r, cnt', G', c_mover', c_phase', c_dice')) : k_MiE l yX9_endTurn wsX9_endTurn rmX9_endTurn D (kT cI cJ cC cG) sz ([.ref h9] : List Value) (wX cI cJ cC cG h9 hn ap q ht h0 pa pb pc jk hasS cnt snp G c_mover c_phase c_dice c_stake c_cube c_pieces0 c_pieces1 c_score0 c_score1 c_hits0 c_hits1 c_stopped c_stopPart t_signs t_length) (fun u : (Nat → Nat) × (Nat → Nat) × (Nat → Nat) × (JT) => (wX cI cJ cC cG h9 hn ap (u.1) ht h0 (u.2.1) (u.2.2.1) pc (u.2.2.2) hasS cnt' snp G' c_mover' c_phase' c_dice' c_stake c_cube c_pieces0 c_pieces1 c_score0 c_score1 c_hits0 c_hits1 c_stopped c_stopPart t_signs t_length)) r := by
  refine k_st_iE (cc := cX9_endTurn) (maxL := 1) (by decide) rfl (Nat.le_of_ble_eq_true rfl) ?_
  intro p e z m below meth c A hx hb hr hml hts hown hlocks hsz hN hA hK hP hD hS ls hl
  have hown : z.vm.findClass RX9 = some m.cls := hown
  have hinX1 : ∀ w ∈ wsX10, w ∈ wsX9_endTurn := by decide +kernel
  have hinX9 : ∀ w ∈ wsX90, w ∈ wsX9_endTurn := by decide +kernel
  have fl10 := hts (.fieldLink RX9 10 "MagpieRuns" "now" "LMagpieRuns$Game;") (by decide +kernel)
  have fl19 := hts (.fieldLink RX9 19 "MagpieRuns" "past" "LMagpieRuns$Past;") (by decide +kernel)
  have fl89 := hts (.fieldLink RX9 89 "MagpieRuns$Game" "mover" "I") (by decide +kernel)
  have hl : lv_has ls 1 [(0, .ref h9)] := hl
  unfold mX9_endTurn at hm
  refine lv_aload_n hx hb dX9_endTurn_0 rfl (lv_at hl 0 rfl) ?_
  refine va_get (D := D) (ci := 5) (v := .ref hn) (C := RX9) (T := TX9) (N := 4) hx hb hts hinX9 hown hK hP 0 rfl rfl 0 (by decide) fl10 (fun _ h9 => h9) rfl dX9_endTurn_1 ?_
  obtain ⟨r1, hc4, hm⟩ := k_bds hm
  have hPc : va_P D vwCl (wG hn c_mover c_phase c_dice c_stake c_cube c_pieces0 c_pieces1 c_score0 c_score1 c_hits0 c_hits1 c_stopped c_stopPart) _ := k_Psub hP [1] rfl
  have hDc : va_D A (wG hn c_mover c_phase c_dice c_stake c_cube c_pieces0 c_pieces1 c_score0 c_score1 c_hits0 c_hits1 c_stopped c_stopPart) := hD.sub [1] (by decide) rfl
  refine k_i_c (Wf := (wX cI cJ cC cG h9 hn ap q ht h0 pa pb pc jk hasS cnt snp G c_mover c_phase c_dice c_stake c_cube c_pieces0 c_pieces1 c_score0 c_score1 c_hits0 c_hits1 c_stopped c_stopPart t_signs t_length)) [1] [0, 2, 3, 4, 5, 6, 7, 8, 9, 10, 11, 12, 13, 14, 15, 16, 17, 18, 19, 20, 21, 22, 23, 24] [0, 24, 1, 2, 3, 4, 5, 6, 7, 8, 9, 10, 11, 12, 13, 14, 15, 16, 17, 18, 19, 20, 21, 22, 23] (k_rV (As := []) (rest := []) ⟨hx, hb, hml, hown, hts⟩ hK hN hPc hDc (zX1_canEndTurn hc4) (cwV 0 hts gX9_endTurn_X1_canEndTurn rfl rfl rfl (by decide +kernel) ⟨Nat.le_of_ble_eq_true rfl, Nat.le_of_ble_eq_true rfl⟩) rfl rfl rfl hl.1 rfl (Nat.le_of_ble_eq_true rfl) dX9_endTurn_4 ⟨Nat.zero_le _, Nat.zero_le _⟩) hP hD hS hA rfl rfl (by decide) (by decide) rfl (by decide) (fun H locs hP hD hS => ?_)
  refine lv_if_ne (tgt := 18) hx hb dX9_endTurn_7 (by decide) (fun cc7 => ?_) (fun cc7 => ?_)
  · have hm := k_in cc7 hm
    refine lv_aload_n hx hb dX9_endTurn_18 rfl (lv_at hl 0 rfl) ?_
    refine va_get (D := D) (ci := 5) (v := .ref (ap 0)) (C := RX9) (T := TX9) (N := 4) hx hb hts hinX9 hown hK hP 0 rfl rfl 1 (by decide) fl19 (fun _ h9 => h9) rfl dX9_endTurn_19 ?_
    refine lv_aload_n hx hb dX9_endTurn_22 rfl (lv_at hl 0 rfl) ?_
    refine va_get (D := D) (ci := 5) (v := .ref hn) (C := RX9) (T := TX9) (N := 4) hx hb hts hinX9 hown hK hP 0 rfl rfl 0 (by decide) fl10 (fun _ h9 => h9) rfl dX9_endTurn_23 ?_
    obtain ⟨w2, w3, hc26, hm⟩ := k_bd2s hm
    have hPc : va_P D vwCl (wPa cG ap q hn hasS cnt snp G c_mover c_phase c_dice c_stake c_cube c_pieces0 c_pieces1 c_score0 c_score1 c_hits0 c_hits1 c_stopped c_stopPart) _ := k_Psub hP [2, 3, 4, 5, 6, 7, 8, 9, 1] rfl
    have hDc : va_D A (wPa cG ap q hn hasS cnt snp G c_mover c_phase c_dice c_stake c_cube c_pieces0 c_pieces1 c_score0 c_score1 c_hits0 c_hits1 c_stopped c_stopPart) := hD.sub [2, 3, 4, 5, 6, 7, 8, 9, 1] (by decide) rfl
    refine k_v_cE (fun u : (Nat → Nat) => (wX cI cJ cC cG h9 hn ap u ht h0 pa pb pc jk hasS w2 snp w3 c_mover c_phase c_dice c_stake c_cube c_pieces0 c_pieces1 c_score0 c_score1 c_hits0 c_hits1 c_stopped c_stopPart t_signs t_length)) [2, 3, 4, 5, 6, 7, 8, 9, 1] [0, 10, 11, 12, 13, 14, 15, 16, 17, 18, 19, 20, 21, 22, 23, 24] [0, 24, 16, 17, 18, 19, 20, 21, 22, 23, 1, 2, 3, 4, 5, 6, 7, 8, 9, 10, 11, 12, 13, 14, 15] (k_rV (As := [.ref hn]) (rest := []) ⟨hx, hb, hml, hown, hts⟩ hK hN hPc hDc (zX2_save hc26) (cwV 1 hts gX9_endTurn_X2_save rfl rfl rfl (by decide +kernel) ⟨Nat.le_of_ble_eq_true rfl, Nat.le_of_ble_eq_true rfl⟩) rfl rfl rfl hl.1 rfl (Nat.le_of_ble_eq_true rfl) dX9_endTurn_26 ⟨Nat.zero_le _, Nat.zero_le _⟩) hP hD hS hA rfl rfl (by decide) (by decide) (fun u => rfl) (by decide) (fun u9 H locs hP hD hS => ?_)
    generalize u9 = u4 at hP hD
    have hP : va_P D vwCl (wX cI cJ cC cG h9 hn ap u4 ht h0 pa pb pc jk hasS w2 snp w3 c_mover c_phase c_dice c_stake c_cube c_pieces0 c_pieces1 c_score0 c_score1 c_hits0 c_hits1 c_stopped c_stopPart t_signs t_length) H := hP
    have hD : va_D A (wX cI cJ cC cG h9 hn ap u4 ht h0 pa pb pc jk hasS w2 snp w3 c_mover c_phase c_dice c_stake c_cube c_pieces0 c_pieces1 c_score0 c_score1 c_hits0 c_hits1 c_stopped c_stopPart t_signs t_length) := hD
    refine lv_aload_n hx hb dX9_endTurn_29 rfl (lv_at hl 0 rfl) ?_
    refine va_get (D := D) (ci := 5) (v := .ref hn) (C := RX9) (T := TX9) (N := 4) hx hb hts hinX9 hown hK hP 0 rfl rfl 0 (by decide) fl10 (fun _ h9 => h9) rfl dX9_endTurn_30 ?_
    obtain ⟨w5, w6, w7, hc33, hm⟩ := k_bd3s hm
    have hPc : va_P D vwCl (wG hn c_mover c_phase c_dice c_stake c_cube c_pieces0 c_pieces1 c_score0 c_score1 c_hits0 c_hits1 c_stopped c_stopPart) _ := k_Psub hP [1] rfl
    have hDc : va_D A (wG hn c_mover c_phase c_dice c_stake c_cube c_pieces0 c_pieces1 c_score0 c_score1 c_hits0 c_hits1 c_stopped c_stopPart) := hD.sub [1] (by decide) rfl
    refine k_v_c (Wf := (wX cI cJ cC cG h9 hn ap u4 ht h0 pa pb pc jk hasS w2 snp w3 w5 w6 w7 c_stake c_cube c_pieces0 c_pieces1 c_score0 c_score1 c_hits0 c_hits1 c_stopped c_stopPart t_signs t_length)) [1] [0, 2, 3, 4, 5, 6, 7, 8, 9, 10, 11, 12, 13, 14, 15, 16, 17, 18, 19, 20, 21, 22, 23, 24] [0, 24, 1, 2, 3, 4, 5, 6, 7, 8, 9, 10, 11, 12, 13, 14, 15, 16, 17, 18, 19, 20, 21, 22, 23] (k_rV (As := []) (rest := []) ⟨hx, hb, hml, hown, hts⟩ hK hN hPc hDc (zX1_doEndTurn hc33) (cwV 0 hts gX9_endTurn_X1_doEndTurn rfl rfl rfl (by decide +kernel) ⟨Nat.le_of_ble_eq_true rfl, Nat.le_of_ble_eq_true rfl⟩) rfl rfl rfl hl.1 rfl (Nat.le_of_ble_eq_true rfl) dX9_endTurn_33 ⟨Nat.zero_le _, Nat.zero_le _⟩) hP hD hS hA rfl rfl (by decide) (by decide) rfl (by decide) (fun H locs hP hD hS => ?_)
    refine lv_aload_n hx hb dX9_endTurn_36 rfl (lv_at hl 0 rfl) ?_
    refine va_get (D := D) (ci := 5) (v := .ref hn) (C := RX9) (T := TX9) (N := 4) hx hb hts hinX9 hown hK hP 0 rfl rfl 0 (by decide) fl10 (fun _ h9 => h9) rfl dX9_endTurn_37 ?_
    refine va_get (D := D) (ci := 0) (v := .int w5) (C := RX1) (T := TX1) (N := 13) hx hb hts hinX1 hown hK hP 1 rfl rfl 0 (by decide) fl89 (fun _ h9 => h9) rfl dX9_endTurn_40 ?_
    cases hm
    exact k_end_iE (u4, pa, pb, jk) hx hb hr hlocks hK hP hD hS dX9_endTurn_43
  · have hm := k_ip cc7 hm
    cases hm

abbrev rmX9_isPlayer : Room := { frames := 0, cells := 0, slots := 0, locals := 0 }
set_option maxHeartbeats 4000000 in
set_option maxRecDepth 100000 in
theorem zX9_isPlayer {l : Launch} {D : va_G} {cI cJ cC cG : ClassId} {sz : Nat}  {a0 : Int32} {r : Bool} (hm : mX9_isPlayer a0 = some (r)) : k_Mi l yX9_isPlayer wsX9_isPlayer rmX9_isPlayer D (kT cI cJ cC cG) sz ([.int a0] : List Value) [] [] (k_b r) := by
  refine k_st_i (cc := cX9_isPlayer) (maxL := 1) (by decide) rfl (Nat.le_of_ble_eq_true rfl) ?_
  intro p e z m below meth c A hx hb hr hml hts hown hlocks hsz hN hA hK hP hD hS ls hl
  have hown : z.vm.findClass RX9 = some m.cls := hown
  have hl : lv_has ls 1 [(0, .int a0)] := hl
  unfold mX9_isPlayer at hm
  refine lv_iload_n hx hb dX9_isPlayer_0 rfl (lv_at hl 0 rfl) ?_
  refine lv_if_eq (tgt := 9) hx hb dX9_isPlayer_1 (by decide) (fun cc1 => ?_) (fun cc1 => ?_)
  · have hm := k_ip cc1 hm
    refine lv_iconst (v := 1) hx hb dX9_isPlayer_9 (by decide) ?_
    refine lv_goto (tgt := 14) hx hb dX9_isPlayer_10 (by decide) ?_
    cases hm
    exact k_end_z true hx hb hr hlocks hK hP hD hS dX9_isPlayer_14
  · have hm := k_in cc1 hm
    refine lv_iload_n hx hb dX9_isPlayer_4 rfl (lv_at hl 0 rfl) ?_
    refine lv_iconst (v := 1) hx hb dX9_isPlayer_5 (by decide) ?_
    refine lv_icmp_ne (tgt := 13) hx hb dX9_isPlayer_6 (by decide) (fun cc6 => ?_) (fun cc6 => ?_)
    · have hm := k_in cc6 hm
      refine lv_iconst (v := 0) hx hb dX9_isPlayer_13 (by decide) ?_
      cases hm
      exact k_end_z false hx hb hr hlocks hK hP hD hS dX9_isPlayer_14
    · have hm := k_ip cc6 hm
      refine lv_iconst (v := 1) hx hb dX9_isPlayer_9 (by decide) ?_
      refine lv_goto (tgt := 14) hx hb dX9_isPlayer_10 (by decide) ?_
      cases hm
      exact k_end_z true hx hb hr hlocks hK hP hD hS dX9_isPlayer_14

abbrev rmX9_isPlace : Room := { frames := 2, cells := 0, slots := 0, locals := 40 }
set_option maxHeartbeats 4000000 in
set_option maxRecDepth 100000 in
theorem zX9_isPlace {l : Launch} {D : va_G} {cI cJ cC cG : ClassId} {sz : Nat}  {a0 : Int32} {r : Bool} (hm : mX9_isPlace a0 = some (r)) : k_Mi l yX9_isPlace wsX9_isPlace rmX9_isPlace D (kT cI cJ cC cG) sz ([.int a0] : List Value) [] [] (k_b r) := by
  refine k_st_i (cc := cX9_isPlace) (maxL := 1) (by decide) rfl (Nat.le_of_ble_eq_true rfl) ?_
  intro p e z m below meth c A hx hb hr hml hts hown hlocks hsz hN hA hK hP hD hS ls hl
  have hown : z.vm.findClass RX9 = some m.cls := hown
  have hl : lv_has ls 1 [(0, .int a0)] := hl
  unfold mX9_isPlace at hm
  refine lv_iload_n hx hb dX9_isPlace_0 rfl (lv_at hl 0 rfl) ?_
  obtain ⟨r1, hc1, hm⟩ := k_bds hm
  refine k_i_0 (k_rS (As := [.int a0]) (rest := []) ⟨hx, hb, hml, hown, hts⟩ hK hN k_P0 (k_D0 (A := A)) (zX9_isPointOrBar hc1) (va_cwS 1 hts gX9_isPlace_X9_isPointOrBar rfl rfl rfl (by decide +kernel) ⟨Nat.le_of_ble_eq_true rfl, Nat.le_of_ble_eq_true rfl⟩) rfl hl.1 rfl (Nat.le_of_ble_eq_true rfl) dX9_isPlace_1 ⟨Nat.zero_le _, Nat.zero_le _⟩) hP hS hA (fun H locs hP hS => ?_)
  refine lv_if_ne (tgt := 13) hx hb dX9_isPlace_4 (by decide) (fun cc4 => ?_) (fun cc4 => ?_)
  · have hm := k_in cc4 hm
    refine lv_iconst (v := 1) hx hb dX9_isPlace_13 (by decide) ?_
    refine lv_goto (tgt := 18) hx hb dX9_isPlace_14 (by decide) ?_
    cases hm
    exact k_end_z true hx hb hr hlocks hK hP hD hS dX9_isPlace_18
  · have hm := k_ip cc4 hm
    refine lv_iload_n hx hb dX9_isPlace_7 rfl (lv_at hl 0 rfl) ?_
    refine lv_bipush (v := 16) hx hb dX9_isPlace_8 (by decide) ?_
    refine lv_icmp_ne (tgt := 17) hx hb dX9_isPlace_10 (by decide) (fun cc10 => ?_) (fun cc10 => ?_)
    · have hm := k_in cc10 hm
      refine lv_iconst (v := 0) hx hb dX9_isPlace_17 (by decide) ?_
      cases hm
      exact k_end_z false hx hb hr hlocks hK hP hD hS dX9_isPlace_18
    · have hm := k_ip cc10 hm
      refine lv_iconst (v := 1) hx hb dX9_isPlace_13 (by decide) ?_
      refine lv_goto (tgt := 18) hx hb dX9_isPlace_14 (by decide) ?_
      cases hm
      exact k_end_z true hx hb hr hlocks hK hP hD hS dX9_isPlace_18

abbrev rmX9_carry : Room := { frames := 4, cells := 0, slots := 0, locals := 122 }
set_option maxHeartbeats 4000000 in
set_option maxRecDepth 100000 in
theorem zX9_carry {l : Launch} {D : va_G} {cI cJ cC cG : ClassId} {sz : Nat} {h9 hn h0 : Nat} {ap q ht pa pb pc : Nat → Nat} {jk : JT} {hasS : Bool} {cnt : Int32} {snp : GT} {G : Nat → GT} {c_mover : Int32} {c_phase : Int32} {c_dice : Int32} {c_stake : Int32} {c_cube : Int32} {c_pieces0 : Int64} {c_pieces1 : Int64} {c_score0 : Int32} {c_score1 : Int32} {c_hits0 : Int32} {c_hits1 : Int32} {c_stopped : Bool} {c_stopPart : Int32} {t_signs : Nat → Int32} {t_length : Int32} {a1 : Int32} {a2 : Int32} {a3 : Int32} {r : Int32} {cnt' : Int32} {G' : Nat → GT} {c_pieces0' : Int64} {c_pieces1' : Int64} (hm : mX9_carry cnt G c_mover c_phase c_dice c_stake c_cube c_pieces0 c_pieces1 c_score0 c_score1 c_hits0 c_hits1 c_stopped c_stopPart a1 a2 a3 = some (r, cnt', G', c_pieces0', c_pieces1')) : k_MiE l yX9_carry wsX9_carry rmX9_carry D (kT cI cJ cC cG) sz ([.ref h9, .int a1, .int a2, .int a3] : List Value) (wX cI cJ cC cG h9 hn ap q ht h0 pa pb pc jk hasS cnt snp G c_mover c_phase c_dice c_stake c_cube c_pieces0 c_pieces1 c_score0 c_score1 c_hits0 c_hits1 c_stopped c_stopPart t_signs t_length) (fun u : (Nat → Nat) × (Nat → Nat) × (Nat → Nat) × (JT) => (wX cI cJ cC cG h9 hn ap (u.1) ht h0 (u.2.1) (u.2.2.1) pc (u.2.2.2) hasS cnt' snp G' c_mover c_phase c_dice c_stake c_cube c_pieces0' c_pieces1' c_score0 c_score1 c_hits0 c_hits1 c_stopped c_stopPart t_signs t_length)) r := by
  refine k_st_iE (cc := cX9_carry) (maxL := 4) (by decide) rfl (Nat.le_of_ble_eq_true rfl) ?_
  intro p e z m below meth c A hx hb hr hml hts hown hlocks hsz hN hA hK hP hD hS ls hl
  have hown : z.vm.findClass RX9 = some m.cls := hown
  have hinX9 : ∀ w ∈ wsX90, w ∈ wsX9_carry := by decide +kernel
  have fl10 := hts (.fieldLink RX9 10 "MagpieRuns" "now" "LMagpieRuns$Game;") (by decide +kernel)
  have fl19 := hts (.fieldLink RX9 19 "MagpieRuns" "past" "LMagpieRuns$Past;") (by decide +kernel)
  have hl : lv_has ls 4 [(0, .ref h9), (1, .int a1), (2, .int a2), (3, .int a3)] := hl
  have J_21 : ∀ (q : Nat → Nat) (pa : Nat → Nat) (pb : Nat → Nat) (jk : JT) (cnt : Int32) (G : Nat → GT) (c_pieces0 : Int64) (c_pieces1 : Int64) (H : Heap) (locs : List Loc), va_P D vwCl (wX cI cJ cC cG h9 hn ap q ht h0 pa pb pc jk hasS cnt snp G c_mover c_phase c_dice c_stake c_cube c_pieces0 c_pieces1 c_score0 c_score1 c_hits0 c_hits1 c_stopped c_stopPart t_signs t_length) H → va_D A (wX cI cJ cC cG h9 hn ap q ht h0 pa pb pc jk hasS cnt snp G c_mover c_phase c_dice c_stake c_cube c_pieces0 c_pieces1 c_score0 c_score1 c_hits0 c_hits1 c_stopped c_stopPart t_signs t_length) → va_S A z.heap H locs → ∀ ls : Array Slot, lv_has ls 4 [] → mX9_carry_21 c_mover c_phase c_dice c_stake c_cube c_score0 c_score1 c_hits0 c_hits1 c_stopped c_stopPart a1 a2 a3 cnt G c_pieces0 c_pieces1 = some (r, cnt', G', c_pieces0', c_pieces1') → W p l e rmX9_carry z m ([.ref h9, .int a1, .int a2, .int a3] : List Value).toArray below meth c H locs 0 0 (k_QiE below ([.ref h9, .int a1, .int a2, .int a3] : List Value) D (kT cI cJ cC cG) z A (fun u : (Nat → Nat) × (Nat → Nat) × (Nat → Nat) × (JT) => (wX cI cJ cC cG h9 hn ap (u.1) ht h0 (u.2.1) (u.2.2.1) pc (u.2.2.2) hasS cnt' snp G' c_mover c_phase c_dice c_stake c_cube c_pieces0' c_pieces1' c_score0 c_score1 c_hits0 c_hits1 c_stopped c_stopPart t_signs t_length)) r) (F0 m 21 ls []) := by
    intro q pa pb jk cnt G c_pieces0 c_pieces1 H locs hP hD hS ls hl hm
    unfold mX9_carry_21 at hm
    cases hm
  unfold mX9_carry at hm
  refine lv_iload_n hx hb dX9_carry_0 rfl (lv_at hl 1 rfl) ?_
  obtain ⟨r1, hc1, hm⟩ := k_bds hm
  refine k_i_0 (k_rS (As := [.int a1]) (rest := []) ⟨hx, hb, hml, hown, hts⟩ hK hN k_P0 (k_D0 (A := A)) (zX9_isPlayer hc1) (va_cwS 1 hts gX9_carry_X9_isPlayer rfl rfl rfl (by decide +kernel) ⟨Nat.le_of_ble_eq_true rfl, Nat.le_of_ble_eq_true rfl⟩) rfl hl.1 rfl (Nat.le_of_ble_eq_true rfl) dX9_carry_1 ⟨Nat.zero_le _, Nat.zero_le _⟩) hP hS hA (fun H locs hP hS => ?_)
  refine lv_if_eq (tgt := 21) hx hb dX9_carry_4 (by decide) (fun cc4 => ?_) (fun cc4 => ?_)
  · have hm := k_ip cc4 hm
    exact J_21 q pa pb jk cnt G c_pieces0 c_pieces1 _ _ hP hD hS _ (lv_sub hl [] rfl) hm
  · have hm := k_in cc4 hm
    refine lv_iload_n hx hb dX9_carry_7 rfl (lv_at hl 2 rfl) ?_
    obtain ⟨r2, hc8, hm⟩ := k_bds hm
    refine k_i_0 (k_rS (As := [.int a2]) (rest := []) ⟨hx, hb, hml, hown, hts⟩ hK hN k_P0 (k_D0 (A := A)) (zX9_isPlace hc8) (va_cwS 1 hts gX9_carry_X9_isPlace rfl rfl rfl (by decide +kernel) ⟨Nat.le_of_ble_eq_true rfl, Nat.le_of_ble_eq_true rfl⟩) rfl hl.1 rfl (Nat.le_of_ble_eq_true rfl) dX9_carry_8 ⟨Nat.zero_le _, Nat.zero_le _⟩) hP hS hA (fun H locs hP hS => ?_)
    refine lv_if_eq (tgt := 21) hx hb dX9_carry_11 (by decide) (fun cc11 => ?_) (fun cc11 => ?_)
    · have hm := k_ip cc11 hm
      exact J_21 q pa pb jk cnt G c_pieces0 c_pieces1 _ _ hP hD hS _ (lv_sub hl [] rfl) hm
    · have hm := k_in cc11 hm
      refine lv_iload_n hx hb dX9_carry_14 rfl (lv_at hl 3 rfl) ?_
      obtain ⟨r3, hc15, hm⟩ := k_bds hm
      refine k_i_0 (k_rS (As := [.int a3]) (rest := []) ⟨hx, hb, hml, hown, hts⟩ hK hN k_P0 (k_D0 (A := A)) (zX9_isPlace hc15) (va_cwS 1 hts gX9_carry_X9_isPlace rfl rfl rfl (by decide +kernel) ⟨Nat.le_of_ble_eq_true rfl, Nat.le_of_ble_eq_true rfl⟩) rfl hl.1 rfl (Nat.le_of_ble_eq_true rfl) dX9_carry_15 ⟨Nat.zero_le _, Nat.zero_le _⟩) hP hS hA (fun H locs hP hS => ?_)
      refine lv_if_ne (tgt := 29) hx hb dX9_carry_18 (by decide) (fun cc18 => ?_) (fun cc18 => ?_)
      · have hm := k_in cc18 hm
        refine lv_aload_n hx hb dX9_carry_29 rfl (lv_at hl 0 rfl) ?_
        refine va_get (D := D) (ci := 5) (v := .ref hn) (C := RX9) (T := TX9) (N := 4) hx hb hts hinX9 hown hK hP 0 rfl rfl 0 (by decide) fl10 (fun _ h9 => h9) rfl dX9_carry_30 ?_
        refine lv_iload_n hx hb dX9_carry_33 rfl (lv_at hl 1 rfl) ?_
        refine lv_iload_n hx hb dX9_carry_34 rfl (lv_at hl 2 rfl) ?_
        refine lv_iload_n hx hb dX9_carry_35 rfl (lv_at hl 3 rfl) ?_
        obtain ⟨r4, hc36, hm⟩ := k_bds hm
        have hPc : va_P D vwCl (wG hn c_mover c_phase c_dice c_stake c_cube c_pieces0 c_pieces1 c_score0 c_score1 c_hits0 c_hits1 c_stopped c_stopPart) _ := k_Psub hP [1] rfl
        have hDc : va_D A (wG hn c_mover c_phase c_dice c_stake c_cube c_pieces0 c_pieces1 c_score0 c_score1 c_hits0 c_hits1 c_stopped c_stopPart) := hD.sub [1] (by decide) rfl
        refine k_i_c (Wf := (wX cI cJ cC cG h9 hn ap q ht h0 pa pb pc jk hasS cnt snp G c_mover c_phase c_dice c_stake c_cube c_pieces0 c_pieces1 c_score0 c_score1 c_hits0 c_hits1 c_stopped c_stopPart t_signs t_length)) [1] [0, 2, 3, 4, 5, 6, 7, 8, 9, 10, 11, 12, 13, 14, 15, 16, 17, 18, 19, 20, 21, 22, 23, 24] [0, 24, 1, 2, 3, 4, 5, 6, 7, 8, 9, 10, 11, 12, 13, 14, 15, 16, 17, 18, 19, 20, 21, 22, 23] (k_rV (As := [.int a1, .int a2, .int a3]) (rest := []) ⟨hx, hb, hml, hown, hts⟩ hK hN hPc hDc (zX1_canCarry hc36) (cwV 3 hts gX9_carry_X1_canCarry rfl rfl rfl (by decide +kernel) ⟨Nat.le_of_ble_eq_true rfl, Nat.le_of_ble_eq_true rfl⟩) rfl rfl rfl hl.1 rfl (Nat.le_of_ble_eq_true rfl) dX9_carry_36 ⟨Nat.zero_le _, Nat.zero_le _⟩) hP hD hS hA rfl rfl (by decide) (by decide) rfl (by decide) (fun H locs hP hD hS => ?_)
        refine lv_if_ne (tgt := 50) hx hb dX9_carry_39 (by decide) (fun cc39 => ?_) (fun cc39 => ?_)
        · have hm := k_in cc39 hm
          refine lv_aload_n hx hb dX9_carry_50 rfl (lv_at hl 0 rfl) ?_
          refine va_get (D := D) (ci := 5) (v := .ref (ap 0)) (C := RX9) (T := TX9) (N := 4) hx hb hts hinX9 hown hK hP 0 rfl rfl 1 (by decide) fl19 (fun _ h9 => h9) rfl dX9_carry_51 ?_
          refine lv_aload_n hx hb dX9_carry_54 rfl (lv_at hl 0 rfl) ?_
          refine va_get (D := D) (ci := 5) (v := .ref hn) (C := RX9) (T := TX9) (N := 4) hx hb hts hinX9 hown hK hP 0 rfl rfl 0 (by decide) fl10 (fun _ h9 => h9) rfl dX9_carry_55 ?_
          obtain ⟨w5, w6, hc58, hm⟩ := k_bd2s hm
          have hPc : va_P D vwCl (wPa cG ap q hn hasS cnt snp G c_mover c_phase c_dice c_stake c_cube c_pieces0 c_pieces1 c_score0 c_score1 c_hits0 c_hits1 c_stopped c_stopPart) _ := k_Psub hP [2, 3, 4, 5, 6, 7, 8, 9, 1] rfl
          have hDc : va_D A (wPa cG ap q hn hasS cnt snp G c_mover c_phase c_dice c_stake c_cube c_pieces0 c_pieces1 c_score0 c_score1 c_hits0 c_hits1 c_stopped c_stopPart) := hD.sub [2, 3, 4, 5, 6, 7, 8, 9, 1] (by decide) rfl
          refine k_v_cE (fun u : (Nat → Nat) => (wX cI cJ cC cG h9 hn ap u ht h0 pa pb pc jk hasS w5 snp w6 c_mover c_phase c_dice c_stake c_cube c_pieces0 c_pieces1 c_score0 c_score1 c_hits0 c_hits1 c_stopped c_stopPart t_signs t_length)) [2, 3, 4, 5, 6, 7, 8, 9, 1] [0, 10, 11, 12, 13, 14, 15, 16, 17, 18, 19, 20, 21, 22, 23, 24] [0, 24, 16, 17, 18, 19, 20, 21, 22, 23, 1, 2, 3, 4, 5, 6, 7, 8, 9, 10, 11, 12, 13, 14, 15] (k_rV (As := [.ref hn]) (rest := []) ⟨hx, hb, hml, hown, hts⟩ hK hN hPc hDc (zX2_save hc58) (cwV 1 hts gX9_carry_X2_save rfl rfl rfl (by decide +kernel) ⟨Nat.le_of_ble_eq_true rfl, Nat.le_of_ble_eq_true rfl⟩) rfl rfl rfl hl.1 rfl (Nat.le_of_ble_eq_true rfl) dX9_carry_58 ⟨Nat.zero_le _, Nat.zero_le _⟩) hP hD hS hA rfl rfl (by decide) (by decide) (fun u => rfl) (by decide) (fun u9 H locs hP hD hS => ?_)
          generalize u9 = u7 at hP hD
          have hP : va_P D vwCl (wX cI cJ cC cG h9 hn ap u7 ht h0 pa pb pc jk hasS w5 snp w6 c_mover c_phase c_dice c_stake c_cube c_pieces0 c_pieces1 c_score0 c_score1 c_hits0 c_hits1 c_stopped c_stopPart t_signs t_length) H := hP
          have hD : va_D A (wX cI cJ cC cG h9 hn ap u7 ht h0 pa pb pc jk hasS w5 snp w6 c_mover c_phase c_dice c_stake c_cube c_pieces0 c_pieces1 c_score0 c_score1 c_hits0 c_hits1 c_stopped c_stopPart t_signs t_length) := hD
          refine lv_aload_n hx hb dX9_carry_61 rfl (lv_at hl 0 rfl) ?_
          refine va_get (D := D) (ci := 5) (v := .ref hn) (C := RX9) (T := TX9) (N := 4) hx hb hts hinX9 hown hK hP 0 rfl rfl 0 (by decide) fl10 (fun _ h9 => h9) rfl dX9_carry_62 ?_
          refine lv_iload_n hx hb dX9_carry_65 rfl (lv_at hl 1 rfl) ?_
          refine lv_iload_n hx hb dX9_carry_66 rfl (lv_at hl 2 rfl) ?_
          refine lv_iload_n hx hb dX9_carry_67 rfl (lv_at hl 3 rfl) ?_
          obtain ⟨w8, w9, hc68, hm⟩ := k_bd2s hm
          have hPc : va_P D vwCl (wG hn c_mover c_phase c_dice c_stake c_cube c_pieces0 c_pieces1 c_score0 c_score1 c_hits0 c_hits1 c_stopped c_stopPart) _ := k_Psub hP [1] rfl
          have hDc : va_D A (wG hn c_mover c_phase c_dice c_stake c_cube c_pieces0 c_pieces1 c_score0 c_score1 c_hits0 c_hits1 c_stopped c_stopPart) := hD.sub [1] (by decide) rfl
          refine k_v_c (Wf := (wX cI cJ cC cG h9 hn ap u7 ht h0 pa pb pc jk hasS w5 snp w6 c_mover c_phase c_dice c_stake c_cube w8 w9 c_score0 c_score1 c_hits0 c_hits1 c_stopped c_stopPart t_signs t_length)) [1] [0, 2, 3, 4, 5, 6, 7, 8, 9, 10, 11, 12, 13, 14, 15, 16, 17, 18, 19, 20, 21, 22, 23, 24] [0, 24, 1, 2, 3, 4, 5, 6, 7, 8, 9, 10, 11, 12, 13, 14, 15, 16, 17, 18, 19, 20, 21, 22, 23] (k_rV (As := [.int a1, .int a2, .int a3]) (rest := []) ⟨hx, hb, hml, hown, hts⟩ hK hN hPc hDc (zX1_doCarry hc68) (cwV 3 hts gX9_carry_X1_doCarry rfl rfl rfl (by decide +kernel) ⟨Nat.le_of_ble_eq_true rfl, Nat.le_of_ble_eq_true rfl⟩) rfl rfl rfl hl.1 rfl (Nat.le_of_ble_eq_true rfl) dX9_carry_68 ⟨Nat.zero_le _, Nat.zero_le _⟩) hP hD hS hA rfl rfl (by decide) (by decide) rfl (by decide) (fun H locs hP hD hS => ?_)
          refine lv_aload_n hx hb dX9_carry_71 rfl (lv_at hl 0 rfl) ?_
          refine va_get (D := D) (ci := 5) (v := .ref hn) (C := RX9) (T := TX9) (N := 4) hx hb hts hinX9 hown hK hP 0 rfl rfl 0 (by decide) fl10 (fun _ h9 => h9) rfl dX9_carry_72 ?_
          refine lv_iload_n hx hb dX9_carry_75 rfl (lv_at hl 1 rfl) ?_
          obtain ⟨r10, hc76, hm⟩ := k_bds hm
          have hPc : va_P D vwCl (wG hn c_mover c_phase c_dice c_stake c_cube w8 w9 c_score0 c_score1 c_hits0 c_hits1 c_stopped c_stopPart) _ := k_Psub hP [1] rfl
          have hDc : va_D A (wG hn c_mover c_phase c_dice c_stake c_cube w8 w9 c_score0 c_score1 c_hits0 c_hits1 c_stopped c_stopPart) := hD.sub [1] (by decide) rfl
          refine k_l_c (Wf := (wX cI cJ cC cG h9 hn ap u7 ht h0 pa pb pc jk hasS w5 snp w6 c_mover c_phase c_dice c_stake c_cube w8 w9 c_score0 c_score1 c_hits0 c_hits1 c_stopped c_stopPart t_signs t_length)) [1] [0, 2, 3, 4, 5, 6, 7, 8, 9, 10, 11, 12, 13, 14, 15, 16, 17, 18, 19, 20, 21, 22, 23, 24] [0, 24, 1, 2, 3, 4, 5, 6, 7, 8, 9, 10, 11, 12, 13, 14, 15, 16, 17, 18, 19, 20, 21, 22, 23] (k_rV (As := [.int a1]) (rest := []) ⟨hx, hb, hml, hown, hts⟩ hK hN hPc hDc (zX1_piecesOf hc76) (cwV 1 hts gX9_carry_X1_piecesOf rfl rfl rfl (by decide +kernel) ⟨Nat.le_of_ble_eq_true rfl, Nat.le_of_ble_eq_true rfl⟩) rfl rfl rfl hl.1 rfl (Nat.le_of_ble_eq_true rfl) dX9_carry_76 ⟨Nat.zero_le _, Nat.zero_le _⟩) hP hD hS hA rfl rfl (by decide) (by decide) rfl (by decide) (fun H locs hP hD hS => ?_)
          obtain ⟨r11, hc79, hm⟩ := k_bds hm
          refine k_i_0 (k_rS (As := [.long r10]) (rest := []) ⟨hx, hb, hml, hown, hts⟩ hK hN k_P0 (k_D0 (A := A)) (zX3_sumOfWays hc79) (va_cwS 1 hts gX9_carry_X3_sumOfWays rfl rfl rfl (by decide +kernel) ⟨Nat.le_of_ble_eq_true rfl, Nat.le_of_ble_eq_true rfl⟩) rfl hl.1 rfl (Nat.le_of_ble_eq_true rfl) dX9_carry_79 ⟨Nat.zero_le _, Nat.zero_le _⟩) hP hS hA (fun H locs hP hS => ?_)
          cases hm
          exact k_end_iE (u7, pa, pb, jk) hx hb hr hlocks hK hP hD hS dX9_carry_82
        · have hm := k_ip cc39 hm
          cases hm
      · have hm := k_ip cc18 hm
        exact J_21 q pa pb jk cnt G c_pieces0 c_pieces1 _ _ hP hD hS _ (lv_sub hl [] rfl) hm

abbrev rmX9_offer : Room := { frames := 4, cells := 0, slots := 0, locals := 122 }
set_option maxHeartbeats 4000000 in
set_option maxRecDepth 100000 in
theorem zX9_offer {l : Launch} {D : va_G} {cI cJ cC cG : ClassId} {sz : Nat} {h9 hn h0 : Nat} {ap q ht pa pb pc : Nat → Nat} {jk : JT} {hasS : Bool} {cnt : Int32} {snp : GT} {G : Nat → GT} {c_mover : Int32} {c_phase : Int32} {c_dice : Int32} {c_stake : Int32} {c_cube : Int32} {c_pieces0 : Int64} {c_pieces1 : Int64} {c_score0 : Int32} {c_score1 : Int32} {c_hits0 : Int32} {c_hits1 : Int32} {c_stopped : Bool} {c_stopPart : Int32} {t_signs : Nat → Int32} {t_length : Int32} {r : Int32} {cnt' : Int32} {G' : Nat → GT} {c_phase' : Int32} (hm : mX9_offer cnt G c_mover c_phase c_dice c_stake c_cube c_pieces0 c_pieces1 c_score0 c_score1 c_hits0 c_hits1 c_stopped c_stopPart = some (r, cnt', G', c_phase')) : k_MiE l yX9_offer wsX9_offer rmX9_offer D (kT cI cJ cC cG) sz ([.ref h9] : List Value) (wX cI cJ cC cG h9 hn ap q ht h0 pa pb pc jk hasS cnt snp G c_mover c_phase c_dice c_stake c_cube c_pieces0 c_pieces1 c_score0 c_score1 c_hits0 c_hits1 c_stopped c_stopPart t_signs t_length) (fun u : (Nat → Nat) × (Nat → Nat) × (Nat → Nat) × (JT) => (wX cI cJ cC cG h9 hn ap (u.1) ht h0 (u.2.1) (u.2.2.1) pc (u.2.2.2) hasS cnt' snp G' c_mover c_phase' c_dice c_stake c_cube c_pieces0 c_pieces1 c_score0 c_score1 c_hits0 c_hits1 c_stopped c_stopPart t_signs t_length)) r := by
  refine k_st_iE (cc := cX9_offer) (maxL := 1) (by decide) rfl (Nat.le_of_ble_eq_true rfl) ?_
  intro p e z m below meth c A hx hb hr hml hts hown hlocks hsz hN hA hK hP hD hS ls hl
  have hown : z.vm.findClass RX9 = some m.cls := hown
  have hinX1 : ∀ w ∈ wsX10, w ∈ wsX9_offer := by decide +kernel
  have hinX9 : ∀ w ∈ wsX90, w ∈ wsX9_offer := by decide +kernel
  have fl10 := hts (.fieldLink RX9 10 "MagpieRuns" "now" "LMagpieRuns$Game;") (by decide +kernel)
  have fl19 := hts (.fieldLink RX9 19 "MagpieRuns" "past" "LMagpieRuns$Past;") (by decide +kernel)
  have fl122 := hts (.fieldLink RX9 122 "MagpieRuns$Game" "stake" "I") (by decide +kernel)
  have hl : lv_has ls 1 [(0, .ref h9)] := hl
  unfold mX9_offer at hm
  refine lv_aload_n hx hb dX9_offer_0 rfl (lv_at hl 0 rfl) ?_
  refine va_get (D := D) (ci := 5) (v := .ref hn) (C := RX9) (T := TX9) (N := 4) hx hb hts hinX9 hown hK hP 0 rfl rfl 0 (by decide) fl10 (fun _ h9 => h9) rfl dX9_offer_1 ?_
  obtain ⟨r1, hc4, hm⟩ := k_bds hm
  have hPc : va_P D vwCl (wG hn c_mover c_phase c_dice c_stake c_cube c_pieces0 c_pieces1 c_score0 c_score1 c_hits0 c_hits1 c_stopped c_stopPart) _ := k_Psub hP [1] rfl
  have hDc : va_D A (wG hn c_mover c_phase c_dice c_stake c_cube c_pieces0 c_pieces1 c_score0 c_score1 c_hits0 c_hits1 c_stopped c_stopPart) := hD.sub [1] (by decide) rfl
  refine k_i_c (Wf := (wX cI cJ cC cG h9 hn ap q ht h0 pa pb pc jk hasS cnt snp G c_mover c_phase c_dice c_stake c_cube c_pieces0 c_pieces1 c_score0 c_score1 c_hits0 c_hits1 c_stopped c_stopPart t_signs t_length)) [1] [0, 2, 3, 4, 5, 6, 7, 8, 9, 10, 11, 12, 13, 14, 15, 16, 17, 18, 19, 20, 21, 22, 23, 24] [0, 24, 1, 2, 3, 4, 5, 6, 7, 8, 9, 10, 11, 12, 13, 14, 15, 16, 17, 18, 19, 20, 21, 22, 23] (k_rV (As := []) (rest := []) ⟨hx, hb, hml, hown, hts⟩ hK hN hPc hDc (zX1_canOffer hc4) (cwV 0 hts gX9_offer_X1_canOffer rfl rfl rfl (by decide +kernel) ⟨Nat.le_of_ble_eq_true rfl, Nat.le_of_ble_eq_true rfl⟩) rfl rfl rfl hl.1 rfl (Nat.le_of_ble_eq_true rfl) dX9_offer_4 ⟨Nat.zero_le _, Nat.zero_le _⟩) hP hD hS hA rfl rfl (by decide) (by decide) rfl (by decide) (fun H locs hP hD hS => ?_)
  refine lv_if_ne (tgt := 18) hx hb dX9_offer_7 (by decide) (fun cc7 => ?_) (fun cc7 => ?_)
  · have hm := k_in cc7 hm
    refine lv_aload_n hx hb dX9_offer_18 rfl (lv_at hl 0 rfl) ?_
    refine va_get (D := D) (ci := 5) (v := .ref (ap 0)) (C := RX9) (T := TX9) (N := 4) hx hb hts hinX9 hown hK hP 0 rfl rfl 1 (by decide) fl19 (fun _ h9 => h9) rfl dX9_offer_19 ?_
    refine lv_aload_n hx hb dX9_offer_22 rfl (lv_at hl 0 rfl) ?_
    refine va_get (D := D) (ci := 5) (v := .ref hn) (C := RX9) (T := TX9) (N := 4) hx hb hts hinX9 hown hK hP 0 rfl rfl 0 (by decide) fl10 (fun _ h9 => h9) rfl dX9_offer_23 ?_
    obtain ⟨w2, w3, hc26, hm⟩ := k_bd2s hm
    have hPc : va_P D vwCl (wPa cG ap q hn hasS cnt snp G c_mover c_phase c_dice c_stake c_cube c_pieces0 c_pieces1 c_score0 c_score1 c_hits0 c_hits1 c_stopped c_stopPart) _ := k_Psub hP [2, 3, 4, 5, 6, 7, 8, 9, 1] rfl
    have hDc : va_D A (wPa cG ap q hn hasS cnt snp G c_mover c_phase c_dice c_stake c_cube c_pieces0 c_pieces1 c_score0 c_score1 c_hits0 c_hits1 c_stopped c_stopPart) := hD.sub [2, 3, 4, 5, 6, 7, 8, 9, 1] (by decide) rfl
    refine k_v_cE (fun u : (Nat → Nat) => (wX cI cJ cC cG h9 hn ap u ht h0 pa pb pc jk hasS w2 snp w3 c_mover c_phase c_dice c_stake c_cube c_pieces0 c_pieces1 c_score0 c_score1 c_hits0 c_hits1 c_stopped c_stopPart t_signs t_length)) [2, 3, 4, 5, 6, 7, 8, 9, 1] [0, 10, 11, 12, 13, 14, 15, 16, 17, 18, 19, 20, 21, 22, 23, 24] [0, 24, 16, 17, 18, 19, 20, 21, 22, 23, 1, 2, 3, 4, 5, 6, 7, 8, 9, 10, 11, 12, 13, 14, 15] (k_rV (As := [.ref hn]) (rest := []) ⟨hx, hb, hml, hown, hts⟩ hK hN hPc hDc (zX2_save hc26) (cwV 1 hts gX9_offer_X2_save rfl rfl rfl (by decide +kernel) ⟨Nat.le_of_ble_eq_true rfl, Nat.le_of_ble_eq_true rfl⟩) rfl rfl rfl hl.1 rfl (Nat.le_of_ble_eq_true rfl) dX9_offer_26 ⟨Nat.zero_le _, Nat.zero_le _⟩) hP hD hS hA rfl rfl (by decide) (by decide) (fun u => rfl) (by decide) (fun u9 H locs hP hD hS => ?_)
    generalize u9 = u4 at hP hD
    have hP : va_P D vwCl (wX cI cJ cC cG h9 hn ap u4 ht h0 pa pb pc jk hasS w2 snp w3 c_mover c_phase c_dice c_stake c_cube c_pieces0 c_pieces1 c_score0 c_score1 c_hits0 c_hits1 c_stopped c_stopPart t_signs t_length) H := hP
    have hD : va_D A (wX cI cJ cC cG h9 hn ap u4 ht h0 pa pb pc jk hasS w2 snp w3 c_mover c_phase c_dice c_stake c_cube c_pieces0 c_pieces1 c_score0 c_score1 c_hits0 c_hits1 c_stopped c_stopPart t_signs t_length) := hD
    refine lv_aload_n hx hb dX9_offer_29 rfl (lv_at hl 0 rfl) ?_
    refine va_get (D := D) (ci := 5) (v := .ref hn) (C := RX9) (T := TX9) (N := 4) hx hb hts hinX9 hown hK hP 0 rfl rfl 0 (by decide) fl10 (fun _ h9 => h9) rfl dX9_offer_30 ?_
    obtain ⟨w5, hc33, hm⟩ := k_bds hm
    have hPc : va_P D vwCl (wG hn c_mover c_phase c_dice c_stake c_cube c_pieces0 c_pieces1 c_score0 c_score1 c_hits0 c_hits1 c_stopped c_stopPart) _ := k_Psub hP [1] rfl
    have hDc : va_D A (wG hn c_mover c_phase c_dice c_stake c_cube c_pieces0 c_pieces1 c_score0 c_score1 c_hits0 c_hits1 c_stopped c_stopPart) := hD.sub [1] (by decide) rfl
    refine k_v_c (Wf := (wX cI cJ cC cG h9 hn ap u4 ht h0 pa pb pc jk hasS w2 snp w3 c_mover w5 c_dice c_stake c_cube c_pieces0 c_pieces1 c_score0 c_score1 c_hits0 c_hits1 c_stopped c_stopPart t_signs t_length)) [1] [0, 2, 3, 4, 5, 6, 7, 8, 9, 10, 11, 12, 13, 14, 15, 16, 17, 18, 19, 20, 21, 22, 23, 24] [0, 24, 1, 2, 3, 4, 5, 6, 7, 8, 9, 10, 11, 12, 13, 14, 15, 16, 17, 18, 19, 20, 21, 22, 23] (k_rV (As := []) (rest := []) ⟨hx, hb, hml, hown, hts⟩ hK hN hPc hDc (zX1_doOffer hc33) (cwV 0 hts gX9_offer_X1_doOffer rfl rfl rfl (by decide +kernel) ⟨Nat.le_of_ble_eq_true rfl, Nat.le_of_ble_eq_true rfl⟩) rfl rfl rfl hl.1 rfl (Nat.le_of_ble_eq_true rfl) dX9_offer_33 ⟨Nat.zero_le _, Nat.zero_le _⟩) hP hD hS hA rfl rfl (by decide) (by decide) rfl (by decide) (fun H locs hP hD hS => ?_)
    refine lv_iconst (v := 2) hx hb dX9_offer_36 (by decide) ?_
    refine lv_aload_n hx hb dX9_offer_37 rfl (lv_at hl 0 rfl) ?_
    refine va_get (D := D) (ci := 5) (v := .ref hn) (C := RX9) (T := TX9) (N := 4) hx hb hts hinX9 hown hK hP 0 rfl rfl 0 (by decide) fl10 (fun _ h9 => h9) rfl dX9_offer_38 ?_
    refine va_get (D := D) (ci := 0) (v := .int c_stake) (C := RX1) (T := TX1) (N := 13) hx hb hts hinX1 hown hK hP 1 rfl rfl 3 (by decide) fl122 (fun _ h9 => h9) rfl dX9_offer_41 ?_
    refine lv_imul hx hb dX9_offer_44 ?_
    cases hm
    exact k_end_iE (u4, pa, pb, jk) hx hb hr hlocks hK hP hD hS dX9_offer_45
  · have hm := k_ip cc7 hm
    cases hm

abbrev rmX9_take : Room := { frames := 4, cells := 0, slots := 0, locals := 122 }
set_option maxHeartbeats 4000000 in
set_option maxRecDepth 100000 in
theorem zX9_take {l : Launch} {D : va_G} {cI cJ cC cG : ClassId} {sz : Nat} {h9 hn h0 : Nat} {ap q ht pa pb pc : Nat → Nat} {jk : JT} {hasS : Bool} {cnt : Int32} {snp : GT} {G : Nat → GT} {c_mover : Int32} {c_phase : Int32} {c_dice : Int32} {c_stake : Int32} {c_cube : Int32} {c_pieces0 : Int64} {c_pieces1 : Int64} {c_score0 : Int32} {c_score1 : Int32} {c_hits0 : Int32} {c_hits1 : Int32} {c_stopped : Bool} {c_stopPart : Int32} {t_signs : Nat → Int32} {t_length : Int32} {r : Int32} {cnt' : Int32} {G' : Nat → GT} {c_phase' : Int32} {c_stake' : Int32} {c_cube' : Int32} (hm : mX9_take cnt G c_mover c_phase c_dice c_stake c_cube c_pieces0 c_pieces1 c_score0 c_score1 c_hits0 c_hits1 c_stopped c_stopPart = some (r, cnt', G', c_phase', c_stake', c_cube')) : k_MiE l yX9_take wsX9_take rmX9_take D (kT cI cJ cC cG) sz ([.ref h9] : List Value) (wX cI cJ cC cG h9 hn ap q ht h0 pa pb pc jk hasS cnt snp G c_mover c_phase c_dice c_stake c_cube c_pieces0 c_pieces1 c_score0 c_score1 c_hits0 c_hits1 c_stopped c_stopPart t_signs t_length) (fun u : (Nat → Nat) × (Nat → Nat) × (Nat → Nat) × (JT) => (wX cI cJ cC cG h9 hn ap (u.1) ht h0 (u.2.1) (u.2.2.1) pc (u.2.2.2) hasS cnt' snp G' c_mover c_phase' c_dice c_stake' c_cube' c_pieces0 c_pieces1 c_score0 c_score1 c_hits0 c_hits1 c_stopped c_stopPart t_signs t_length)) r := by
  refine k_st_iE (cc := cX9_take) (maxL := 1) (by decide) rfl (Nat.le_of_ble_eq_true rfl) ?_
  intro p e z m below meth c A hx hb hr hml hts hown hlocks hsz hN hA hK hP hD hS ls hl
  have hown : z.vm.findClass RX9 = some m.cls := hown
  have hinX1 : ∀ w ∈ wsX10, w ∈ wsX9_take := by decide +kernel
  have hinX9 : ∀ w ∈ wsX90, w ∈ wsX9_take := by decide +kernel
  have fl10 := hts (.fieldLink RX9 10 "MagpieRuns" "now" "LMagpieRuns$Game;") (by decide +kernel)
  have fl19 := hts (.fieldLink RX9 19 "MagpieRuns" "past" "LMagpieRuns$Past;") (by decide +kernel)
  have fl122 := hts (.fieldLink RX9 122 "MagpieRuns$Game" "stake" "I") (by decide +kernel)
  have hl : lv_has ls 1 [(0, .ref h9)] := hl
  unfold mX9_take at hm
  refine lv_aload_n hx hb dX9_take_0 rfl (lv_at hl 0 rfl) ?_
  refine va_get (D := D) (ci := 5) (v := .ref hn) (C := RX9) (T := TX9) (N := 4) hx hb hts hinX9 hown hK hP 0 rfl rfl 0 (by decide) fl10 (fun _ h9 => h9) rfl dX9_take_1 ?_
  obtain ⟨r1, hc4, hm⟩ := k_bds hm
  have hPc : va_P D vwCl (wG hn c_mover c_phase c_dice c_stake c_cube c_pieces0 c_pieces1 c_score0 c_score1 c_hits0 c_hits1 c_stopped c_stopPart) _ := k_Psub hP [1] rfl
  have hDc : va_D A (wG hn c_mover c_phase c_dice c_stake c_cube c_pieces0 c_pieces1 c_score0 c_score1 c_hits0 c_hits1 c_stopped c_stopPart) := hD.sub [1] (by decide) rfl
  refine k_i_c (Wf := (wX cI cJ cC cG h9 hn ap q ht h0 pa pb pc jk hasS cnt snp G c_mover c_phase c_dice c_stake c_cube c_pieces0 c_pieces1 c_score0 c_score1 c_hits0 c_hits1 c_stopped c_stopPart t_signs t_length)) [1] [0, 2, 3, 4, 5, 6, 7, 8, 9, 10, 11, 12, 13, 14, 15, 16, 17, 18, 19, 20, 21, 22, 23, 24] [0, 24, 1, 2, 3, 4, 5, 6, 7, 8, 9, 10, 11, 12, 13, 14, 15, 16, 17, 18, 19, 20, 21, 22, 23] (k_rV (As := []) (rest := []) ⟨hx, hb, hml, hown, hts⟩ hK hN hPc hDc (zX1_isOffered hc4) (cwV 0 hts gX9_take_X1_isOffered rfl rfl rfl (by decide +kernel) ⟨Nat.le_of_ble_eq_true rfl, Nat.le_of_ble_eq_true rfl⟩) rfl rfl rfl hl.1 rfl (Nat.le_of_ble_eq_true rfl) dX9_take_4 ⟨Nat.zero_le _, Nat.zero_le _⟩) hP hD hS hA rfl rfl (by decide) (by decide) rfl (by decide) (fun H locs hP hD hS => ?_)
  refine lv_if_ne (tgt := 18) hx hb dX9_take_7 (by decide) (fun cc7 => ?_) (fun cc7 => ?_)
  · have hm := k_in cc7 hm
    refine lv_aload_n hx hb dX9_take_18 rfl (lv_at hl 0 rfl) ?_
    refine va_get (D := D) (ci := 5) (v := .ref (ap 0)) (C := RX9) (T := TX9) (N := 4) hx hb hts hinX9 hown hK hP 0 rfl rfl 1 (by decide) fl19 (fun _ h9 => h9) rfl dX9_take_19 ?_
    refine lv_aload_n hx hb dX9_take_22 rfl (lv_at hl 0 rfl) ?_
    refine va_get (D := D) (ci := 5) (v := .ref hn) (C := RX9) (T := TX9) (N := 4) hx hb hts hinX9 hown hK hP 0 rfl rfl 0 (by decide) fl10 (fun _ h9 => h9) rfl dX9_take_23 ?_
    obtain ⟨w2, w3, hc26, hm⟩ := k_bd2s hm
    have hPc : va_P D vwCl (wPa cG ap q hn hasS cnt snp G c_mover c_phase c_dice c_stake c_cube c_pieces0 c_pieces1 c_score0 c_score1 c_hits0 c_hits1 c_stopped c_stopPart) _ := k_Psub hP [2, 3, 4, 5, 6, 7, 8, 9, 1] rfl
    have hDc : va_D A (wPa cG ap q hn hasS cnt snp G c_mover c_phase c_dice c_stake c_cube c_pieces0 c_pieces1 c_score0 c_score1 c_hits0 c_hits1 c_stopped c_stopPart) := hD.sub [2, 3, 4, 5, 6, 7, 8, 9, 1] (by decide) rfl
    refine k_v_cE (fun u : (Nat → Nat) => (wX cI cJ cC cG h9 hn ap u ht h0 pa pb pc jk hasS w2 snp w3 c_mover c_phase c_dice c_stake c_cube c_pieces0 c_pieces1 c_score0 c_score1 c_hits0 c_hits1 c_stopped c_stopPart t_signs t_length)) [2, 3, 4, 5, 6, 7, 8, 9, 1] [0, 10, 11, 12, 13, 14, 15, 16, 17, 18, 19, 20, 21, 22, 23, 24] [0, 24, 16, 17, 18, 19, 20, 21, 22, 23, 1, 2, 3, 4, 5, 6, 7, 8, 9, 10, 11, 12, 13, 14, 15] (k_rV (As := [.ref hn]) (rest := []) ⟨hx, hb, hml, hown, hts⟩ hK hN hPc hDc (zX2_save hc26) (cwV 1 hts gX9_take_X2_save rfl rfl rfl (by decide +kernel) ⟨Nat.le_of_ble_eq_true rfl, Nat.le_of_ble_eq_true rfl⟩) rfl rfl rfl hl.1 rfl (Nat.le_of_ble_eq_true rfl) dX9_take_26 ⟨Nat.zero_le _, Nat.zero_le _⟩) hP hD hS hA rfl rfl (by decide) (by decide) (fun u => rfl) (by decide) (fun u9 H locs hP hD hS => ?_)
    generalize u9 = u4 at hP hD
    have hP : va_P D vwCl (wX cI cJ cC cG h9 hn ap u4 ht h0 pa pb pc jk hasS w2 snp w3 c_mover c_phase c_dice c_stake c_cube c_pieces0 c_pieces1 c_score0 c_score1 c_hits0 c_hits1 c_stopped c_stopPart t_signs t_length) H := hP
    have hD : va_D A (wX cI cJ cC cG h9 hn ap u4 ht h0 pa pb pc jk hasS w2 snp w3 c_mover c_phase c_dice c_stake c_cube c_pieces0 c_pieces1 c_score0 c_score1 c_hits0 c_hits1 c_stopped c_stopPart t_signs t_length) := hD
    refine lv_aload_n hx hb dX9_take_29 rfl (lv_at hl 0 rfl) ?_
    refine va_get (D := D) (ci := 5) (v := .ref hn) (C := RX9) (T := TX9) (N := 4) hx hb hts hinX9 hown hK hP 0 rfl rfl 0 (by decide) fl10 (fun _ h9 => h9) rfl dX9_take_30 ?_
    obtain ⟨w5, w6, w7, hc33, hm⟩ := k_bd3s hm
    have hPc : va_P D vwCl (wG hn c_mover c_phase c_dice c_stake c_cube c_pieces0 c_pieces1 c_score0 c_score1 c_hits0 c_hits1 c_stopped c_stopPart) _ := k_Psub hP [1] rfl
    have hDc : va_D A (wG hn c_mover c_phase c_dice c_stake c_cube c_pieces0 c_pieces1 c_score0 c_score1 c_hits0 c_hits1 c_stopped c_stopPart) := hD.sub [1] (by decide) rfl
    refine k_v_c (Wf := (wX cI cJ cC cG h9 hn ap u4 ht h0 pa pb pc jk hasS w2 snp w3 c_mover w5 c_dice w6 w7 c_pieces0 c_pieces1 c_score0 c_score1 c_hits0 c_hits1 c_stopped c_stopPart t_signs t_length)) [1] [0, 2, 3, 4, 5, 6, 7, 8, 9, 10, 11, 12, 13, 14, 15, 16, 17, 18, 19, 20, 21, 22, 23, 24] [0, 24, 1, 2, 3, 4, 5, 6, 7, 8, 9, 10, 11, 12, 13, 14, 15, 16, 17, 18, 19, 20, 21, 22, 23] (k_rV (As := []) (rest := []) ⟨hx, hb, hml, hown, hts⟩ hK hN hPc hDc (zX1_doTake hc33) (cwV 0 hts gX9_take_X1_doTake rfl rfl rfl (by decide +kernel) ⟨Nat.le_of_ble_eq_true rfl, Nat.le_of_ble_eq_true rfl⟩) rfl rfl rfl hl.1 rfl (Nat.le_of_ble_eq_true rfl) dX9_take_33 ⟨Nat.zero_le _, Nat.zero_le _⟩) hP hD hS hA rfl rfl (by decide) (by decide) rfl (by decide) (fun H locs hP hD hS => ?_)
    refine lv_aload_n hx hb dX9_take_36 rfl (lv_at hl 0 rfl) ?_
    refine va_get (D := D) (ci := 5) (v := .ref hn) (C := RX9) (T := TX9) (N := 4) hx hb hts hinX9 hown hK hP 0 rfl rfl 0 (by decide) fl10 (fun _ h9 => h9) rfl dX9_take_37 ?_
    refine va_get (D := D) (ci := 0) (v := .int w6) (C := RX1) (T := TX1) (N := 13) hx hb hts hinX1 hown hK hP 1 rfl rfl 3 (by decide) fl122 (fun _ h9 => h9) rfl dX9_take_40 ?_
    cases hm
    exact k_end_iE (u4, pa, pb, jk) hx hb hr hlocks hK hP hD hS dX9_take_43
  · have hm := k_ip cc7 hm
    cases hm

abbrev rmX9_drop : Room := { frames := 4, cells := 0, slots := 0, locals := 122 }
set_option maxHeartbeats 4000000 in
set_option maxRecDepth 100000 in
theorem zX9_drop {l : Launch} {D : va_G} {cI cJ cC cG : ClassId} {sz : Nat} {h9 hn h0 : Nat} {ap q ht pa pb pc : Nat → Nat} {jk : JT} {hasS : Bool} {cnt : Int32} {snp : GT} {G : Nat → GT} {c_mover : Int32} {c_phase : Int32} {c_dice : Int32} {c_stake : Int32} {c_cube : Int32} {c_pieces0 : Int64} {c_pieces1 : Int64} {c_score0 : Int32} {c_score1 : Int32} {c_hits0 : Int32} {c_hits1 : Int32} {c_stopped : Bool} {c_stopPart : Int32} {t_signs : Nat → Int32} {t_length : Int32} {r : Int32} {cnt' : Int32} {G' : Nat → GT} {c_phase' : Int32} {c_dice' : Int32} {c_score0' : Int32} {c_score1' : Int32} (hm : mX9_drop cnt G c_mover c_phase c_dice c_stake c_cube c_pieces0 c_pieces1 c_score0 c_score1 c_hits0 c_hits1 c_stopped c_stopPart = some (r, cnt', G', c_phase', c_dice', c_score0', c_score1')) : k_MiE l yX9_drop wsX9_drop rmX9_drop D (kT cI cJ cC cG) sz ([.ref h9] : List Value) (wX cI cJ cC cG h9 hn ap q ht h0 pa pb pc jk hasS cnt snp G c_mover c_phase c_dice c_stake c_cube c_pieces0 c_pieces1 c_score0 c_score1 c_hits0 c_hits1 c_stopped c_stopPart t_signs t_length) (fun u : (Nat → Nat) × (Nat → Nat) × (Nat → Nat) × (JT) => (wX cI cJ cC cG h9 hn ap (u.1) ht h0 (u.2.1) (u.2.2.1) pc (u.2.2.2) hasS cnt' snp G' c_mover c_phase' c_dice' c_stake c_cube c_pieces0 c_pieces1 c_score0' c_score1' c_hits0 c_hits1 c_stopped c_stopPart t_signs t_length)) r := by
  refine k_st_iE (cc := cX9_drop) (maxL := 1) (by decide) rfl (Nat.le_of_ble_eq_true rfl) ?_
  intro p e z m below meth c A hx hb hr hml hts hown hlocks hsz hN hA hK hP hD hS ls hl
  have hown : z.vm.findClass RX9 = some m.cls := hown
  have hinX1 : ∀ w ∈ wsX10, w ∈ wsX9_drop := by decide +kernel
  have hinX9 : ∀ w ∈ wsX90, w ∈ wsX9_drop := by decide +kernel
  have fl10 := hts (.fieldLink RX9 10 "MagpieRuns" "now" "LMagpieRuns$Game;") (by decide +kernel)
  have fl19 := hts (.fieldLink RX9 19 "MagpieRuns" "past" "LMagpieRuns$Past;") (by decide +kernel)
  have fl89 := hts (.fieldLink RX9 89 "MagpieRuns$Game" "mover" "I") (by decide +kernel)
  have hl : lv_has ls 1 [(0, .ref h9)] := hl
  unfold mX9_drop at hm
  refine lv_aload_n hx hb dX9_drop_0 rfl (lv_at hl 0 rfl) ?_
  refine va_get (D := D) (ci := 5) (v := .ref hn) (C := RX9) (T := TX9) (N := 4) hx hb hts hinX9 hown hK hP 0 rfl rfl 0 (by decide) fl10 (fun _ h9 => h9) rfl dX9_drop_1 ?_
  obtain ⟨r1, hc4, hm⟩ := k_bds hm
  have hPc : va_P D vwCl (wG hn c_mover c_phase c_dice c_stake c_cube c_pieces0 c_pieces1 c_score0 c_score1 c_hits0 c_hits1 c_stopped c_stopPart) _ := k_Psub hP [1] rfl
  have hDc : va_D A (wG hn c_mover c_phase c_dice c_stake c_cube c_pieces0 c_pieces1 c_score0 c_score1 c_hits0 c_hits1 c_stopped c_stopPart) := hD.sub [1] (by decide) rfl
  refine k_i_c (Wf := (wX cI cJ cC cG h9 hn ap q ht h0 pa pb pc jk hasS cnt snp G c_mover c_phase c_dice c_stake c_cube c_pieces0 c_pieces1 c_score0 c_score1 c_hits0 c_hits1 c_stopped c_stopPart t_signs t_length)) [1] [0, 2, 3, 4, 5, 6, 7, 8, 9, 10, 11, 12, 13, 14, 15, 16, 17, 18, 19, 20, 21, 22, 23, 24] [0, 24, 1, 2, 3, 4, 5, 6, 7, 8, 9, 10, 11, 12, 13, 14, 15, 16, 17, 18, 19, 20, 21, 22, 23] (k_rV (As := []) (rest := []) ⟨hx, hb, hml, hown, hts⟩ hK hN hPc hDc (zX1_isOffered hc4) (cwV 0 hts gX9_drop_X1_isOffered rfl rfl rfl (by decide +kernel) ⟨Nat.le_of_ble_eq_true rfl, Nat.le_of_ble_eq_true rfl⟩) rfl rfl rfl hl.1 rfl (Nat.le_of_ble_eq_true rfl) dX9_drop_4 ⟨Nat.zero_le _, Nat.zero_le _⟩) hP hD hS hA rfl rfl (by decide) (by decide) rfl (by decide) (fun H locs hP hD hS => ?_)
  refine lv_if_ne (tgt := 18) hx hb dX9_drop_7 (by decide) (fun cc7 => ?_) (fun cc7 => ?_)
  · have hm := k_in cc7 hm
    refine lv_aload_n hx hb dX9_drop_18 rfl (lv_at hl 0 rfl) ?_
    refine va_get (D := D) (ci := 5) (v := .ref (ap 0)) (C := RX9) (T := TX9) (N := 4) hx hb hts hinX9 hown hK hP 0 rfl rfl 1 (by decide) fl19 (fun _ h9 => h9) rfl dX9_drop_19 ?_
    refine lv_aload_n hx hb dX9_drop_22 rfl (lv_at hl 0 rfl) ?_
    refine va_get (D := D) (ci := 5) (v := .ref hn) (C := RX9) (T := TX9) (N := 4) hx hb hts hinX9 hown hK hP 0 rfl rfl 0 (by decide) fl10 (fun _ h9 => h9) rfl dX9_drop_23 ?_
    obtain ⟨w2, w3, hc26, hm⟩ := k_bd2s hm
    have hPc : va_P D vwCl (wPa cG ap q hn hasS cnt snp G c_mover c_phase c_dice c_stake c_cube c_pieces0 c_pieces1 c_score0 c_score1 c_hits0 c_hits1 c_stopped c_stopPart) _ := k_Psub hP [2, 3, 4, 5, 6, 7, 8, 9, 1] rfl
    have hDc : va_D A (wPa cG ap q hn hasS cnt snp G c_mover c_phase c_dice c_stake c_cube c_pieces0 c_pieces1 c_score0 c_score1 c_hits0 c_hits1 c_stopped c_stopPart) := hD.sub [2, 3, 4, 5, 6, 7, 8, 9, 1] (by decide) rfl
    refine k_v_cE (fun u : (Nat → Nat) => (wX cI cJ cC cG h9 hn ap u ht h0 pa pb pc jk hasS w2 snp w3 c_mover c_phase c_dice c_stake c_cube c_pieces0 c_pieces1 c_score0 c_score1 c_hits0 c_hits1 c_stopped c_stopPart t_signs t_length)) [2, 3, 4, 5, 6, 7, 8, 9, 1] [0, 10, 11, 12, 13, 14, 15, 16, 17, 18, 19, 20, 21, 22, 23, 24] [0, 24, 16, 17, 18, 19, 20, 21, 22, 23, 1, 2, 3, 4, 5, 6, 7, 8, 9, 10, 11, 12, 13, 14, 15] (k_rV (As := [.ref hn]) (rest := []) ⟨hx, hb, hml, hown, hts⟩ hK hN hPc hDc (zX2_save hc26) (cwV 1 hts gX9_drop_X2_save rfl rfl rfl (by decide +kernel) ⟨Nat.le_of_ble_eq_true rfl, Nat.le_of_ble_eq_true rfl⟩) rfl rfl rfl hl.1 rfl (Nat.le_of_ble_eq_true rfl) dX9_drop_26 ⟨Nat.zero_le _, Nat.zero_le _⟩) hP hD hS hA rfl rfl (by decide) (by decide) (fun u => rfl) (by decide) (fun u9 H locs hP hD hS => ?_)
    generalize u9 = u4 at hP hD
    have hP : va_P D vwCl (wX cI cJ cC cG h9 hn ap u4 ht h0 pa pb pc jk hasS w2 snp w3 c_mover c_phase c_dice c_stake c_cube c_pieces0 c_pieces1 c_score0 c_score1 c_hits0 c_hits1 c_stopped c_stopPart t_signs t_length) H := hP
    have hD : va_D A (wX cI cJ cC cG h9 hn ap u4 ht h0 pa pb pc jk hasS w2 snp w3 c_mover c_phase c_dice c_stake c_cube c_pieces0 c_pieces1 c_score0 c_score1 c_hits0 c_hits1 c_stopped c_stopPart t_signs t_length) := hD
    refine lv_aload_n hx hb dX9_drop_29 rfl (lv_at hl 0 rfl) ?_
    refine va_get (D := D) (ci := 5) (v := .ref hn) (C := RX9) (T := TX9) (N := 4) hx hb hts hinX9 hown hK hP 0 rfl rfl 0 (by decide) fl10 (fun _ h9 => h9) rfl dX9_drop_30 ?_
    obtain ⟨w5, w6, w7, w8, hc33, hm⟩ := k_bd4s hm
    have hPc : va_P D vwCl (wG hn c_mover c_phase c_dice c_stake c_cube c_pieces0 c_pieces1 c_score0 c_score1 c_hits0 c_hits1 c_stopped c_stopPart) _ := k_Psub hP [1] rfl
    have hDc : va_D A (wG hn c_mover c_phase c_dice c_stake c_cube c_pieces0 c_pieces1 c_score0 c_score1 c_hits0 c_hits1 c_stopped c_stopPart) := hD.sub [1] (by decide) rfl
    refine k_v_c (Wf := (wX cI cJ cC cG h9 hn ap u4 ht h0 pa pb pc jk hasS w2 snp w3 c_mover w5 w6 c_stake c_cube c_pieces0 c_pieces1 w7 w8 c_hits0 c_hits1 c_stopped c_stopPart t_signs t_length)) [1] [0, 2, 3, 4, 5, 6, 7, 8, 9, 10, 11, 12, 13, 14, 15, 16, 17, 18, 19, 20, 21, 22, 23, 24] [0, 24, 1, 2, 3, 4, 5, 6, 7, 8, 9, 10, 11, 12, 13, 14, 15, 16, 17, 18, 19, 20, 21, 22, 23] (k_rV (As := []) (rest := []) ⟨hx, hb, hml, hown, hts⟩ hK hN hPc hDc (zX1_doDrop hc33) (cwV 0 hts gX9_drop_X1_doDrop rfl rfl rfl (by decide +kernel) ⟨Nat.le_of_ble_eq_true rfl, Nat.le_of_ble_eq_true rfl⟩) rfl rfl rfl hl.1 rfl (Nat.le_of_ble_eq_true rfl) dX9_drop_33 ⟨Nat.zero_le _, Nat.zero_le _⟩) hP hD hS hA rfl rfl (by decide) (by decide) rfl (by decide) (fun H locs hP hD hS => ?_)
    refine lv_aload_n hx hb dX9_drop_36 rfl (lv_at hl 0 rfl) ?_
    refine va_get (D := D) (ci := 5) (v := .ref hn) (C := RX9) (T := TX9) (N := 4) hx hb hts hinX9 hown hK hP 0 rfl rfl 0 (by decide) fl10 (fun _ h9 => h9) rfl dX9_drop_37 ?_
    refine lv_aload_n hx hb dX9_drop_40 rfl (lv_at hl 0 rfl) ?_
    refine va_get (D := D) (ci := 5) (v := .ref hn) (C := RX9) (T := TX9) (N := 4) hx hb hts hinX9 hown hK hP 0 rfl rfl 0 (by decide) fl10 (fun _ h9 => h9) rfl dX9_drop_41 ?_
    refine va_get (D := D) (ci := 0) (v := .int c_mover) (C := RX1) (T := TX1) (N := 13) hx hb hts hinX1 hown hK hP 1 rfl rfl 0 (by decide) fl89 (fun _ h9 => h9) rfl dX9_drop_44 ?_
    obtain ⟨r9, hc47, hm⟩ := k_bds hm
    have hPc : va_P D vwCl (wG hn c_mover w5 w6 c_stake c_cube c_pieces0 c_pieces1 w7 w8 c_hits0 c_hits1 c_stopped c_stopPart) _ := k_Psub hP [1] rfl
    have hDc : va_D A (wG hn c_mover w5 w6 c_stake c_cube c_pieces0 c_pieces1 w7 w8 c_hits0 c_hits1 c_stopped c_stopPart) := hD.sub [1] (by decide) rfl
    refine k_i_c (Wf := (wX cI cJ cC cG h9 hn ap u4 ht h0 pa pb pc jk hasS w2 snp w3 c_mover w5 w6 c_stake c_cube c_pieces0 c_pieces1 w7 w8 c_hits0 c_hits1 c_stopped c_stopPart t_signs t_length)) [1] [0, 2, 3, 4, 5, 6, 7, 8, 9, 10, 11, 12, 13, 14, 15, 16, 17, 18, 19, 20, 21, 22, 23, 24] [0, 24, 1, 2, 3, 4, 5, 6, 7, 8, 9, 10, 11, 12, 13, 14, 15, 16, 17, 18, 19, 20, 21, 22, 23] (k_rV (As := [.int c_mover]) (rest := []) ⟨hx, hb, hml, hown, hts⟩ hK hN hPc hDc (zX1_scoreOf hc47) (cwV 1 hts gX9_drop_X1_scoreOf rfl rfl rfl (by decide +kernel) ⟨Nat.le_of_ble_eq_true rfl, Nat.le_of_ble_eq_true rfl⟩) rfl rfl rfl hl.1 rfl (Nat.le_of_ble_eq_true rfl) dX9_drop_47 ⟨Nat.zero_le _, Nat.zero_le _⟩) hP hD hS hA rfl rfl (by decide) (by decide) rfl (by decide) (fun H locs hP hD hS => ?_)
    cases hm
    exact k_end_iE (u4, pa, pb, jk) hx hb hr hlocks hK hP hD hS dX9_drop_50
  · have hm := k_ip cc7 hm
    cases hm

abbrev rmX9_newGame : Room := { frames := 4, cells := 0, slots := 0, locals := 122 }
set_option maxHeartbeats 4000000 in
set_option maxRecDepth 100000 in
theorem zX9_newGame {l : Launch} {D : va_G} {cI cJ cC cG : ClassId} {sz : Nat} {h9 hn h0 : Nat} {ap q ht pa pb pc : Nat → Nat} {jk : JT} {hasS : Bool} {cnt : Int32} {snp : GT} {G : Nat → GT} {c_mover : Int32} {c_phase : Int32} {c_dice : Int32} {c_stake : Int32} {c_cube : Int32} {c_pieces0 : Int64} {c_pieces1 : Int64} {c_score0 : Int32} {c_score1 : Int32} {c_hits0 : Int32} {c_hits1 : Int32} {c_stopped : Bool} {c_stopPart : Int32} {t_signs : Nat → Int32} {t_length : Int32} {r : Int32} {cnt' : Int32} {G' : Nat → GT} {c_mover' : Int32} {c_phase' : Int32} {c_stake' : Int32} {c_cube' : Int32} {c_pieces0' : Int64} {c_pieces1' : Int64} (hm : mX9_newGame cnt G c_mover c_phase c_dice c_stake c_cube c_pieces0 c_pieces1 c_score0 c_score1 c_hits0 c_hits1 c_stopped c_stopPart = some (r, cnt', G', c_mover', c_phase', c_stake', c_cube', c_pieces0', c_pieces1')) : k_MiE l yX9_newGame wsX9_newGame rmX9_newGame D (kT cI cJ cC cG) sz ([.ref h9] : List Value) (wX cI cJ cC cG h9 hn ap q ht h0 pa pb pc jk hasS cnt snp G c_mover c_phase c_dice c_stake c_cube c_pieces0 c_pieces1 c_score0 c_score1 c_hits0 c_hits1 c_stopped c_stopPart t_signs t_length) (fun u : (Nat → Nat) × (Nat → Nat) × (Nat → Nat) × (JT) => (wX cI cJ cC cG h9 hn ap (u.1) ht h0 (u.2.1) (u.2.2.1) pc (u.2.2.2) hasS cnt' snp G' c_mover' c_phase' c_dice c_stake' c_cube' c_pieces0' c_pieces1' c_score0 c_score1 c_hits0 c_hits1 c_stopped c_stopPart t_signs t_length)) r := by
  refine k_st_iE (cc := cX9_newGame) (maxL := 1) (by decide) rfl (Nat.le_of_ble_eq_true rfl) ?_
  intro p e z m below meth c A hx hb hr hml hts hown hlocks hsz hN hA hK hP hD hS ls hl
  have hown : z.vm.findClass RX9 = some m.cls := hown
  have hinX1 : ∀ w ∈ wsX10, w ∈ wsX9_newGame := by decide +kernel
  have hinX9 : ∀ w ∈ wsX90, w ∈ wsX9_newGame := by decide +kernel
  have fl10 := hts (.fieldLink RX9 10 "MagpieRuns" "now" "LMagpieRuns$Game;") (by decide +kernel)
  have fl19 := hts (.fieldLink RX9 19 "MagpieRuns" "past" "LMagpieRuns$Past;") (by decide +kernel)
  have fl89 := hts (.fieldLink RX9 89 "MagpieRuns$Game" "mover" "I") (by decide +kernel)
  have hl : lv_has ls 1 [(0, .ref h9)] := hl
  unfold mX9_newGame at hm
  refine lv_aload_n hx hb dX9_newGame_0 rfl (lv_at hl 0 rfl) ?_
  refine va_get (D := D) (ci := 5) (v := .ref hn) (C := RX9) (T := TX9) (N := 4) hx hb hts hinX9 hown hK hP 0 rfl rfl 0 (by decide) fl10 (fun _ h9 => h9) rfl dX9_newGame_1 ?_
  obtain ⟨r1, hc4, hm⟩ := k_bds hm
  have hPc : va_P D vwCl (wG hn c_mover c_phase c_dice c_stake c_cube c_pieces0 c_pieces1 c_score0 c_score1 c_hits0 c_hits1 c_stopped c_stopPart) _ := k_Psub hP [1] rfl
  have hDc : va_D A (wG hn c_mover c_phase c_dice c_stake c_cube c_pieces0 c_pieces1 c_score0 c_score1 c_hits0 c_hits1 c_stopped c_stopPart) := hD.sub [1] (by decide) rfl
  refine k_i_c (Wf := (wX cI cJ cC cG h9 hn ap q ht h0 pa pb pc jk hasS cnt snp G c_mover c_phase c_dice c_stake c_cube c_pieces0 c_pieces1 c_score0 c_score1 c_hits0 c_hits1 c_stopped c_stopPart t_signs t_length)) [1] [0, 2, 3, 4, 5, 6, 7, 8, 9, 10, 11, 12, 13, 14, 15, 16, 17, 18, 19, 20, 21, 22, 23, 24] [0, 24, 1, 2, 3, 4, 5, 6, 7, 8, 9, 10, 11, 12, 13, 14, 15, 16, 17, 18, 19, 20, 21, 22, 23] (k_rV (As := []) (rest := []) ⟨hx, hb, hml, hown, hts⟩ hK hN hPc hDc (zX1_isOver hc4) (cwV 0 hts gX9_newGame_X1_isOver rfl rfl rfl (by decide +kernel) ⟨Nat.le_of_ble_eq_true rfl, Nat.le_of_ble_eq_true rfl⟩) rfl rfl rfl hl.1 rfl (Nat.le_of_ble_eq_true rfl) dX9_newGame_4 ⟨Nat.zero_le _, Nat.zero_le _⟩) hP hD hS hA rfl rfl (by decide) (by decide) rfl (by decide) (fun H locs hP hD hS => ?_)
  refine lv_if_ne (tgt := 18) hx hb dX9_newGame_7 (by decide) (fun cc7 => ?_) (fun cc7 => ?_)
  · have hm := k_in cc7 hm
    refine lv_aload_n hx hb dX9_newGame_18 rfl (lv_at hl 0 rfl) ?_
    refine va_get (D := D) (ci := 5) (v := .ref (ap 0)) (C := RX9) (T := TX9) (N := 4) hx hb hts hinX9 hown hK hP 0 rfl rfl 1 (by decide) fl19 (fun _ h9 => h9) rfl dX9_newGame_19 ?_
    refine lv_aload_n hx hb dX9_newGame_22 rfl (lv_at hl 0 rfl) ?_
    refine va_get (D := D) (ci := 5) (v := .ref hn) (C := RX9) (T := TX9) (N := 4) hx hb hts hinX9 hown hK hP 0 rfl rfl 0 (by decide) fl10 (fun _ h9 => h9) rfl dX9_newGame_23 ?_
    obtain ⟨w2, w3, hc26, hm⟩ := k_bd2s hm
    have hPc : va_P D vwCl (wPa cG ap q hn hasS cnt snp G c_mover c_phase c_dice c_stake c_cube c_pieces0 c_pieces1 c_score0 c_score1 c_hits0 c_hits1 c_stopped c_stopPart) _ := k_Psub hP [2, 3, 4, 5, 6, 7, 8, 9, 1] rfl
    have hDc : va_D A (wPa cG ap q hn hasS cnt snp G c_mover c_phase c_dice c_stake c_cube c_pieces0 c_pieces1 c_score0 c_score1 c_hits0 c_hits1 c_stopped c_stopPart) := hD.sub [2, 3, 4, 5, 6, 7, 8, 9, 1] (by decide) rfl
    refine k_v_cE (fun u : (Nat → Nat) => (wX cI cJ cC cG h9 hn ap u ht h0 pa pb pc jk hasS w2 snp w3 c_mover c_phase c_dice c_stake c_cube c_pieces0 c_pieces1 c_score0 c_score1 c_hits0 c_hits1 c_stopped c_stopPart t_signs t_length)) [2, 3, 4, 5, 6, 7, 8, 9, 1] [0, 10, 11, 12, 13, 14, 15, 16, 17, 18, 19, 20, 21, 22, 23, 24] [0, 24, 16, 17, 18, 19, 20, 21, 22, 23, 1, 2, 3, 4, 5, 6, 7, 8, 9, 10, 11, 12, 13, 14, 15] (k_rV (As := [.ref hn]) (rest := []) ⟨hx, hb, hml, hown, hts⟩ hK hN hPc hDc (zX2_save hc26) (cwV 1 hts gX9_newGame_X2_save rfl rfl rfl (by decide +kernel) ⟨Nat.le_of_ble_eq_true rfl, Nat.le_of_ble_eq_true rfl⟩) rfl rfl rfl hl.1 rfl (Nat.le_of_ble_eq_true rfl) dX9_newGame_26 ⟨Nat.zero_le _, Nat.zero_le _⟩) hP hD hS hA rfl rfl (by decide) (by decide) (fun u => rfl) (by decide) (fun u9 H locs hP hD hS => ?_)
    generalize u9 = u4 at hP hD
    have hP : va_P D vwCl (wX cI cJ cC cG h9 hn ap u4 ht h0 pa pb pc jk hasS w2 snp w3 c_mover c_phase c_dice c_stake c_cube c_pieces0 c_pieces1 c_score0 c_score1 c_hits0 c_hits1 c_stopped c_stopPart t_signs t_length) H := hP
    have hD : va_D A (wX cI cJ cC cG h9 hn ap u4 ht h0 pa pb pc jk hasS w2 snp w3 c_mover c_phase c_dice c_stake c_cube c_pieces0 c_pieces1 c_score0 c_score1 c_hits0 c_hits1 c_stopped c_stopPart t_signs t_length) := hD
    refine lv_aload_n hx hb dX9_newGame_29 rfl (lv_at hl 0 rfl) ?_
    refine va_get (D := D) (ci := 5) (v := .ref hn) (C := RX9) (T := TX9) (N := 4) hx hb hts hinX9 hown hK hP 0 rfl rfl 0 (by decide) fl10 (fun _ h9 => h9) rfl dX9_newGame_30 ?_
    obtain ⟨w5, w6, w7, w8, w9, w10, hc33, hm⟩ := k_bd6s hm
    have hPc : va_P D vwCl (wG hn c_mover c_phase c_dice c_stake c_cube c_pieces0 c_pieces1 c_score0 c_score1 c_hits0 c_hits1 c_stopped c_stopPart) _ := k_Psub hP [1] rfl
    have hDc : va_D A (wG hn c_mover c_phase c_dice c_stake c_cube c_pieces0 c_pieces1 c_score0 c_score1 c_hits0 c_hits1 c_stopped c_stopPart) := hD.sub [1] (by decide) rfl
    refine k_v_c (Wf := (wX cI cJ cC cG h9 hn ap u4 ht h0 pa pb pc jk hasS w2 snp w3 w5 w6 c_dice w7 w8 w9 w10 c_score0 c_score1 c_hits0 c_hits1 c_stopped c_stopPart t_signs t_length)) [1] [0, 2, 3, 4, 5, 6, 7, 8, 9, 10, 11, 12, 13, 14, 15, 16, 17, 18, 19, 20, 21, 22, 23, 24] [0, 24, 1, 2, 3, 4, 5, 6, 7, 8, 9, 10, 11, 12, 13, 14, 15, 16, 17, 18, 19, 20, 21, 22, 23] (k_rV (As := []) (rest := []) ⟨hx, hb, hml, hown, hts⟩ hK hN hPc hDc (zX1_doNewGame hc33) (cwV 0 hts gX9_newGame_X1_doNewGame rfl rfl rfl (by decide +kernel) ⟨Nat.le_of_ble_eq_true rfl, Nat.le_of_ble_eq_true rfl⟩) rfl rfl rfl hl.1 rfl (Nat.le_of_ble_eq_true rfl) dX9_newGame_33 ⟨Nat.zero_le _, Nat.zero_le _⟩) hP hD hS hA rfl rfl (by decide) (by decide) rfl (by decide) (fun H locs hP hD hS => ?_)
    refine lv_aload_n hx hb dX9_newGame_36 rfl (lv_at hl 0 rfl) ?_
    refine va_get (D := D) (ci := 5) (v := .ref hn) (C := RX9) (T := TX9) (N := 4) hx hb hts hinX9 hown hK hP 0 rfl rfl 0 (by decide) fl10 (fun _ h9 => h9) rfl dX9_newGame_37 ?_
    refine va_get (D := D) (ci := 0) (v := .int w5) (C := RX1) (T := TX1) (N := 13) hx hb hts hinX1 hown hK hP 1 rfl rfl 0 (by decide) fl89 (fun _ h9 => h9) rfl dX9_newGame_40 ?_
    cases hm
    exact k_end_iE (u4, pa, pb, jk) hx hb hr hlocks hK hP hD hS dX9_newGame_43
  · have hm := k_ip cc7 hm
    cases hm

abbrev rmX9_mover : Room := { frames := 0, cells := 0, slots := 0, locals := 0 }
set_option maxHeartbeats 4000000 in
set_option maxRecDepth 100000 in
theorem zX9_mover {l : Launch} {D : va_G} {cI cJ cC cG : ClassId} {sz : Nat} {h9 hn h0 : Nat} {ap q ht pa pb pc : Nat → Nat} {jk : JT} {hasS : Bool} {cnt : Int32} {snp : GT} {G : Nat → GT} {c_mover : Int32} {c_phase : Int32} {c_dice : Int32} {c_stake : Int32} {c_cube : Int32} {c_pieces0 : Int64} {c_pieces1 : Int64} {c_score0 : Int32} {c_score1 : Int32} {c_hits0 : Int32} {c_hits1 : Int32} {c_stopped : Bool} {c_stopPart : Int32} {t_signs : Nat → Int32} {t_length : Int32} {r : Int32} (hm : mX9_mover c_mover = some (r)) : k_MiE l yX9_mover wsX9_mover rmX9_mover D (kT cI cJ cC cG) sz ([.ref h9] : List Value) (wX cI cJ cC cG h9 hn ap q ht h0 pa pb pc jk hasS cnt snp G c_mover c_phase c_dice c_stake c_cube c_pieces0 c_pieces1 c_score0 c_score1 c_hits0 c_hits1 c_stopped c_stopPart t_signs t_length) (fun u : (Nat → Nat) × (Nat → Nat) × (Nat → Nat) × (JT) => (wX cI cJ cC cG h9 hn ap (u.1) ht h0 (u.2.1) (u.2.2.1) pc (u.2.2.2) hasS cnt snp G c_mover c_phase c_dice c_stake c_cube c_pieces0 c_pieces1 c_score0 c_score1 c_hits0 c_hits1 c_stopped c_stopPart t_signs t_length)) r := by
  refine k_st_iE (cc := cX9_mover) (maxL := 1) (by decide) rfl (Nat.le_of_ble_eq_true rfl) ?_
  intro p e z m below meth c A hx hb hr hml hts hown hlocks hsz hN hA hK hP hD hS ls hl
  have hown : z.vm.findClass RX9 = some m.cls := hown
  have hinX1 : ∀ w ∈ wsX10, w ∈ wsX9_mover := by decide +kernel
  have hinX9 : ∀ w ∈ wsX90, w ∈ wsX9_mover := by decide +kernel
  have fl10 := hts (.fieldLink RX9 10 "MagpieRuns" "now" "LMagpieRuns$Game;") (by decide +kernel)
  have fl89 := hts (.fieldLink RX9 89 "MagpieRuns$Game" "mover" "I") (by decide +kernel)
  have hl : lv_has ls 1 [(0, .ref h9)] := hl
  unfold mX9_mover at hm
  refine lv_aload_n hx hb dX9_mover_0 rfl (lv_at hl 0 rfl) ?_
  refine va_get (D := D) (ci := 5) (v := .ref hn) (C := RX9) (T := TX9) (N := 4) hx hb hts hinX9 hown hK hP 0 rfl rfl 0 (by decide) fl10 (fun _ h9 => h9) rfl dX9_mover_1 ?_
  refine va_get (D := D) (ci := 0) (v := .int c_mover) (C := RX1) (T := TX1) (N := 13) hx hb hts hinX1 hown hK hP 1 rfl rfl 0 (by decide) fl89 (fun _ h9 => h9) rfl dX9_mover_4 ?_
  cases hm
  exact k_end_iE (q, pa, pb, jk) hx hb hr hlocks hK hP hD hS dX9_mover_7

abbrev rmX9_phase : Room := { frames := 0, cells := 0, slots := 0, locals := 0 }
set_option maxHeartbeats 4000000 in
set_option maxRecDepth 100000 in
theorem zX9_phase {l : Launch} {D : va_G} {cI cJ cC cG : ClassId} {sz : Nat} {h9 hn h0 : Nat} {ap q ht pa pb pc : Nat → Nat} {jk : JT} {hasS : Bool} {cnt : Int32} {snp : GT} {G : Nat → GT} {c_mover : Int32} {c_phase : Int32} {c_dice : Int32} {c_stake : Int32} {c_cube : Int32} {c_pieces0 : Int64} {c_pieces1 : Int64} {c_score0 : Int32} {c_score1 : Int32} {c_hits0 : Int32} {c_hits1 : Int32} {c_stopped : Bool} {c_stopPart : Int32} {t_signs : Nat → Int32} {t_length : Int32} {r : Int32} (hm : mX9_phase c_phase = some (r)) : k_MiE l yX9_phase wsX9_phase rmX9_phase D (kT cI cJ cC cG) sz ([.ref h9] : List Value) (wX cI cJ cC cG h9 hn ap q ht h0 pa pb pc jk hasS cnt snp G c_mover c_phase c_dice c_stake c_cube c_pieces0 c_pieces1 c_score0 c_score1 c_hits0 c_hits1 c_stopped c_stopPart t_signs t_length) (fun u : (Nat → Nat) × (Nat → Nat) × (Nat → Nat) × (JT) => (wX cI cJ cC cG h9 hn ap (u.1) ht h0 (u.2.1) (u.2.2.1) pc (u.2.2.2) hasS cnt snp G c_mover c_phase c_dice c_stake c_cube c_pieces0 c_pieces1 c_score0 c_score1 c_hits0 c_hits1 c_stopped c_stopPart t_signs t_length)) r := by
  refine k_st_iE (cc := cX9_phase) (maxL := 1) (by decide) rfl (Nat.le_of_ble_eq_true rfl) ?_
  intro p e z m below meth c A hx hb hr hml hts hown hlocks hsz hN hA hK hP hD hS ls hl
  have hown : z.vm.findClass RX9 = some m.cls := hown
  have hinX1 : ∀ w ∈ wsX10, w ∈ wsX9_phase := by decide +kernel
  have hinX9 : ∀ w ∈ wsX90, w ∈ wsX9_phase := by decide +kernel
  have fl10 := hts (.fieldLink RX9 10 "MagpieRuns" "now" "LMagpieRuns$Game;") (by decide +kernel)
  have fl197 := hts (.fieldLink RX9 197 "MagpieRuns$Game" "phase" "I") (by decide +kernel)
  have hl : lv_has ls 1 [(0, .ref h9)] := hl
  unfold mX9_phase at hm
  refine lv_aload_n hx hb dX9_phase_0 rfl (lv_at hl 0 rfl) ?_
  refine va_get (D := D) (ci := 5) (v := .ref hn) (C := RX9) (T := TX9) (N := 4) hx hb hts hinX9 hown hK hP 0 rfl rfl 0 (by decide) fl10 (fun _ h9 => h9) rfl dX9_phase_1 ?_
  refine va_get (D := D) (ci := 0) (v := .int c_phase) (C := RX1) (T := TX1) (N := 13) hx hb hts hinX1 hown hK hP 1 rfl rfl 1 (by decide) fl197 (fun _ h9 => h9) rfl dX9_phase_4 ?_
  cases hm
  exact k_end_iE (q, pa, pb, jk) hx hb hr hlocks hK hP hD hS dX9_phase_7

abbrev rmX9_diceLeft : Room := { frames := 2, cells := 0, slots := 0, locals := 43 }
set_option maxHeartbeats 4000000 in
set_option maxRecDepth 100000 in
theorem zX9_diceLeft {l : Launch} {D : va_G} {cI cJ cC cG : ClassId} {sz : Nat} {h9 hn h0 : Nat} {ap q ht pa pb pc : Nat → Nat} {jk : JT} {hasS : Bool} {cnt : Int32} {snp : GT} {G : Nat → GT} {c_mover : Int32} {c_phase : Int32} {c_dice : Int32} {c_stake : Int32} {c_cube : Int32} {c_pieces0 : Int64} {c_pieces1 : Int64} {c_score0 : Int32} {c_score1 : Int32} {c_hits0 : Int32} {c_hits1 : Int32} {c_stopped : Bool} {c_stopPart : Int32} {t_signs : Nat → Int32} {t_length : Int32} {r : Int32} (hm : mX9_diceLeft c_dice = some (r)) : k_MiE l yX9_diceLeft wsX9_diceLeft rmX9_diceLeft D (kT cI cJ cC cG) sz ([.ref h9] : List Value) (wX cI cJ cC cG h9 hn ap q ht h0 pa pb pc jk hasS cnt snp G c_mover c_phase c_dice c_stake c_cube c_pieces0 c_pieces1 c_score0 c_score1 c_hits0 c_hits1 c_stopped c_stopPart t_signs t_length) (fun u : (Nat → Nat) × (Nat → Nat) × (Nat → Nat) × (JT) => (wX cI cJ cC cG h9 hn ap (u.1) ht h0 (u.2.1) (u.2.2.1) pc (u.2.2.2) hasS cnt snp G c_mover c_phase c_dice c_stake c_cube c_pieces0 c_pieces1 c_score0 c_score1 c_hits0 c_hits1 c_stopped c_stopPart t_signs t_length)) r := by
  refine k_st_iE (cc := cX9_diceLeft) (maxL := 1) (by decide) rfl (Nat.le_of_ble_eq_true rfl) ?_
  intro p e z m below meth c A hx hb hr hml hts hown hlocks hsz hN hA hK hP hD hS ls hl
  have hown : z.vm.findClass RX9 = some m.cls := hown
  have hinX1 : ∀ w ∈ wsX10, w ∈ wsX9_diceLeft := by decide +kernel
  have hinX9 : ∀ w ∈ wsX90, w ∈ wsX9_diceLeft := by decide +kernel
  have fl10 := hts (.fieldLink RX9 10 "MagpieRuns" "now" "LMagpieRuns$Game;") (by decide +kernel)
  have fl61 := hts (.fieldLink RX9 61 "MagpieRuns$Game" "dice" "I") (by decide +kernel)
  have hl : lv_has ls 1 [(0, .ref h9)] := hl
  unfold mX9_diceLeft at hm
  refine lv_aload_n hx hb dX9_diceLeft_0 rfl (lv_at hl 0 rfl) ?_
  refine va_get (D := D) (ci := 5) (v := .ref hn) (C := RX9) (T := TX9) (N := 4) hx hb hts hinX9 hown hK hP 0 rfl rfl 0 (by decide) fl10 (fun _ h9 => h9) rfl dX9_diceLeft_1 ?_
  refine va_get (D := D) (ci := 0) (v := .int c_dice) (C := RX1) (T := TX1) (N := 13) hx hb hts hinX1 hown hK hP 1 rfl rfl 2 (by decide) fl61 (fun _ h9 => h9) rfl dX9_diceLeft_4 ?_
  obtain ⟨r1, hc7, hm⟩ := k_bds hm
  refine k_i_0 (k_rS (As := [.int c_dice]) (rest := []) ⟨hx, hb, hml, hown, hts⟩ hK hN k_P0 (k_D0 (A := A)) (zX0_count hc7) (va_cwS 1 hts gX9_diceLeft_X0_count rfl rfl rfl (by decide +kernel) ⟨Nat.le_of_ble_eq_true rfl, Nat.le_of_ble_eq_true rfl⟩) rfl hl.1 rfl (Nat.le_of_ble_eq_true rfl) dX9_diceLeft_7 ⟨Nat.zero_le _, Nat.zero_le _⟩) hP hS hA (fun H locs hP hS => ?_)
  cases hm
  exact k_end_iE (q, pa, pb, jk) hx hb hr hlocks hK hP hD hS dX9_diceLeft_10

abbrev rmX9_dieLeft : Room := { frames := 2, cells := 0, slots := 0, locals := 43 }
set_option maxHeartbeats 4000000 in
set_option maxRecDepth 100000 in
theorem zX9_dieLeft {l : Launch} {D : va_G} {cI cJ cC cG : ClassId} {sz : Nat} {h9 hn h0 : Nat} {ap q ht pa pb pc : Nat → Nat} {jk : JT} {hasS : Bool} {cnt : Int32} {snp : GT} {G : Nat → GT} {c_mover : Int32} {c_phase : Int32} {c_dice : Int32} {c_stake : Int32} {c_cube : Int32} {c_pieces0 : Int64} {c_pieces1 : Int64} {c_score0 : Int32} {c_score1 : Int32} {c_hits0 : Int32} {c_hits1 : Int32} {c_stopped : Bool} {c_stopPart : Int32} {t_signs : Nat → Int32} {t_length : Int32} {a1 : Int32} {r : Int32} (hm : mX9_dieLeft c_dice a1 = some (r)) : k_MiE l yX9_dieLeft wsX9_dieLeft rmX9_dieLeft D (kT cI cJ cC cG) sz ([.ref h9, .int a1] : List Value) (wX cI cJ cC cG h9 hn ap q ht h0 pa pb pc jk hasS cnt snp G c_mover c_phase c_dice c_stake c_cube c_pieces0 c_pieces1 c_score0 c_score1 c_hits0 c_hits1 c_stopped c_stopPart t_signs t_length) (fun u : (Nat → Nat) × (Nat → Nat) × (Nat → Nat) × (JT) => (wX cI cJ cC cG h9 hn ap (u.1) ht h0 (u.2.1) (u.2.2.1) pc (u.2.2.2) hasS cnt snp G c_mover c_phase c_dice c_stake c_cube c_pieces0 c_pieces1 c_score0 c_score1 c_hits0 c_hits1 c_stopped c_stopPart t_signs t_length)) r := by
  refine k_st_iE (cc := cX9_dieLeft) (maxL := 2) (by decide) rfl (Nat.le_of_ble_eq_true rfl) ?_
  intro p e z m below meth c A hx hb hr hml hts hown hlocks hsz hN hA hK hP hD hS ls hl
  have hown : z.vm.findClass RX9 = some m.cls := hown
  have hinX1 : ∀ w ∈ wsX10, w ∈ wsX9_dieLeft := by decide +kernel
  have hinX9 : ∀ w ∈ wsX90, w ∈ wsX9_dieLeft := by decide +kernel
  have fl10 := hts (.fieldLink RX9 10 "MagpieRuns" "now" "LMagpieRuns$Game;") (by decide +kernel)
  have fl61 := hts (.fieldLink RX9 61 "MagpieRuns$Game" "dice" "I") (by decide +kernel)
  have hl : lv_has ls 2 [(0, .ref h9), (1, .int a1)] := hl
  have J_18 : ∀ (q : Nat → Nat) (pa : Nat → Nat) (pb : Nat → Nat) (jk : JT) (H : Heap) (locs : List Loc), va_P D vwCl (wX cI cJ cC cG h9 hn ap q ht h0 pa pb pc jk hasS cnt snp G c_mover c_phase c_dice c_stake c_cube c_pieces0 c_pieces1 c_score0 c_score1 c_hits0 c_hits1 c_stopped c_stopPart t_signs t_length) H → va_D A (wX cI cJ cC cG h9 hn ap q ht h0 pa pb pc jk hasS cnt snp G c_mover c_phase c_dice c_stake c_cube c_pieces0 c_pieces1 c_score0 c_score1 c_hits0 c_hits1 c_stopped c_stopPart t_signs t_length) → va_S A z.heap H locs → ∀ ls : Array Slot, lv_has ls 2 [] → mX9_dieLeft_18 c_dice a1  = some (r) → W p l e rmX9_dieLeft z m ([.ref h9, .int a1] : List Value).toArray below meth c H locs 0 0 (k_QiE below ([.ref h9, .int a1] : List Value) D (kT cI cJ cC cG) z A (fun u : (Nat → Nat) × (Nat → Nat) × (Nat → Nat) × (JT) => (wX cI cJ cC cG h9 hn ap (u.1) ht h0 (u.2.1) (u.2.2.1) pc (u.2.2.2) hasS cnt snp G c_mover c_phase c_dice c_stake c_cube c_pieces0 c_pieces1 c_score0 c_score1 c_hits0 c_hits1 c_stopped c_stopPart t_signs t_length)) r) (F0 m 18 ls []) := by
    intro q pa pb jk  H locs hP hD hS ls hl hm
    unfold mX9_dieLeft_18 at hm
    cases hm
  unfold mX9_dieLeft at hm
  refine lv_iload_n hx hb dX9_dieLeft_0 rfl (lv_at hl 1 rfl) ?_
  refine lv_if_lt (tgt := 18) hx hb dX9_dieLeft_1 (by decide) (fun cc1 => ?_) (fun cc1 => ?_)
  · have hm := k_ip cc1 hm
    exact J_18 q pa pb jk _ _ hP hD hS _ (lv_sub hl [] rfl) hm
  · have hm := k_in cc1 hm
    refine lv_iload_n hx hb dX9_dieLeft_4 rfl (lv_at hl 1 rfl) ?_
    refine lv_aload_n hx hb dX9_dieLeft_5 rfl (lv_at hl 0 rfl) ?_
    refine va_get (D := D) (ci := 5) (v := .ref hn) (C := RX9) (T := TX9) (N := 4) hx hb hts hinX9 hown hK hP 0 rfl rfl 0 (by decide) fl10 (fun _ h9 => h9) rfl dX9_dieLeft_6 ?_
    refine va_get (D := D) (ci := 0) (v := .int c_dice) (C := RX1) (T := TX1) (N := 13) hx hb hts hinX1 hown hK hP 1 rfl rfl 2 (by decide) fl61 (fun _ h9 => h9) rfl dX9_dieLeft_9 ?_
    obtain ⟨r1, hc12, hm⟩ := k_bds hm
    refine k_i_0 (k_rS (As := [.int c_dice]) (rest := [.int a1]) ⟨hx, hb, hml, hown, hts⟩ hK hN k_P0 (k_D0 (A := A)) (zX0_count hc12) (va_cwS 1 hts gX9_dieLeft_X0_count rfl rfl rfl (by decide +kernel) ⟨Nat.le_of_ble_eq_true rfl, Nat.le_of_ble_eq_true rfl⟩) rfl hl.1 rfl (Nat.le_of_ble_eq_true rfl) dX9_dieLeft_12 ⟨Nat.zero_le _, Nat.zero_le _⟩) hP hS hA (fun H locs hP hS => ?_)
    refine lv_icmp_lt (tgt := 26) hx hb dX9_dieLeft_15 (by decide) (fun cc15 => ?_) (fun cc15 => ?_)
    · have hm := k_ip cc15 hm
      refine lv_aload_n hx hb dX9_dieLeft_26 rfl (lv_at hl 0 rfl) ?_
      refine va_get (D := D) (ci := 5) (v := .ref hn) (C := RX9) (T := TX9) (N := 4) hx hb hts hinX9 hown hK hP 0 rfl rfl 0 (by decide) fl10 (fun _ h9 => h9) rfl dX9_dieLeft_27 ?_
      refine va_get (D := D) (ci := 0) (v := .int c_dice) (C := RX1) (T := TX1) (N := 13) hx hb hts hinX1 hown hK hP 1 rfl rfl 2 (by decide) fl61 (fun _ h9 => h9) rfl dX9_dieLeft_30 ?_
      refine lv_iload_n hx hb dX9_dieLeft_33 rfl (lv_at hl 1 rfl) ?_
      obtain ⟨r2, hc34, hm⟩ := k_bds hm
      refine k_i_0 (k_rS (As := [.int c_dice, .int a1]) (rest := []) ⟨hx, hb, hml, hown, hts⟩ hK hN k_P0 (k_D0 (A := A)) (zX0_at hc34) (va_cwS 2 hts gX9_dieLeft_X0_at rfl rfl rfl (by decide +kernel) ⟨Nat.le_of_ble_eq_true rfl, Nat.le_of_ble_eq_true rfl⟩) rfl hl.1 rfl (Nat.le_of_ble_eq_true rfl) dX9_dieLeft_34 ⟨Nat.zero_le _, Nat.zero_le _⟩) hP hS hA (fun H locs hP hS => ?_)
      cases hm
      exact k_end_iE (q, pa, pb, jk) hx hb hr hlocks hK hP hD hS dX9_dieLeft_37
    · have hm := k_in cc15 hm
      exact J_18 q pa pb jk _ _ hP hD hS _ (lv_sub hl [] rfl) hm

abbrev rmX9_piecesOn : Room := { frames := 2, cells := 0, slots := 0, locals := 44 }
set_option maxHeartbeats 4000000 in
set_option maxRecDepth 100000 in
theorem zX9_piecesOn {l : Launch} {D : va_G} {cI cJ cC cG : ClassId} {sz : Nat} {h9 hn h0 : Nat} {ap q ht pa pb pc : Nat → Nat} {jk : JT} {hasS : Bool} {cnt : Int32} {snp : GT} {G : Nat → GT} {c_mover : Int32} {c_phase : Int32} {c_dice : Int32} {c_stake : Int32} {c_cube : Int32} {c_pieces0 : Int64} {c_pieces1 : Int64} {c_score0 : Int32} {c_score1 : Int32} {c_hits0 : Int32} {c_hits1 : Int32} {c_stopped : Bool} {c_stopPart : Int32} {t_signs : Nat → Int32} {t_length : Int32} {a1 : Int32} {a2 : Int32} {r : Int32} (hm : mX9_piecesOn c_pieces0 c_pieces1 a1 a2 = some (r)) : k_MiE l yX9_piecesOn wsX9_piecesOn rmX9_piecesOn D (kT cI cJ cC cG) sz ([.ref h9, .int a1, .int a2] : List Value) (wX cI cJ cC cG h9 hn ap q ht h0 pa pb pc jk hasS cnt snp G c_mover c_phase c_dice c_stake c_cube c_pieces0 c_pieces1 c_score0 c_score1 c_hits0 c_hits1 c_stopped c_stopPart t_signs t_length) (fun u : (Nat → Nat) × (Nat → Nat) × (Nat → Nat) × (JT) => (wX cI cJ cC cG h9 hn ap (u.1) ht h0 (u.2.1) (u.2.2.1) pc (u.2.2.2) hasS cnt snp G c_mover c_phase c_dice c_stake c_cube c_pieces0 c_pieces1 c_score0 c_score1 c_hits0 c_hits1 c_stopped c_stopPart t_signs t_length)) r := by
  refine k_st_iE (cc := cX9_piecesOn) (maxL := 3) (by decide) rfl (Nat.le_of_ble_eq_true rfl) ?_
  intro p e z m below meth c A hx hb hr hml hts hown hlocks hsz hN hA hK hP hD hS ls hl
  have hown : z.vm.findClass RX9 = some m.cls := hown
  have hinX9 : ∀ w ∈ wsX90, w ∈ wsX9_piecesOn := by decide +kernel
  have fl10 := hts (.fieldLink RX9 10 "MagpieRuns" "now" "LMagpieRuns$Game;") (by decide +kernel)
  have hl : lv_has ls 3 [(0, .ref h9), (1, .int a1), (2, .int a2)] := hl
  have J_14 : ∀ (q : Nat → Nat) (pa : Nat → Nat) (pb : Nat → Nat) (jk : JT) (H : Heap) (locs : List Loc), va_P D vwCl (wX cI cJ cC cG h9 hn ap q ht h0 pa pb pc jk hasS cnt snp G c_mover c_phase c_dice c_stake c_cube c_pieces0 c_pieces1 c_score0 c_score1 c_hits0 c_hits1 c_stopped c_stopPart t_signs t_length) H → va_D A (wX cI cJ cC cG h9 hn ap q ht h0 pa pb pc jk hasS cnt snp G c_mover c_phase c_dice c_stake c_cube c_pieces0 c_pieces1 c_score0 c_score1 c_hits0 c_hits1 c_stopped c_stopPart t_signs t_length) → va_S A z.heap H locs → ∀ ls : Array Slot, lv_has ls 3 [] → mX9_piecesOn_14 c_pieces0 c_pieces1 a1 a2  = some (r) → W p l e rmX9_piecesOn z m ([.ref h9, .int a1, .int a2] : List Value).toArray below meth c H locs 0 0 (k_QiE below ([.ref h9, .int a1, .int a2] : List Value) D (kT cI cJ cC cG) z A (fun u : (Nat → Nat) × (Nat → Nat) × (Nat → Nat) × (JT) => (wX cI cJ cC cG h9 hn ap (u.1) ht h0 (u.2.1) (u.2.2.1) pc (u.2.2.2) hasS cnt snp G c_mover c_phase c_dice c_stake c_cube c_pieces0 c_pieces1 c_score0 c_score1 c_hits0 c_hits1 c_stopped c_stopPart t_signs t_length)) r) (F0 m 14 ls []) := by
    intro q pa pb jk  H locs hP hD hS ls hl hm
    unfold mX9_piecesOn_14 at hm
    cases hm
  unfold mX9_piecesOn at hm
  refine lv_iload_n hx hb dX9_piecesOn_0 rfl (lv_at hl 1 rfl) ?_
  obtain ⟨r1, hc1, hm⟩ := k_bds hm
  refine k_i_0 (k_rS (As := [.int a1]) (rest := []) ⟨hx, hb, hml, hown, hts⟩ hK hN k_P0 (k_D0 (A := A)) (zX9_isPlayer hc1) (va_cwS 1 hts gX9_piecesOn_X9_isPlayer rfl rfl rfl (by decide +kernel) ⟨Nat.le_of_ble_eq_true rfl, Nat.le_of_ble_eq_true rfl⟩) rfl hl.1 rfl (Nat.le_of_ble_eq_true rfl) dX9_piecesOn_1 ⟨Nat.zero_le _, Nat.zero_le _⟩) hP hS hA (fun H locs hP hS => ?_)
  refine lv_if_eq (tgt := 14) hx hb dX9_piecesOn_4 (by decide) (fun cc4 => ?_) (fun cc4 => ?_)
  · have hm := k_ip cc4 hm
    exact J_14 q pa pb jk _ _ hP hD hS _ (lv_sub hl [] rfl) hm
  · have hm := k_in cc4 hm
    refine lv_iload_n hx hb dX9_piecesOn_7 rfl (lv_at hl 2 rfl) ?_
    obtain ⟨r2, hc8, hm⟩ := k_bds hm
    refine k_i_0 (k_rS (As := [.int a2]) (rest := []) ⟨hx, hb, hml, hown, hts⟩ hK hN k_P0 (k_D0 (A := A)) (zX9_isPoint hc8) (va_cwS 1 hts gX9_piecesOn_X9_isPoint rfl rfl rfl (by decide +kernel) ⟨Nat.le_of_ble_eq_true rfl, Nat.le_of_ble_eq_true rfl⟩) rfl hl.1 rfl (Nat.le_of_ble_eq_true rfl) dX9_piecesOn_8 ⟨Nat.zero_le _, Nat.zero_le _⟩) hP hS hA (fun H locs hP hS => ?_)
    refine lv_if_ne (tgt := 22) hx hb dX9_piecesOn_11 (by decide) (fun cc11 => ?_) (fun cc11 => ?_)
    · have hm := k_in cc11 hm
      refine lv_aload_n hx hb dX9_piecesOn_22 rfl (lv_at hl 0 rfl) ?_
      refine va_get (D := D) (ci := 5) (v := .ref hn) (C := RX9) (T := TX9) (N := 4) hx hb hts hinX9 hown hK hP 0 rfl rfl 0 (by decide) fl10 (fun _ h9 => h9) rfl dX9_piecesOn_23 ?_
      refine lv_iload_n hx hb dX9_piecesOn_26 rfl (lv_at hl 1 rfl) ?_
      refine lv_iload_n hx hb dX9_piecesOn_27 rfl (lv_at hl 2 rfl) ?_
      obtain ⟨r3, hc28, hm⟩ := k_bds hm
      have hPc : va_P D vwCl (wG hn c_mover c_phase c_dice c_stake c_cube c_pieces0 c_pieces1 c_score0 c_score1 c_hits0 c_hits1 c_stopped c_stopPart) _ := k_Psub hP [1] rfl
      have hDc : va_D A (wG hn c_mover c_phase c_dice c_stake c_cube c_pieces0 c_pieces1 c_score0 c_score1 c_hits0 c_hits1 c_stopped c_stopPart) := hD.sub [1] (by decide) rfl
      refine k_i_c (Wf := (wX cI cJ cC cG h9 hn ap q ht h0 pa pb pc jk hasS cnt snp G c_mover c_phase c_dice c_stake c_cube c_pieces0 c_pieces1 c_score0 c_score1 c_hits0 c_hits1 c_stopped c_stopPart t_signs t_length)) [1] [0, 2, 3, 4, 5, 6, 7, 8, 9, 10, 11, 12, 13, 14, 15, 16, 17, 18, 19, 20, 21, 22, 23, 24] [0, 24, 1, 2, 3, 4, 5, 6, 7, 8, 9, 10, 11, 12, 13, 14, 15, 16, 17, 18, 19, 20, 21, 22, 23] (k_rV (As := [.int a1, .int a2]) (rest := []) ⟨hx, hb, hml, hown, hts⟩ hK hN hPc hDc (zX1_countAt hc28) (cwV 2 hts gX9_piecesOn_X1_countAt rfl rfl rfl (by decide +kernel) ⟨Nat.le_of_ble_eq_true rfl, Nat.le_of_ble_eq_true rfl⟩) rfl rfl rfl hl.1 rfl (Nat.le_of_ble_eq_true rfl) dX9_piecesOn_28 ⟨Nat.zero_le _, Nat.zero_le _⟩) hP hD hS hA rfl rfl (by decide) (by decide) rfl (by decide) (fun H locs hP hD hS => ?_)
      cases hm
      exact k_end_iE (q, pa, pb, jk) hx hb hr hlocks hK hP hD hS dX9_piecesOn_31
    · have hm := k_ip cc11 hm
      exact J_14 q pa pb jk _ _ hP hD hS _ (lv_sub hl [] rfl) hm

abbrev rmX9_onBar : Room := { frames := 1, cells := 0, slots := 0, locals := 22 }
set_option maxHeartbeats 4000000 in
set_option maxRecDepth 100000 in
theorem zX9_onBar {l : Launch} {D : va_G} {cI cJ cC cG : ClassId} {sz : Nat} {h9 hn h0 : Nat} {ap q ht pa pb pc : Nat → Nat} {jk : JT} {hasS : Bool} {cnt : Int32} {snp : GT} {G : Nat → GT} {c_mover : Int32} {c_phase : Int32} {c_dice : Int32} {c_stake : Int32} {c_cube : Int32} {c_pieces0 : Int64} {c_pieces1 : Int64} {c_score0 : Int32} {c_score1 : Int32} {c_hits0 : Int32} {c_hits1 : Int32} {c_stopped : Bool} {c_stopPart : Int32} {t_signs : Nat → Int32} {t_length : Int32} {a1 : Int32} {r : Int32} (hm : mX9_onBar c_pieces0 c_pieces1 a1 = some (r)) : k_MiE l yX9_onBar wsX9_onBar rmX9_onBar D (kT cI cJ cC cG) sz ([.ref h9, .int a1] : List Value) (wX cI cJ cC cG h9 hn ap q ht h0 pa pb pc jk hasS cnt snp G c_mover c_phase c_dice c_stake c_cube c_pieces0 c_pieces1 c_score0 c_score1 c_hits0 c_hits1 c_stopped c_stopPart t_signs t_length) (fun u : (Nat → Nat) × (Nat → Nat) × (Nat → Nat) × (JT) => (wX cI cJ cC cG h9 hn ap (u.1) ht h0 (u.2.1) (u.2.2.1) pc (u.2.2.2) hasS cnt snp G c_mover c_phase c_dice c_stake c_cube c_pieces0 c_pieces1 c_score0 c_score1 c_hits0 c_hits1 c_stopped c_stopPart t_signs t_length)) r := by
  refine k_st_iE (cc := cX9_onBar) (maxL := 2) (by decide) rfl (Nat.le_of_ble_eq_true rfl) ?_
  intro p e z m below meth c A hx hb hr hml hts hown hlocks hsz hN hA hK hP hD hS ls hl
  have hown : z.vm.findClass RX9 = some m.cls := hown
  have hinX9 : ∀ w ∈ wsX90, w ∈ wsX9_onBar := by decide +kernel
  have fl10 := hts (.fieldLink RX9 10 "MagpieRuns" "now" "LMagpieRuns$Game;") (by decide +kernel)
  have hl : lv_has ls 2 [(0, .ref h9), (1, .int a1)] := hl
  unfold mX9_onBar at hm
  refine lv_iload_n hx hb dX9_onBar_0 rfl (lv_at hl 1 rfl) ?_
  obtain ⟨r1, hc1, hm⟩ := k_bds hm
  refine k_i_0 (k_rS (As := [.int a1]) (rest := []) ⟨hx, hb, hml, hown, hts⟩ hK hN k_P0 (k_D0 (A := A)) (zX9_isPlayer hc1) (va_cwS 1 hts gX9_onBar_X9_isPlayer rfl rfl rfl (by decide +kernel) ⟨Nat.le_of_ble_eq_true rfl, Nat.le_of_ble_eq_true rfl⟩) rfl hl.1 rfl (Nat.le_of_ble_eq_true rfl) dX9_onBar_1 ⟨Nat.zero_le _, Nat.zero_le _⟩) hP hS hA (fun H locs hP hS => ?_)
  refine lv_if_ne (tgt := 15) hx hb dX9_onBar_4 (by decide) (fun cc4 => ?_) (fun cc4 => ?_)
  · have hm := k_in cc4 hm
    refine lv_aload_n hx hb dX9_onBar_15 rfl (lv_at hl 0 rfl) ?_
    refine va_get (D := D) (ci := 5) (v := .ref hn) (C := RX9) (T := TX9) (N := 4) hx hb hts hinX9 hown hK hP 0 rfl rfl 0 (by decide) fl10 (fun _ h9 => h9) rfl dX9_onBar_16 ?_
    refine lv_iload_n hx hb dX9_onBar_19 rfl (lv_at hl 1 rfl) ?_
    obtain ⟨r2, hc20, hm⟩ := k_bds hm
    have hPc : va_P D vwCl (wG hn c_mover c_phase c_dice c_stake c_cube c_pieces0 c_pieces1 c_score0 c_score1 c_hits0 c_hits1 c_stopped c_stopPart) _ := k_Psub hP [1] rfl
    have hDc : va_D A (wG hn c_mover c_phase c_dice c_stake c_cube c_pieces0 c_pieces1 c_score0 c_score1 c_hits0 c_hits1 c_stopped c_stopPart) := hD.sub [1] (by decide) rfl
    refine k_l_c (Wf := (wX cI cJ cC cG h9 hn ap q ht h0 pa pb pc jk hasS cnt snp G c_mover c_phase c_dice c_stake c_cube c_pieces0 c_pieces1 c_score0 c_score1 c_hits0 c_hits1 c_stopped c_stopPart t_signs t_length)) [1] [0, 2, 3, 4, 5, 6, 7, 8, 9, 10, 11, 12, 13, 14, 15, 16, 17, 18, 19, 20, 21, 22, 23, 24] [0, 24, 1, 2, 3, 4, 5, 6, 7, 8, 9, 10, 11, 12, 13, 14, 15, 16, 17, 18, 19, 20, 21, 22, 23] (k_rV (As := [.int a1]) (rest := []) ⟨hx, hb, hml, hown, hts⟩ hK hN hPc hDc (zX1_piecesOf hc20) (cwV 1 hts gX9_onBar_X1_piecesOf rfl rfl rfl (by decide +kernel) ⟨Nat.le_of_ble_eq_true rfl, Nat.le_of_ble_eq_true rfl⟩) rfl rfl rfl hl.1 rfl (Nat.le_of_ble_eq_true rfl) dX9_onBar_20 ⟨Nat.zero_le _, Nat.zero_le _⟩) hP hD hS hA rfl rfl (by decide) (by decide) rfl (by decide) (fun H locs hP hD hS => ?_)
    refine lv_bipush (v := 17) hx hb dX9_onBar_23 (by decide) ?_
    obtain ⟨r3, hc25, hm⟩ := k_bds hm
    refine k_i_0 (k_rS (As := [.long r2, .int 17]) (rest := []) ⟨hx, hb, hml, hown, hts⟩ hK hN k_P0 (k_D0 (A := A)) (zX3_on hc25) (va_cwS 2 hts gX9_onBar_X3_on rfl rfl rfl (by decide +kernel) ⟨Nat.le_of_ble_eq_true rfl, Nat.le_of_ble_eq_true rfl⟩) rfl hl.1 rfl (Nat.le_of_ble_eq_true rfl) dX9_onBar_25 ⟨Nat.zero_le _, Nat.zero_le _⟩) hP hS hA (fun H locs hP hS => ?_)
    cases hm
    exact k_end_iE (q, pa, pb, jk) hx hb hr hlocks hK hP hD hS dX9_onBar_28
  · have hm := k_ip cc4 hm
    cases hm

abbrev rmX9_borneOff : Room := { frames := 1, cells := 0, slots := 0, locals := 22 }
set_option maxHeartbeats 4000000 in
set_option maxRecDepth 100000 in
theorem zX9_borneOff {l : Launch} {D : va_G} {cI cJ cC cG : ClassId} {sz : Nat} {h9 hn h0 : Nat} {ap q ht pa pb pc : Nat → Nat} {jk : JT} {hasS : Bool} {cnt : Int32} {snp : GT} {G : Nat → GT} {c_mover : Int32} {c_phase : Int32} {c_dice : Int32} {c_stake : Int32} {c_cube : Int32} {c_pieces0 : Int64} {c_pieces1 : Int64} {c_score0 : Int32} {c_score1 : Int32} {c_hits0 : Int32} {c_hits1 : Int32} {c_stopped : Bool} {c_stopPart : Int32} {t_signs : Nat → Int32} {t_length : Int32} {a1 : Int32} {r : Int32} (hm : mX9_borneOff c_pieces0 c_pieces1 a1 = some (r)) : k_MiE l yX9_borneOff wsX9_borneOff rmX9_borneOff D (kT cI cJ cC cG) sz ([.ref h9, .int a1] : List Value) (wX cI cJ cC cG h9 hn ap q ht h0 pa pb pc jk hasS cnt snp G c_mover c_phase c_dice c_stake c_cube c_pieces0 c_pieces1 c_score0 c_score1 c_hits0 c_hits1 c_stopped c_stopPart t_signs t_length) (fun u : (Nat → Nat) × (Nat → Nat) × (Nat → Nat) × (JT) => (wX cI cJ cC cG h9 hn ap (u.1) ht h0 (u.2.1) (u.2.2.1) pc (u.2.2.2) hasS cnt snp G c_mover c_phase c_dice c_stake c_cube c_pieces0 c_pieces1 c_score0 c_score1 c_hits0 c_hits1 c_stopped c_stopPart t_signs t_length)) r := by
  refine k_st_iE (cc := cX9_borneOff) (maxL := 2) (by decide) rfl (Nat.le_of_ble_eq_true rfl) ?_
  intro p e z m below meth c A hx hb hr hml hts hown hlocks hsz hN hA hK hP hD hS ls hl
  have hown : z.vm.findClass RX9 = some m.cls := hown
  have hinX9 : ∀ w ∈ wsX90, w ∈ wsX9_borneOff := by decide +kernel
  have fl10 := hts (.fieldLink RX9 10 "MagpieRuns" "now" "LMagpieRuns$Game;") (by decide +kernel)
  have hl : lv_has ls 2 [(0, .ref h9), (1, .int a1)] := hl
  unfold mX9_borneOff at hm
  refine lv_iload_n hx hb dX9_borneOff_0 rfl (lv_at hl 1 rfl) ?_
  obtain ⟨r1, hc1, hm⟩ := k_bds hm
  refine k_i_0 (k_rS (As := [.int a1]) (rest := []) ⟨hx, hb, hml, hown, hts⟩ hK hN k_P0 (k_D0 (A := A)) (zX9_isPlayer hc1) (va_cwS 1 hts gX9_borneOff_X9_isPlayer rfl rfl rfl (by decide +kernel) ⟨Nat.le_of_ble_eq_true rfl, Nat.le_of_ble_eq_true rfl⟩) rfl hl.1 rfl (Nat.le_of_ble_eq_true rfl) dX9_borneOff_1 ⟨Nat.zero_le _, Nat.zero_le _⟩) hP hS hA (fun H locs hP hS => ?_)
  refine lv_if_ne (tgt := 15) hx hb dX9_borneOff_4 (by decide) (fun cc4 => ?_) (fun cc4 => ?_)
  · have hm := k_in cc4 hm
    refine lv_aload_n hx hb dX9_borneOff_15 rfl (lv_at hl 0 rfl) ?_
    refine va_get (D := D) (ci := 5) (v := .ref hn) (C := RX9) (T := TX9) (N := 4) hx hb hts hinX9 hown hK hP 0 rfl rfl 0 (by decide) fl10 (fun _ h9 => h9) rfl dX9_borneOff_16 ?_
    refine lv_iload_n hx hb dX9_borneOff_19 rfl (lv_at hl 1 rfl) ?_
    obtain ⟨r2, hc20, hm⟩ := k_bds hm
    have hPc : va_P D vwCl (wG hn c_mover c_phase c_dice c_stake c_cube c_pieces0 c_pieces1 c_score0 c_score1 c_hits0 c_hits1 c_stopped c_stopPart) _ := k_Psub hP [1] rfl
    have hDc : va_D A (wG hn c_mover c_phase c_dice c_stake c_cube c_pieces0 c_pieces1 c_score0 c_score1 c_hits0 c_hits1 c_stopped c_stopPart) := hD.sub [1] (by decide) rfl
    refine k_l_c (Wf := (wX cI cJ cC cG h9 hn ap q ht h0 pa pb pc jk hasS cnt snp G c_mover c_phase c_dice c_stake c_cube c_pieces0 c_pieces1 c_score0 c_score1 c_hits0 c_hits1 c_stopped c_stopPart t_signs t_length)) [1] [0, 2, 3, 4, 5, 6, 7, 8, 9, 10, 11, 12, 13, 14, 15, 16, 17, 18, 19, 20, 21, 22, 23, 24] [0, 24, 1, 2, 3, 4, 5, 6, 7, 8, 9, 10, 11, 12, 13, 14, 15, 16, 17, 18, 19, 20, 21, 22, 23] (k_rV (As := [.int a1]) (rest := []) ⟨hx, hb, hml, hown, hts⟩ hK hN hPc hDc (zX1_piecesOf hc20) (cwV 1 hts gX9_borneOff_X1_piecesOf rfl rfl rfl (by decide +kernel) ⟨Nat.le_of_ble_eq_true rfl, Nat.le_of_ble_eq_true rfl⟩) rfl rfl rfl hl.1 rfl (Nat.le_of_ble_eq_true rfl) dX9_borneOff_20 ⟨Nat.zero_le _, Nat.zero_le _⟩) hP hD hS hA rfl rfl (by decide) (by decide) rfl (by decide) (fun H locs hP hD hS => ?_)
    refine lv_iconst (v := 0) hx hb dX9_borneOff_23 (by decide) ?_
    obtain ⟨r3, hc24, hm⟩ := k_bds hm
    refine k_i_0 (k_rS (As := [.long r2, .int 0]) (rest := []) ⟨hx, hb, hml, hown, hts⟩ hK hN k_P0 (k_D0 (A := A)) (zX3_on hc24) (va_cwS 2 hts gX9_borneOff_X3_on rfl rfl rfl (by decide +kernel) ⟨Nat.le_of_ble_eq_true rfl, Nat.le_of_ble_eq_true rfl⟩) rfl hl.1 rfl (Nat.le_of_ble_eq_true rfl) dX9_borneOff_24 ⟨Nat.zero_le _, Nat.zero_le _⟩) hP hS hA (fun H locs hP hS => ?_)
    cases hm
    exact k_end_iE (q, pa, pb, jk) hx hb hr hlocks hK hP hD hS dX9_borneOff_27
  · have hm := k_ip cc4 hm
    cases hm

abbrev rmX9_pips : Room := { frames := 2, cells := 0, slots := 0, locals := 45 }
set_option maxHeartbeats 4000000 in
set_option maxRecDepth 100000 in
theorem zX9_pips {l : Launch} {D : va_G} {cI cJ cC cG : ClassId} {sz : Nat} {h9 hn h0 : Nat} {ap q ht pa pb pc : Nat → Nat} {jk : JT} {hasS : Bool} {cnt : Int32} {snp : GT} {G : Nat → GT} {c_mover : Int32} {c_phase : Int32} {c_dice : Int32} {c_stake : Int32} {c_cube : Int32} {c_pieces0 : Int64} {c_pieces1 : Int64} {c_score0 : Int32} {c_score1 : Int32} {c_hits0 : Int32} {c_hits1 : Int32} {c_stopped : Bool} {c_stopPart : Int32} {t_signs : Nat → Int32} {t_length : Int32} {a1 : Int32} {r : Int32} (hm : mX9_pips c_pieces0 c_pieces1 a1 = some (r)) : k_MiE l yX9_pips wsX9_pips rmX9_pips D (kT cI cJ cC cG) sz ([.ref h9, .int a1] : List Value) (wX cI cJ cC cG h9 hn ap q ht h0 pa pb pc jk hasS cnt snp G c_mover c_phase c_dice c_stake c_cube c_pieces0 c_pieces1 c_score0 c_score1 c_hits0 c_hits1 c_stopped c_stopPart t_signs t_length) (fun u : (Nat → Nat) × (Nat → Nat) × (Nat → Nat) × (JT) => (wX cI cJ cC cG h9 hn ap (u.1) ht h0 (u.2.1) (u.2.2.1) pc (u.2.2.2) hasS cnt snp G c_mover c_phase c_dice c_stake c_cube c_pieces0 c_pieces1 c_score0 c_score1 c_hits0 c_hits1 c_stopped c_stopPart t_signs t_length)) r := by
  refine k_st_iE (cc := cX9_pips) (maxL := 2) (by decide) rfl (Nat.le_of_ble_eq_true rfl) ?_
  intro p e z m below meth c A hx hb hr hml hts hown hlocks hsz hN hA hK hP hD hS ls hl
  have hown : z.vm.findClass RX9 = some m.cls := hown
  have hinX9 : ∀ w ∈ wsX90, w ∈ wsX9_pips := by decide +kernel
  have fl10 := hts (.fieldLink RX9 10 "MagpieRuns" "now" "LMagpieRuns$Game;") (by decide +kernel)
  have hl : lv_has ls 2 [(0, .ref h9), (1, .int a1)] := hl
  unfold mX9_pips at hm
  refine lv_iload_n hx hb dX9_pips_0 rfl (lv_at hl 1 rfl) ?_
  obtain ⟨r1, hc1, hm⟩ := k_bds hm
  refine k_i_0 (k_rS (As := [.int a1]) (rest := []) ⟨hx, hb, hml, hown, hts⟩ hK hN k_P0 (k_D0 (A := A)) (zX9_isPlayer hc1) (va_cwS 1 hts gX9_pips_X9_isPlayer rfl rfl rfl (by decide +kernel) ⟨Nat.le_of_ble_eq_true rfl, Nat.le_of_ble_eq_true rfl⟩) rfl hl.1 rfl (Nat.le_of_ble_eq_true rfl) dX9_pips_1 ⟨Nat.zero_le _, Nat.zero_le _⟩) hP hS hA (fun H locs hP hS => ?_)
  refine lv_if_ne (tgt := 15) hx hb dX9_pips_4 (by decide) (fun cc4 => ?_) (fun cc4 => ?_)
  · have hm := k_in cc4 hm
    refine lv_aload_n hx hb dX9_pips_15 rfl (lv_at hl 0 rfl) ?_
    refine va_get (D := D) (ci := 5) (v := .ref hn) (C := RX9) (T := TX9) (N := 4) hx hb hts hinX9 hown hK hP 0 rfl rfl 0 (by decide) fl10 (fun _ h9 => h9) rfl dX9_pips_16 ?_
    refine lv_iload_n hx hb dX9_pips_19 rfl (lv_at hl 1 rfl) ?_
    obtain ⟨r2, hc20, hm⟩ := k_bds hm
    have hPc : va_P D vwCl (wG hn c_mover c_phase c_dice c_stake c_cube c_pieces0 c_pieces1 c_score0 c_score1 c_hits0 c_hits1 c_stopped c_stopPart) _ := k_Psub hP [1] rfl
    have hDc : va_D A (wG hn c_mover c_phase c_dice c_stake c_cube c_pieces0 c_pieces1 c_score0 c_score1 c_hits0 c_hits1 c_stopped c_stopPart) := hD.sub [1] (by decide) rfl
    refine k_l_c (Wf := (wX cI cJ cC cG h9 hn ap q ht h0 pa pb pc jk hasS cnt snp G c_mover c_phase c_dice c_stake c_cube c_pieces0 c_pieces1 c_score0 c_score1 c_hits0 c_hits1 c_stopped c_stopPart t_signs t_length)) [1] [0, 2, 3, 4, 5, 6, 7, 8, 9, 10, 11, 12, 13, 14, 15, 16, 17, 18, 19, 20, 21, 22, 23, 24] [0, 24, 1, 2, 3, 4, 5, 6, 7, 8, 9, 10, 11, 12, 13, 14, 15, 16, 17, 18, 19, 20, 21, 22, 23] (k_rV (As := [.int a1]) (rest := []) ⟨hx, hb, hml, hown, hts⟩ hK hN hPc hDc (zX1_piecesOf hc20) (cwV 1 hts gX9_pips_X1_piecesOf rfl rfl rfl (by decide +kernel) ⟨Nat.le_of_ble_eq_true rfl, Nat.le_of_ble_eq_true rfl⟩) rfl rfl rfl hl.1 rfl (Nat.le_of_ble_eq_true rfl) dX9_pips_20 ⟨Nat.zero_le _, Nat.zero_le _⟩) hP hD hS hA rfl rfl (by decide) (by decide) rfl (by decide) (fun H locs hP hD hS => ?_)
    obtain ⟨r3, hc23, hm⟩ := k_bds hm
    refine k_i_0 (k_rS (As := [.long r2]) (rest := []) ⟨hx, hb, hml, hown, hts⟩ hK hN k_P0 (k_D0 (A := A)) (zX3_sumOfWays hc23) (va_cwS 1 hts gX9_pips_X3_sumOfWays rfl rfl rfl (by decide +kernel) ⟨Nat.le_of_ble_eq_true rfl, Nat.le_of_ble_eq_true rfl⟩) rfl hl.1 rfl (Nat.le_of_ble_eq_true rfl) dX9_pips_23 ⟨Nat.zero_le _, Nat.zero_le _⟩) hP hS hA (fun H locs hP hS => ?_)
    cases hm
    exact k_end_iE (q, pa, pb, jk) hx hb hr hlocks hK hP hD hS dX9_pips_26
  · have hm := k_ip cc4 hm
    cases hm

abbrev rmX9_blots : Room := { frames := 2, cells := 0, slots := 0, locals := 45 }
set_option maxHeartbeats 4000000 in
set_option maxRecDepth 100000 in
theorem zX9_blots {l : Launch} {D : va_G} {cI cJ cC cG : ClassId} {sz : Nat} {h9 hn h0 : Nat} {ap q ht pa pb pc : Nat → Nat} {jk : JT} {hasS : Bool} {cnt : Int32} {snp : GT} {G : Nat → GT} {c_mover : Int32} {c_phase : Int32} {c_dice : Int32} {c_stake : Int32} {c_cube : Int32} {c_pieces0 : Int64} {c_pieces1 : Int64} {c_score0 : Int32} {c_score1 : Int32} {c_hits0 : Int32} {c_hits1 : Int32} {c_stopped : Bool} {c_stopPart : Int32} {t_signs : Nat → Int32} {t_length : Int32} {a1 : Int32} {r : Int32} (hm : mX9_blots c_pieces0 c_pieces1 a1 = some (r)) : k_MiE l yX9_blots wsX9_blots rmX9_blots D (kT cI cJ cC cG) sz ([.ref h9, .int a1] : List Value) (wX cI cJ cC cG h9 hn ap q ht h0 pa pb pc jk hasS cnt snp G c_mover c_phase c_dice c_stake c_cube c_pieces0 c_pieces1 c_score0 c_score1 c_hits0 c_hits1 c_stopped c_stopPart t_signs t_length) (fun u : (Nat → Nat) × (Nat → Nat) × (Nat → Nat) × (JT) => (wX cI cJ cC cG h9 hn ap (u.1) ht h0 (u.2.1) (u.2.2.1) pc (u.2.2.2) hasS cnt snp G c_mover c_phase c_dice c_stake c_cube c_pieces0 c_pieces1 c_score0 c_score1 c_hits0 c_hits1 c_stopped c_stopPart t_signs t_length)) r := by
  refine k_st_iE (cc := cX9_blots) (maxL := 2) (by decide) rfl (Nat.le_of_ble_eq_true rfl) ?_
  intro p e z m below meth c A hx hb hr hml hts hown hlocks hsz hN hA hK hP hD hS ls hl
  have hown : z.vm.findClass RX9 = some m.cls := hown
  have hinX9 : ∀ w ∈ wsX90, w ∈ wsX9_blots := by decide +kernel
  have fl10 := hts (.fieldLink RX9 10 "MagpieRuns" "now" "LMagpieRuns$Game;") (by decide +kernel)
  have hl : lv_has ls 2 [(0, .ref h9), (1, .int a1)] := hl
  unfold mX9_blots at hm
  refine lv_iload_n hx hb dX9_blots_0 rfl (lv_at hl 1 rfl) ?_
  obtain ⟨r1, hc1, hm⟩ := k_bds hm
  refine k_i_0 (k_rS (As := [.int a1]) (rest := []) ⟨hx, hb, hml, hown, hts⟩ hK hN k_P0 (k_D0 (A := A)) (zX9_isPlayer hc1) (va_cwS 1 hts gX9_blots_X9_isPlayer rfl rfl rfl (by decide +kernel) ⟨Nat.le_of_ble_eq_true rfl, Nat.le_of_ble_eq_true rfl⟩) rfl hl.1 rfl (Nat.le_of_ble_eq_true rfl) dX9_blots_1 ⟨Nat.zero_le _, Nat.zero_le _⟩) hP hS hA (fun H locs hP hS => ?_)
  refine lv_if_ne (tgt := 15) hx hb dX9_blots_4 (by decide) (fun cc4 => ?_) (fun cc4 => ?_)
  · have hm := k_in cc4 hm
    refine lv_aload_n hx hb dX9_blots_15 rfl (lv_at hl 0 rfl) ?_
    refine va_get (D := D) (ci := 5) (v := .ref hn) (C := RX9) (T := TX9) (N := 4) hx hb hts hinX9 hown hK hP 0 rfl rfl 0 (by decide) fl10 (fun _ h9 => h9) rfl dX9_blots_16 ?_
    refine lv_iload_n hx hb dX9_blots_19 rfl (lv_at hl 1 rfl) ?_
    obtain ⟨r2, hc20, hm⟩ := k_bds hm
    have hPc : va_P D vwCl (wG hn c_mover c_phase c_dice c_stake c_cube c_pieces0 c_pieces1 c_score0 c_score1 c_hits0 c_hits1 c_stopped c_stopPart) _ := k_Psub hP [1] rfl
    have hDc : va_D A (wG hn c_mover c_phase c_dice c_stake c_cube c_pieces0 c_pieces1 c_score0 c_score1 c_hits0 c_hits1 c_stopped c_stopPart) := hD.sub [1] (by decide) rfl
    refine k_l_c (Wf := (wX cI cJ cC cG h9 hn ap q ht h0 pa pb pc jk hasS cnt snp G c_mover c_phase c_dice c_stake c_cube c_pieces0 c_pieces1 c_score0 c_score1 c_hits0 c_hits1 c_stopped c_stopPart t_signs t_length)) [1] [0, 2, 3, 4, 5, 6, 7, 8, 9, 10, 11, 12, 13, 14, 15, 16, 17, 18, 19, 20, 21, 22, 23, 24] [0, 24, 1, 2, 3, 4, 5, 6, 7, 8, 9, 10, 11, 12, 13, 14, 15, 16, 17, 18, 19, 20, 21, 22, 23] (k_rV (As := [.int a1]) (rest := []) ⟨hx, hb, hml, hown, hts⟩ hK hN hPc hDc (zX1_piecesOf hc20) (cwV 1 hts gX9_blots_X1_piecesOf rfl rfl rfl (by decide +kernel) ⟨Nat.le_of_ble_eq_true rfl, Nat.le_of_ble_eq_true rfl⟩) rfl rfl rfl hl.1 rfl (Nat.le_of_ble_eq_true rfl) dX9_blots_20 ⟨Nat.zero_le _, Nat.zero_le _⟩) hP hD hS hA rfl rfl (by decide) (by decide) rfl (by decide) (fun H locs hP hD hS => ?_)
    obtain ⟨r3, hc23, hm⟩ := k_bds hm
    refine k_i_0 (k_rS (As := [.long r2]) (rest := []) ⟨hx, hb, hml, hown, hts⟩ hK hN k_P0 (k_D0 (A := A)) (zX3_singles hc23) (va_cwS 1 hts gX9_blots_X3_singles rfl rfl rfl (by decide +kernel) ⟨Nat.le_of_ble_eq_true rfl, Nat.le_of_ble_eq_true rfl⟩) rfl hl.1 rfl (Nat.le_of_ble_eq_true rfl) dX9_blots_23 ⟨Nat.zero_le _, Nat.zero_le _⟩) hP hS hA (fun H locs hP hS => ?_)
    cases hm
    exact k_end_iE (q, pa, pb, jk) hx hb hr hlocks hK hP hD hS dX9_blots_26
  · have hm := k_ip cc4 hm
    cases hm

abbrev rmX9_blockade : Room := { frames := 2, cells := 0, slots := 0, locals := 46 }
set_option maxHeartbeats 4000000 in
set_option maxRecDepth 100000 in
theorem zX9_blockade {l : Launch} {D : va_G} {cI cJ cC cG : ClassId} {sz : Nat} {h9 hn h0 : Nat} {ap q ht pa pb pc : Nat → Nat} {jk : JT} {hasS : Bool} {cnt : Int32} {snp : GT} {G : Nat → GT} {c_mover : Int32} {c_phase : Int32} {c_dice : Int32} {c_stake : Int32} {c_cube : Int32} {c_pieces0 : Int64} {c_pieces1 : Int64} {c_score0 : Int32} {c_score1 : Int32} {c_hits0 : Int32} {c_hits1 : Int32} {c_stopped : Bool} {c_stopPart : Int32} {t_signs : Nat → Int32} {t_length : Int32} {a1 : Int32} {r : Int32} (hm : mX9_blockade c_pieces0 c_pieces1 a1 = some (r)) : k_MiE l yX9_blockade wsX9_blockade rmX9_blockade D (kT cI cJ cC cG) sz ([.ref h9, .int a1] : List Value) (wX cI cJ cC cG h9 hn ap q ht h0 pa pb pc jk hasS cnt snp G c_mover c_phase c_dice c_stake c_cube c_pieces0 c_pieces1 c_score0 c_score1 c_hits0 c_hits1 c_stopped c_stopPart t_signs t_length) (fun u : (Nat → Nat) × (Nat → Nat) × (Nat → Nat) × (JT) => (wX cI cJ cC cG h9 hn ap (u.1) ht h0 (u.2.1) (u.2.2.1) pc (u.2.2.2) hasS cnt snp G c_mover c_phase c_dice c_stake c_cube c_pieces0 c_pieces1 c_score0 c_score1 c_hits0 c_hits1 c_stopped c_stopPart t_signs t_length)) r := by
  refine k_st_iE (cc := cX9_blockade) (maxL := 2) (by decide) rfl (Nat.le_of_ble_eq_true rfl) ?_
  intro p e z m below meth c A hx hb hr hml hts hown hlocks hsz hN hA hK hP hD hS ls hl
  have hown : z.vm.findClass RX9 = some m.cls := hown
  have hinX9 : ∀ w ∈ wsX90, w ∈ wsX9_blockade := by decide +kernel
  have fl10 := hts (.fieldLink RX9 10 "MagpieRuns" "now" "LMagpieRuns$Game;") (by decide +kernel)
  have hl : lv_has ls 2 [(0, .ref h9), (1, .int a1)] := hl
  unfold mX9_blockade at hm
  refine lv_iload_n hx hb dX9_blockade_0 rfl (lv_at hl 1 rfl) ?_
  obtain ⟨r1, hc1, hm⟩ := k_bds hm
  refine k_i_0 (k_rS (As := [.int a1]) (rest := []) ⟨hx, hb, hml, hown, hts⟩ hK hN k_P0 (k_D0 (A := A)) (zX9_isPlayer hc1) (va_cwS 1 hts gX9_blockade_X9_isPlayer rfl rfl rfl (by decide +kernel) ⟨Nat.le_of_ble_eq_true rfl, Nat.le_of_ble_eq_true rfl⟩) rfl hl.1 rfl (Nat.le_of_ble_eq_true rfl) dX9_blockade_1 ⟨Nat.zero_le _, Nat.zero_le _⟩) hP hS hA (fun H locs hP hS => ?_)
  refine lv_if_ne (tgt := 15) hx hb dX9_blockade_4 (by decide) (fun cc4 => ?_) (fun cc4 => ?_)
  · have hm := k_in cc4 hm
    refine lv_aload_n hx hb dX9_blockade_15 rfl (lv_at hl 0 rfl) ?_
    refine va_get (D := D) (ci := 5) (v := .ref hn) (C := RX9) (T := TX9) (N := 4) hx hb hts hinX9 hown hK hP 0 rfl rfl 0 (by decide) fl10 (fun _ h9 => h9) rfl dX9_blockade_16 ?_
    refine lv_iload_n hx hb dX9_blockade_19 rfl (lv_at hl 1 rfl) ?_
    obtain ⟨r2, hc20, hm⟩ := k_bds hm
    have hPc : va_P D vwCl (wG hn c_mover c_phase c_dice c_stake c_cube c_pieces0 c_pieces1 c_score0 c_score1 c_hits0 c_hits1 c_stopped c_stopPart) _ := k_Psub hP [1] rfl
    have hDc : va_D A (wG hn c_mover c_phase c_dice c_stake c_cube c_pieces0 c_pieces1 c_score0 c_score1 c_hits0 c_hits1 c_stopped c_stopPart) := hD.sub [1] (by decide) rfl
    refine k_l_c (Wf := (wX cI cJ cC cG h9 hn ap q ht h0 pa pb pc jk hasS cnt snp G c_mover c_phase c_dice c_stake c_cube c_pieces0 c_pieces1 c_score0 c_score1 c_hits0 c_hits1 c_stopped c_stopPart t_signs t_length)) [1] [0, 2, 3, 4, 5, 6, 7, 8, 9, 10, 11, 12, 13, 14, 15, 16, 17, 18, 19, 20, 21, 22, 23, 24] [0, 24, 1, 2, 3, 4, 5, 6, 7, 8, 9, 10, 11, 12, 13, 14, 15, 16, 17, 18, 19, 20, 21, 22, 23] (k_rV (As := [.int a1]) (rest := []) ⟨hx, hb, hml, hown, hts⟩ hK hN hPc hDc (zX1_piecesOf hc20) (cwV 1 hts gX9_blockade_X1_piecesOf rfl rfl rfl (by decide +kernel) ⟨Nat.le_of_ble_eq_true rfl, Nat.le_of_ble_eq_true rfl⟩) rfl rfl rfl hl.1 rfl (Nat.le_of_ble_eq_true rfl) dX9_blockade_20 ⟨Nat.zero_le _, Nat.zero_le _⟩) hP hD hS hA rfl rfl (by decide) (by decide) rfl (by decide) (fun H locs hP hD hS => ?_)
    obtain ⟨r3, hc23, hm⟩ := k_bds hm
    refine k_i_0 (k_rS (As := [.long r2]) (rest := []) ⟨hx, hb, hml, hown, hts⟩ hK hN k_P0 (k_D0 (A := A)) (zX3_longestWall hc23) (va_cwS 1 hts gX9_blockade_X3_longestWall rfl rfl rfl (by decide +kernel) ⟨Nat.le_of_ble_eq_true rfl, Nat.le_of_ble_eq_true rfl⟩) rfl hl.1 rfl (Nat.le_of_ble_eq_true rfl) dX9_blockade_23 ⟨Nat.zero_le _, Nat.zero_le _⟩) hP hS hA (fun H locs hP hS => ?_)
    cases hm
    exact k_end_iE (q, pa, pb, jk) hx hb hr hlocks hK hP hD hS dX9_blockade_26
  · have hm := k_ip cc4 hm
    cases hm

abbrev rmX9_stake : Room := { frames := 0, cells := 0, slots := 0, locals := 0 }
set_option maxHeartbeats 4000000 in
set_option maxRecDepth 100000 in
theorem zX9_stake {l : Launch} {D : va_G} {cI cJ cC cG : ClassId} {sz : Nat} {h9 hn h0 : Nat} {ap q ht pa pb pc : Nat → Nat} {jk : JT} {hasS : Bool} {cnt : Int32} {snp : GT} {G : Nat → GT} {c_mover : Int32} {c_phase : Int32} {c_dice : Int32} {c_stake : Int32} {c_cube : Int32} {c_pieces0 : Int64} {c_pieces1 : Int64} {c_score0 : Int32} {c_score1 : Int32} {c_hits0 : Int32} {c_hits1 : Int32} {c_stopped : Bool} {c_stopPart : Int32} {t_signs : Nat → Int32} {t_length : Int32} {r : Int32} (hm : mX9_stake c_stake = some (r)) : k_MiE l yX9_stake wsX9_stake rmX9_stake D (kT cI cJ cC cG) sz ([.ref h9] : List Value) (wX cI cJ cC cG h9 hn ap q ht h0 pa pb pc jk hasS cnt snp G c_mover c_phase c_dice c_stake c_cube c_pieces0 c_pieces1 c_score0 c_score1 c_hits0 c_hits1 c_stopped c_stopPart t_signs t_length) (fun u : (Nat → Nat) × (Nat → Nat) × (Nat → Nat) × (JT) => (wX cI cJ cC cG h9 hn ap (u.1) ht h0 (u.2.1) (u.2.2.1) pc (u.2.2.2) hasS cnt snp G c_mover c_phase c_dice c_stake c_cube c_pieces0 c_pieces1 c_score0 c_score1 c_hits0 c_hits1 c_stopped c_stopPart t_signs t_length)) r := by
  refine k_st_iE (cc := cX9_stake) (maxL := 1) (by decide) rfl (Nat.le_of_ble_eq_true rfl) ?_
  intro p e z m below meth c A hx hb hr hml hts hown hlocks hsz hN hA hK hP hD hS ls hl
  have hown : z.vm.findClass RX9 = some m.cls := hown
  have hinX1 : ∀ w ∈ wsX10, w ∈ wsX9_stake := by decide +kernel
  have hinX9 : ∀ w ∈ wsX90, w ∈ wsX9_stake := by decide +kernel
  have fl10 := hts (.fieldLink RX9 10 "MagpieRuns" "now" "LMagpieRuns$Game;") (by decide +kernel)
  have fl122 := hts (.fieldLink RX9 122 "MagpieRuns$Game" "stake" "I") (by decide +kernel)
  have hl : lv_has ls 1 [(0, .ref h9)] := hl
  unfold mX9_stake at hm
  refine lv_aload_n hx hb dX9_stake_0 rfl (lv_at hl 0 rfl) ?_
  refine va_get (D := D) (ci := 5) (v := .ref hn) (C := RX9) (T := TX9) (N := 4) hx hb hts hinX9 hown hK hP 0 rfl rfl 0 (by decide) fl10 (fun _ h9 => h9) rfl dX9_stake_1 ?_
  refine va_get (D := D) (ci := 0) (v := .int c_stake) (C := RX1) (T := TX1) (N := 13) hx hb hts hinX1 hown hK hP 1 rfl rfl 3 (by decide) fl122 (fun _ h9 => h9) rfl dX9_stake_4 ?_
  cases hm
  exact k_end_iE (q, pa, pb, jk) hx hb hr hlocks hK hP hD hS dX9_stake_7

abbrev rmX9_cubeOf : Room := { frames := 0, cells := 0, slots := 0, locals := 0 }
set_option maxHeartbeats 4000000 in
set_option maxRecDepth 100000 in
theorem zX9_cubeOf {l : Launch} {D : va_G} {cI cJ cC cG : ClassId} {sz : Nat} {h9 hn h0 : Nat} {ap q ht pa pb pc : Nat → Nat} {jk : JT} {hasS : Bool} {cnt : Int32} {snp : GT} {G : Nat → GT} {c_mover : Int32} {c_phase : Int32} {c_dice : Int32} {c_stake : Int32} {c_cube : Int32} {c_pieces0 : Int64} {c_pieces1 : Int64} {c_score0 : Int32} {c_score1 : Int32} {c_hits0 : Int32} {c_hits1 : Int32} {c_stopped : Bool} {c_stopPart : Int32} {t_signs : Nat → Int32} {t_length : Int32} {r : Int32} (hm : mX9_cubeOf c_cube = some (r)) : k_MiE l yX9_cubeOf wsX9_cubeOf rmX9_cubeOf D (kT cI cJ cC cG) sz ([.ref h9] : List Value) (wX cI cJ cC cG h9 hn ap q ht h0 pa pb pc jk hasS cnt snp G c_mover c_phase c_dice c_stake c_cube c_pieces0 c_pieces1 c_score0 c_score1 c_hits0 c_hits1 c_stopped c_stopPart t_signs t_length) (fun u : (Nat → Nat) × (Nat → Nat) × (Nat → Nat) × (JT) => (wX cI cJ cC cG h9 hn ap (u.1) ht h0 (u.2.1) (u.2.2.1) pc (u.2.2.2) hasS cnt snp G c_mover c_phase c_dice c_stake c_cube c_pieces0 c_pieces1 c_score0 c_score1 c_hits0 c_hits1 c_stopped c_stopPart t_signs t_length)) r := by
  refine k_st_iE (cc := cX9_cubeOf) (maxL := 1) (by decide) rfl (Nat.le_of_ble_eq_true rfl) ?_
  intro p e z m below meth c A hx hb hr hml hts hown hlocks hsz hN hA hK hP hD hS ls hl
  have hown : z.vm.findClass RX9 = some m.cls := hown
  have hinX1 : ∀ w ∈ wsX10, w ∈ wsX9_cubeOf := by decide +kernel
  have hinX9 : ∀ w ∈ wsX90, w ∈ wsX9_cubeOf := by decide +kernel
  have fl10 := hts (.fieldLink RX9 10 "MagpieRuns" "now" "LMagpieRuns$Game;") (by decide +kernel)
  have fl219 := hts (.fieldLink RX9 219 "MagpieRuns$Game" "cube" "I") (by decide +kernel)
  have hl : lv_has ls 1 [(0, .ref h9)] := hl
  unfold mX9_cubeOf at hm
  refine lv_aload_n hx hb dX9_cubeOf_0 rfl (lv_at hl 0 rfl) ?_
  refine va_get (D := D) (ci := 5) (v := .ref hn) (C := RX9) (T := TX9) (N := 4) hx hb hts hinX9 hown hK hP 0 rfl rfl 0 (by decide) fl10 (fun _ h9 => h9) rfl dX9_cubeOf_1 ?_
  refine va_get (D := D) (ci := 0) (v := .int c_cube) (C := RX1) (T := TX1) (N := 13) hx hb hts hinX1 hown hK hP 1 rfl rfl 4 (by decide) fl219 (fun _ h9 => h9) rfl dX9_cubeOf_4 ?_
  cases hm
  exact k_end_iE (q, pa, pb, jk) hx hb hr hlocks hK hP hD hS dX9_cubeOf_7

abbrev rmX9_score : Room := { frames := 1, cells := 0, slots := 0, locals := 21 }
set_option maxHeartbeats 4000000 in
set_option maxRecDepth 100000 in
theorem zX9_score {l : Launch} {D : va_G} {cI cJ cC cG : ClassId} {sz : Nat} {h9 hn h0 : Nat} {ap q ht pa pb pc : Nat → Nat} {jk : JT} {hasS : Bool} {cnt : Int32} {snp : GT} {G : Nat → GT} {c_mover : Int32} {c_phase : Int32} {c_dice : Int32} {c_stake : Int32} {c_cube : Int32} {c_pieces0 : Int64} {c_pieces1 : Int64} {c_score0 : Int32} {c_score1 : Int32} {c_hits0 : Int32} {c_hits1 : Int32} {c_stopped : Bool} {c_stopPart : Int32} {t_signs : Nat → Int32} {t_length : Int32} {a1 : Int32} {r : Int32} (hm : mX9_score c_score0 c_score1 a1 = some (r)) : k_MiE l yX9_score wsX9_score rmX9_score D (kT cI cJ cC cG) sz ([.ref h9, .int a1] : List Value) (wX cI cJ cC cG h9 hn ap q ht h0 pa pb pc jk hasS cnt snp G c_mover c_phase c_dice c_stake c_cube c_pieces0 c_pieces1 c_score0 c_score1 c_hits0 c_hits1 c_stopped c_stopPart t_signs t_length) (fun u : (Nat → Nat) × (Nat → Nat) × (Nat → Nat) × (JT) => (wX cI cJ cC cG h9 hn ap (u.1) ht h0 (u.2.1) (u.2.2.1) pc (u.2.2.2) hasS cnt snp G c_mover c_phase c_dice c_stake c_cube c_pieces0 c_pieces1 c_score0 c_score1 c_hits0 c_hits1 c_stopped c_stopPart t_signs t_length)) r := by
  refine k_st_iE (cc := cX9_score) (maxL := 2) (by decide) rfl (Nat.le_of_ble_eq_true rfl) ?_
  intro p e z m below meth c A hx hb hr hml hts hown hlocks hsz hN hA hK hP hD hS ls hl
  have hown : z.vm.findClass RX9 = some m.cls := hown
  have hinX9 : ∀ w ∈ wsX90, w ∈ wsX9_score := by decide +kernel
  have fl10 := hts (.fieldLink RX9 10 "MagpieRuns" "now" "LMagpieRuns$Game;") (by decide +kernel)
  have hl : lv_has ls 2 [(0, .ref h9), (1, .int a1)] := hl
  unfold mX9_score at hm
  refine lv_iload_n hx hb dX9_score_0 rfl (lv_at hl 1 rfl) ?_
  obtain ⟨r1, hc1, hm⟩ := k_bds hm
  refine k_i_0 (k_rS (As := [.int a1]) (rest := []) ⟨hx, hb, hml, hown, hts⟩ hK hN k_P0 (k_D0 (A := A)) (zX9_isPlayer hc1) (va_cwS 1 hts gX9_score_X9_isPlayer rfl rfl rfl (by decide +kernel) ⟨Nat.le_of_ble_eq_true rfl, Nat.le_of_ble_eq_true rfl⟩) rfl hl.1 rfl (Nat.le_of_ble_eq_true rfl) dX9_score_1 ⟨Nat.zero_le _, Nat.zero_le _⟩) hP hS hA (fun H locs hP hS => ?_)
  refine lv_if_ne (tgt := 15) hx hb dX9_score_4 (by decide) (fun cc4 => ?_) (fun cc4 => ?_)
  · have hm := k_in cc4 hm
    refine lv_aload_n hx hb dX9_score_15 rfl (lv_at hl 0 rfl) ?_
    refine va_get (D := D) (ci := 5) (v := .ref hn) (C := RX9) (T := TX9) (N := 4) hx hb hts hinX9 hown hK hP 0 rfl rfl 0 (by decide) fl10 (fun _ h9 => h9) rfl dX9_score_16 ?_
    refine lv_iload_n hx hb dX9_score_19 rfl (lv_at hl 1 rfl) ?_
    obtain ⟨r2, hc20, hm⟩ := k_bds hm
    have hPc : va_P D vwCl (wG hn c_mover c_phase c_dice c_stake c_cube c_pieces0 c_pieces1 c_score0 c_score1 c_hits0 c_hits1 c_stopped c_stopPart) _ := k_Psub hP [1] rfl
    have hDc : va_D A (wG hn c_mover c_phase c_dice c_stake c_cube c_pieces0 c_pieces1 c_score0 c_score1 c_hits0 c_hits1 c_stopped c_stopPart) := hD.sub [1] (by decide) rfl
    refine k_i_c (Wf := (wX cI cJ cC cG h9 hn ap q ht h0 pa pb pc jk hasS cnt snp G c_mover c_phase c_dice c_stake c_cube c_pieces0 c_pieces1 c_score0 c_score1 c_hits0 c_hits1 c_stopped c_stopPart t_signs t_length)) [1] [0, 2, 3, 4, 5, 6, 7, 8, 9, 10, 11, 12, 13, 14, 15, 16, 17, 18, 19, 20, 21, 22, 23, 24] [0, 24, 1, 2, 3, 4, 5, 6, 7, 8, 9, 10, 11, 12, 13, 14, 15, 16, 17, 18, 19, 20, 21, 22, 23] (k_rV (As := [.int a1]) (rest := []) ⟨hx, hb, hml, hown, hts⟩ hK hN hPc hDc (zX1_scoreOf hc20) (cwV 1 hts gX9_score_X1_scoreOf rfl rfl rfl (by decide +kernel) ⟨Nat.le_of_ble_eq_true rfl, Nat.le_of_ble_eq_true rfl⟩) rfl rfl rfl hl.1 rfl (Nat.le_of_ble_eq_true rfl) dX9_score_20 ⟨Nat.zero_le _, Nat.zero_le _⟩) hP hD hS hA rfl rfl (by decide) (by decide) rfl (by decide) (fun H locs hP hD hS => ?_)
    cases hm
    exact k_end_iE (q, pa, pb, jk) hx hb hr hlocks hK hP hD hS dX9_score_23
  · have hm := k_ip cc4 hm
    cases hm

abbrev rmX9_hits : Room := { frames := 1, cells := 0, slots := 0, locals := 21 }
set_option maxHeartbeats 4000000 in
set_option maxRecDepth 100000 in
theorem zX9_hits {l : Launch} {D : va_G} {cI cJ cC cG : ClassId} {sz : Nat} {h9 hn h0 : Nat} {ap q ht pa pb pc : Nat → Nat} {jk : JT} {hasS : Bool} {cnt : Int32} {snp : GT} {G : Nat → GT} {c_mover : Int32} {c_phase : Int32} {c_dice : Int32} {c_stake : Int32} {c_cube : Int32} {c_pieces0 : Int64} {c_pieces1 : Int64} {c_score0 : Int32} {c_score1 : Int32} {c_hits0 : Int32} {c_hits1 : Int32} {c_stopped : Bool} {c_stopPart : Int32} {t_signs : Nat → Int32} {t_length : Int32} {a1 : Int32} {r : Int32} (hm : mX9_hits c_hits0 c_hits1 a1 = some (r)) : k_MiE l yX9_hits wsX9_hits rmX9_hits D (kT cI cJ cC cG) sz ([.ref h9, .int a1] : List Value) (wX cI cJ cC cG h9 hn ap q ht h0 pa pb pc jk hasS cnt snp G c_mover c_phase c_dice c_stake c_cube c_pieces0 c_pieces1 c_score0 c_score1 c_hits0 c_hits1 c_stopped c_stopPart t_signs t_length) (fun u : (Nat → Nat) × (Nat → Nat) × (Nat → Nat) × (JT) => (wX cI cJ cC cG h9 hn ap (u.1) ht h0 (u.2.1) (u.2.2.1) pc (u.2.2.2) hasS cnt snp G c_mover c_phase c_dice c_stake c_cube c_pieces0 c_pieces1 c_score0 c_score1 c_hits0 c_hits1 c_stopped c_stopPart t_signs t_length)) r := by
  refine k_st_iE (cc := cX9_hits) (maxL := 2) (by decide) rfl (Nat.le_of_ble_eq_true rfl) ?_
  intro p e z m below meth c A hx hb hr hml hts hown hlocks hsz hN hA hK hP hD hS ls hl
  have hown : z.vm.findClass RX9 = some m.cls := hown
  have hinX9 : ∀ w ∈ wsX90, w ∈ wsX9_hits := by decide +kernel
  have fl10 := hts (.fieldLink RX9 10 "MagpieRuns" "now" "LMagpieRuns$Game;") (by decide +kernel)
  have hl : lv_has ls 2 [(0, .ref h9), (1, .int a1)] := hl
  unfold mX9_hits at hm
  refine lv_iload_n hx hb dX9_hits_0 rfl (lv_at hl 1 rfl) ?_
  obtain ⟨r1, hc1, hm⟩ := k_bds hm
  refine k_i_0 (k_rS (As := [.int a1]) (rest := []) ⟨hx, hb, hml, hown, hts⟩ hK hN k_P0 (k_D0 (A := A)) (zX9_isPlayer hc1) (va_cwS 1 hts gX9_hits_X9_isPlayer rfl rfl rfl (by decide +kernel) ⟨Nat.le_of_ble_eq_true rfl, Nat.le_of_ble_eq_true rfl⟩) rfl hl.1 rfl (Nat.le_of_ble_eq_true rfl) dX9_hits_1 ⟨Nat.zero_le _, Nat.zero_le _⟩) hP hS hA (fun H locs hP hS => ?_)
  refine lv_if_ne (tgt := 15) hx hb dX9_hits_4 (by decide) (fun cc4 => ?_) (fun cc4 => ?_)
  · have hm := k_in cc4 hm
    refine lv_aload_n hx hb dX9_hits_15 rfl (lv_at hl 0 rfl) ?_
    refine va_get (D := D) (ci := 5) (v := .ref hn) (C := RX9) (T := TX9) (N := 4) hx hb hts hinX9 hown hK hP 0 rfl rfl 0 (by decide) fl10 (fun _ h9 => h9) rfl dX9_hits_16 ?_
    refine lv_iload_n hx hb dX9_hits_19 rfl (lv_at hl 1 rfl) ?_
    obtain ⟨r2, hc20, hm⟩ := k_bds hm
    have hPc : va_P D vwCl (wG hn c_mover c_phase c_dice c_stake c_cube c_pieces0 c_pieces1 c_score0 c_score1 c_hits0 c_hits1 c_stopped c_stopPart) _ := k_Psub hP [1] rfl
    have hDc : va_D A (wG hn c_mover c_phase c_dice c_stake c_cube c_pieces0 c_pieces1 c_score0 c_score1 c_hits0 c_hits1 c_stopped c_stopPart) := hD.sub [1] (by decide) rfl
    refine k_i_c (Wf := (wX cI cJ cC cG h9 hn ap q ht h0 pa pb pc jk hasS cnt snp G c_mover c_phase c_dice c_stake c_cube c_pieces0 c_pieces1 c_score0 c_score1 c_hits0 c_hits1 c_stopped c_stopPart t_signs t_length)) [1] [0, 2, 3, 4, 5, 6, 7, 8, 9, 10, 11, 12, 13, 14, 15, 16, 17, 18, 19, 20, 21, 22, 23, 24] [0, 24, 1, 2, 3, 4, 5, 6, 7, 8, 9, 10, 11, 12, 13, 14, 15, 16, 17, 18, 19, 20, 21, 22, 23] (k_rV (As := [.int a1]) (rest := []) ⟨hx, hb, hml, hown, hts⟩ hK hN hPc hDc (zX1_hitsOf hc20) (cwV 1 hts gX9_hits_X1_hitsOf rfl rfl rfl (by decide +kernel) ⟨Nat.le_of_ble_eq_true rfl, Nat.le_of_ble_eq_true rfl⟩) rfl rfl rfl hl.1 rfl (Nat.le_of_ble_eq_true rfl) dX9_hits_20 ⟨Nat.zero_le _, Nat.zero_le _⟩) hP hD hS hA rfl rfl (by decide) (by decide) rfl (by decide) (fun H locs hP hD hS => ?_)
    cases hm
    exact k_end_iE (q, pa, pb, jk) hx hb hr hlocks hK hP hD hS dX9_hits_23
  · have hm := k_ip cc4 hm
    cases hm

abbrev rmX9_whyNoStep : Room := { frames := 12, cells := 0, slots := 0, locals := 364 }
set_option maxHeartbeats 4000000 in
set_option maxRecDepth 100000 in
theorem zX9_whyNoStep {l : Launch} {D : va_G} {cI cJ cC cG : ClassId} {sz : Nat} {h9 hn h0 : Nat} {ap q ht pa pb pc : Nat → Nat} {jk : JT} {hasS : Bool} {cnt : Int32} {snp : GT} {G : Nat → GT} {c_mover : Int32} {c_phase : Int32} {c_dice : Int32} {c_stake : Int32} {c_cube : Int32} {c_pieces0 : Int64} {c_pieces1 : Int64} {c_score0 : Int32} {c_score1 : Int32} {c_hits0 : Int32} {c_hits1 : Int32} {c_stopped : Bool} {c_stopPart : Int32} {t_signs : Nat → Int32} {t_length : Int32} {a1 : Int32} {a2 : Int32} {r : Int32} (hm : mX9_whyNoStep c_mover c_dice c_pieces0 c_pieces1 a1 a2 = some (r)) : k_MiE l yX9_whyNoStep wsX9_whyNoStep rmX9_whyNoStep D (kT cI cJ cC cG) sz ([.ref h9, .int a1, .int a2] : List Value) (wX cI cJ cC cG h9 hn ap q ht h0 pa pb pc jk hasS cnt snp G c_mover c_phase c_dice c_stake c_cube c_pieces0 c_pieces1 c_score0 c_score1 c_hits0 c_hits1 c_stopped c_stopPart t_signs t_length) (fun u : (Nat → Nat) × (Nat → Nat) × (Nat → Nat) × (JT) => (wX cI cJ cC cG h9 hn ap (u.1) ht h0 (u.2.1) (u.2.2.1) pc (u.2.2.2) hasS cnt snp G c_mover c_phase c_dice c_stake c_cube c_pieces0 c_pieces1 c_score0 c_score1 c_hits0 c_hits1 c_stopped c_stopPart t_signs t_length)) r := by
  refine k_st_iE (cc := cX9_whyNoStep) (maxL := 3) (by decide) rfl (Nat.le_of_ble_eq_true rfl) ?_
  intro p e z m below meth c A hx hb hr hml hts hown hlocks hsz hN hA hK hP hD hS ls hl
  have hown : z.vm.findClass RX9 = some m.cls := hown
  have hinX9 : ∀ w ∈ wsX90, w ∈ wsX9_whyNoStep := by decide +kernel
  have fl10 := hts (.fieldLink RX9 10 "MagpieRuns" "now" "LMagpieRuns$Game;") (by decide +kernel)
  have hl : lv_has ls 3 [(0, .ref h9), (1, .int a1), (2, .int a2)] := hl
  unfold mX9_whyNoStep at hm
  refine lv_iload_n hx hb dX9_whyNoStep_0 rfl (lv_at hl 1 rfl) ?_
  obtain ⟨r1, hc1, hm⟩ := k_bds hm
  refine k_i_0 (k_rS (As := [.int a1]) (rest := []) ⟨hx, hb, hml, hown, hts⟩ hK hN k_P0 (k_D0 (A := A)) (zX9_isPointOrBar hc1) (va_cwS 1 hts gX9_whyNoStep_X9_isPointOrBar rfl rfl rfl (by decide +kernel) ⟨Nat.le_of_ble_eq_true rfl, Nat.le_of_ble_eq_true rfl⟩) rfl hl.1 rfl (Nat.le_of_ble_eq_true rfl) dX9_whyNoStep_1 ⟨Nat.zero_le _, Nat.zero_le _⟩) hP hS hA (fun H locs hP hS => ?_)
  refine lv_if_ne (tgt := 15) hx hb dX9_whyNoStep_4 (by decide) (fun cc4 => ?_) (fun cc4 => ?_)
  · have hm := k_in cc4 hm
    refine lv_iload_n hx hb dX9_whyNoStep_15 rfl (lv_at hl 2 rfl) ?_
    obtain ⟨r2, hc16, hm⟩ := k_bds hm
    refine k_i_0 (k_rS (As := [.int a2]) (rest := []) ⟨hx, hb, hml, hown, hts⟩ hK hN k_P0 (k_D0 (A := A)) (zX0_isDie hc16) (va_cwS 1 hts gX9_whyNoStep_X0_isDie rfl rfl rfl (by decide +kernel) ⟨Nat.le_of_ble_eq_true rfl, Nat.le_of_ble_eq_true rfl⟩) rfl hl.1 rfl (Nat.le_of_ble_eq_true rfl) dX9_whyNoStep_16 ⟨Nat.zero_le _, Nat.zero_le _⟩) hP hS hA (fun H locs hP hS => ?_)
    refine lv_if_ne (tgt := 30) hx hb dX9_whyNoStep_19 (by decide) (fun cc19 => ?_) (fun cc19 => ?_)
    · have hm := k_in cc19 hm
      refine lv_aload_n hx hb dX9_whyNoStep_30 rfl (lv_at hl 0 rfl) ?_
      refine va_get (D := D) (ci := 5) (v := .ref hn) (C := RX9) (T := TX9) (N := 4) hx hb hts hinX9 hown hK hP 0 rfl rfl 0 (by decide) fl10 (fun _ h9 => h9) rfl dX9_whyNoStep_31 ?_
      refine lv_iload_n hx hb dX9_whyNoStep_34 rfl (lv_at hl 1 rfl) ?_
      refine lv_iload_n hx hb dX9_whyNoStep_35 rfl (lv_at hl 2 rfl) ?_
      obtain ⟨r3, hc36, hm⟩ := k_bds hm
      have hPc : va_P D vwCl (wG hn c_mover c_phase c_dice c_stake c_cube c_pieces0 c_pieces1 c_score0 c_score1 c_hits0 c_hits1 c_stopped c_stopPart) _ := k_Psub hP [1] rfl
      have hDc : va_D A (wG hn c_mover c_phase c_dice c_stake c_cube c_pieces0 c_pieces1 c_score0 c_score1 c_hits0 c_hits1 c_stopped c_stopPart) := hD.sub [1] (by decide) rfl
      refine k_i_c (Wf := (wX cI cJ cC cG h9 hn ap q ht h0 pa pb pc jk hasS cnt snp G c_mover c_phase c_dice c_stake c_cube c_pieces0 c_pieces1 c_score0 c_score1 c_hits0 c_hits1 c_stopped c_stopPart t_signs t_length)) [1] [0, 2, 3, 4, 5, 6, 7, 8, 9, 10, 11, 12, 13, 14, 15, 16, 17, 18, 19, 20, 21, 22, 23, 24] [0, 24, 1, 2, 3, 4, 5, 6, 7, 8, 9, 10, 11, 12, 13, 14, 15, 16, 17, 18, 19, 20, 21, 22, 23] (k_rV (As := [.int a1, .int a2]) (rest := []) ⟨hx, hb, hml, hown, hts⟩ hK hN hPc hDc (zX1_reasonAgainst hc36) (cwV 2 hts gX9_whyNoStep_X1_reasonAgainst rfl rfl rfl (by decide +kernel) ⟨Nat.le_of_ble_eq_true rfl, Nat.le_of_ble_eq_true rfl⟩) rfl rfl rfl hl.1 rfl (Nat.le_of_ble_eq_true rfl) dX9_whyNoStep_36 ⟨Nat.zero_le _, Nat.zero_le _⟩) hP hD hS hA rfl rfl (by decide) (by decide) rfl (by decide) (fun H locs hP hD hS => ?_)
      cases hm
      exact k_end_iE (q, pa, pb, jk) hx hb hr hlocks hK hP hD hS dX9_whyNoStep_39
    · have hm := k_ip cc19 hm
      cases hm
  · have hm := k_ip cc4 hm
    cases hm

abbrev rmX9_possibleSteps : Room := { frames := 12, cells := 0, slots := 0, locals := 371 }
set_option maxHeartbeats 4000000 in
set_option maxRecDepth 100000 in
theorem zX9_possibleSteps {l : Launch} {D : va_G} {cI cJ cC cG : ClassId} {sz : Nat} {h9 hn h0 : Nat} {ap q ht pa pb pc : Nat → Nat} {jk : JT} {hasS : Bool} {cnt : Int32} {snp : GT} {G : Nat → GT} {c_mover : Int32} {c_phase : Int32} {c_dice : Int32} {c_stake : Int32} {c_cube : Int32} {c_pieces0 : Int64} {c_pieces1 : Int64} {c_score0 : Int32} {c_score1 : Int32} {c_hits0 : Int32} {c_hits1 : Int32} {c_stopped : Bool} {c_stopPart : Int32} {t_signs : Nat → Int32} {t_length : Int32} {r : Int32} (hm : mX9_possibleSteps c_mover c_dice c_pieces0 c_pieces1 = some (r)) : k_MiE l yX9_possibleSteps wsX9_possibleSteps rmX9_possibleSteps D (kT cI cJ cC cG) sz ([.ref h9] : List Value) (wX cI cJ cC cG h9 hn ap q ht h0 pa pb pc jk hasS cnt snp G c_mover c_phase c_dice c_stake c_cube c_pieces0 c_pieces1 c_score0 c_score1 c_hits0 c_hits1 c_stopped c_stopPart t_signs t_length) (fun u : (Nat → Nat) × (Nat → Nat) × (Nat → Nat) × (JT) => (wX cI cJ cC cG h9 hn ap (u.1) ht h0 (u.2.1) (u.2.2.1) pc (u.2.2.2) hasS cnt snp G c_mover c_phase c_dice c_stake c_cube c_pieces0 c_pieces1 c_score0 c_score1 c_hits0 c_hits1 c_stopped c_stopPart t_signs t_length)) r := by
  refine k_st_iE (cc := cX9_possibleSteps) (maxL := 1) (by decide) rfl (Nat.le_of_ble_eq_true rfl) ?_
  intro p e z m below meth c A hx hb hr hml hts hown hlocks hsz hN hA hK hP hD hS ls hl
  have hown : z.vm.findClass RX9 = some m.cls := hown
  have hinX1 : ∀ w ∈ wsX10, w ∈ wsX9_possibleSteps := by decide +kernel
  have hinX9 : ∀ w ∈ wsX90, w ∈ wsX9_possibleSteps := by decide +kernel
  have fl10 := hts (.fieldLink RX9 10 "MagpieRuns" "now" "LMagpieRuns$Game;") (by decide +kernel)
  have fl61 := hts (.fieldLink RX9 61 "MagpieRuns$Game" "dice" "I") (by decide +kernel)
  have hl : lv_has ls 1 [(0, .ref h9)] := hl
  unfold mX9_possibleSteps at hm
  refine lv_aload_n hx hb dX9_possibleSteps_0 rfl (lv_at hl 0 rfl) ?_
  refine va_get (D := D) (ci := 5) (v := .ref hn) (C := RX9) (T := TX9) (N := 4) hx hb hts hinX9 hown hK hP 0 rfl rfl 0 (by decide) fl10 (fun _ h9 => h9) rfl dX9_possibleSteps_1 ?_
  obtain ⟨r1, hc4, hm⟩ := k_bds hm
  have hPc : va_P D vwCl (wG hn c_mover c_phase c_dice c_stake c_cube c_pieces0 c_pieces1 c_score0 c_score1 c_hits0 c_hits1 c_stopped c_stopPart) _ := k_Psub hP [1] rfl
  have hDc : va_D A (wG hn c_mover c_phase c_dice c_stake c_cube c_pieces0 c_pieces1 c_score0 c_score1 c_hits0 c_hits1 c_stopped c_stopPart) := hD.sub [1] (by decide) rfl
  refine k_l_c (Wf := (wX cI cJ cC cG h9 hn ap q ht h0 pa pb pc jk hasS cnt snp G c_mover c_phase c_dice c_stake c_cube c_pieces0 c_pieces1 c_score0 c_score1 c_hits0 c_hits1 c_stopped c_stopPart t_signs t_length)) [1] [0, 2, 3, 4, 5, 6, 7, 8, 9, 10, 11, 12, 13, 14, 15, 16, 17, 18, 19, 20, 21, 22, 23, 24] [0, 24, 1, 2, 3, 4, 5, 6, 7, 8, 9, 10, 11, 12, 13, 14, 15, 16, 17, 18, 19, 20, 21, 22, 23] (k_rV (As := []) (rest := []) ⟨hx, hb, hml, hown, hts⟩ hK hN hPc hDc (zX1_moversPieces hc4) (cwV 0 hts gX9_possibleSteps_X1_moversPieces rfl rfl rfl (by decide +kernel) ⟨Nat.le_of_ble_eq_true rfl, Nat.le_of_ble_eq_true rfl⟩) rfl rfl rfl hl.1 rfl (Nat.le_of_ble_eq_true rfl) dX9_possibleSteps_4 ⟨Nat.zero_le _, Nat.zero_le _⟩) hP hD hS hA rfl rfl (by decide) (by decide) rfl (by decide) (fun H locs hP hD hS => ?_)
  refine lv_aload_n hx hb dX9_possibleSteps_7 rfl (lv_at hl 0 rfl) ?_
  refine va_get (D := D) (ci := 5) (v := .ref hn) (C := RX9) (T := TX9) (N := 4) hx hb hts hinX9 hown hK hP 0 rfl rfl 0 (by decide) fl10 (fun _ h9 => h9) rfl dX9_possibleSteps_8 ?_
  obtain ⟨r2, hc11, hm⟩ := k_bds hm
  have hPc : va_P D vwCl (wG hn c_mover c_phase c_dice c_stake c_cube c_pieces0 c_pieces1 c_score0 c_score1 c_hits0 c_hits1 c_stopped c_stopPart) _ := k_Psub hP [1] rfl
  have hDc : va_D A (wG hn c_mover c_phase c_dice c_stake c_cube c_pieces0 c_pieces1 c_score0 c_score1 c_hits0 c_hits1 c_stopped c_stopPart) := hD.sub [1] (by decide) rfl
  refine k_l_c (Wf := (wX cI cJ cC cG h9 hn ap q ht h0 pa pb pc jk hasS cnt snp G c_mover c_phase c_dice c_stake c_cube c_pieces0 c_pieces1 c_score0 c_score1 c_hits0 c_hits1 c_stopped c_stopPart t_signs t_length)) [1] [0, 2, 3, 4, 5, 6, 7, 8, 9, 10, 11, 12, 13, 14, 15, 16, 17, 18, 19, 20, 21, 22, 23, 24] [0, 24, 1, 2, 3, 4, 5, 6, 7, 8, 9, 10, 11, 12, 13, 14, 15, 16, 17, 18, 19, 20, 21, 22, 23] (k_rV (As := []) (rest := [.long r1]) ⟨hx, hb, hml, hown, hts⟩ hK hN hPc hDc (zX1_othersPieces hc11) (cwV 0 hts gX9_possibleSteps_X1_othersPieces rfl rfl rfl (by decide +kernel) ⟨Nat.le_of_ble_eq_true rfl, Nat.le_of_ble_eq_true rfl⟩) rfl rfl rfl hl.1 rfl (Nat.le_of_ble_eq_true rfl) dX9_possibleSteps_11 ⟨Nat.zero_le _, Nat.zero_le _⟩) hP hD hS hA rfl rfl (by decide) (by decide) rfl (by decide) (fun H locs hP hD hS => ?_)
  refine lv_aload_n hx hb dX9_possibleSteps_14 rfl (lv_at hl 0 rfl) ?_
  refine va_get (D := D) (ci := 5) (v := .ref hn) (C := RX9) (T := TX9) (N := 4) hx hb hts hinX9 hown hK hP 0 rfl rfl 0 (by decide) fl10 (fun _ h9 => h9) rfl dX9_possibleSteps_15 ?_
  refine va_get (D := D) (ci := 0) (v := .int c_dice) (C := RX1) (T := TX1) (N := 13) hx hb hts hinX1 hown hK hP 1 rfl rfl 2 (by decide) fl61 (fun _ h9 => h9) rfl dX9_possibleSteps_18 ?_
  obtain ⟨r3, hc21, hm⟩ := k_bds hm
  refine k_i_0 (k_rS (As := [.long r1, .long r2, .int c_dice]) (rest := []) ⟨hx, hb, hml, hown, hts⟩ hK hN k_P0 (k_D0 (A := A)) (zX7_countPossible hc21) (va_cwS 3 hts gX9_possibleSteps_X7_countPossible rfl rfl rfl (by decide +kernel) ⟨Nat.le_of_ble_eq_true rfl, Nat.le_of_ble_eq_true rfl⟩) rfl hl.1 rfl (Nat.le_of_ble_eq_true rfl) dX9_possibleSteps_21 ⟨Nat.zero_le _, Nat.zero_le _⟩) hP hS hA (fun H locs hP hS => ?_)
  cases hm
  exact k_end_iE (q, pa, pb, jk) hx hb hr hlocks hK hP hD hS dX9_possibleSteps_24

abbrev rmX9_reach : Room := { frames := 11, cells := 0, slots := 0, locals := 332 }
set_option maxHeartbeats 4000000 in
set_option maxRecDepth 100000 in
theorem zX9_reach {l : Launch} {D : va_G} {cI cJ cC cG : ClassId} {sz : Nat} {h9 hn h0 : Nat} {ap q ht pa pb pc : Nat → Nat} {jk : JT} {hasS : Bool} {cnt : Int32} {snp : GT} {G : Nat → GT} {c_mover : Int32} {c_phase : Int32} {c_dice : Int32} {c_stake : Int32} {c_cube : Int32} {c_pieces0 : Int64} {c_pieces1 : Int64} {c_score0 : Int32} {c_score1 : Int32} {c_hits0 : Int32} {c_hits1 : Int32} {c_stopped : Bool} {c_stopPart : Int32} {t_signs : Nat → Int32} {t_length : Int32} {r : Int32} (hm : mX9_reach c_mover c_dice c_pieces0 c_pieces1 = some (r)) : k_MiE l yX9_reach wsX9_reach rmX9_reach D (kT cI cJ cC cG) sz ([.ref h9] : List Value) (wX cI cJ cC cG h9 hn ap q ht h0 pa pb pc jk hasS cnt snp G c_mover c_phase c_dice c_stake c_cube c_pieces0 c_pieces1 c_score0 c_score1 c_hits0 c_hits1 c_stopped c_stopPart t_signs t_length) (fun u : (Nat → Nat) × (Nat → Nat) × (Nat → Nat) × (JT) => (wX cI cJ cC cG h9 hn ap (u.1) ht h0 (u.2.1) (u.2.2.1) pc (u.2.2.2) hasS cnt snp G c_mover c_phase c_dice c_stake c_cube c_pieces0 c_pieces1 c_score0 c_score1 c_hits0 c_hits1 c_stopped c_stopPart t_signs t_length)) r := by
  refine k_st_iE (cc := cX9_reach) (maxL := 1) (by decide) rfl (Nat.le_of_ble_eq_true rfl) ?_
  intro p e z m below meth c A hx hb hr hml hts hown hlocks hsz hN hA hK hP hD hS ls hl
  have hown : z.vm.findClass RX9 = some m.cls := hown
  have hinX9 : ∀ w ∈ wsX90, w ∈ wsX9_reach := by decide +kernel
  have fl10 := hts (.fieldLink RX9 10 "MagpieRuns" "now" "LMagpieRuns$Game;") (by decide +kernel)
  have hl : lv_has ls 1 [(0, .ref h9)] := hl
  unfold mX9_reach at hm
  refine lv_aload_n hx hb dX9_reach_0 rfl (lv_at hl 0 rfl) ?_
  refine va_get (D := D) (ci := 5) (v := .ref hn) (C := RX9) (T := TX9) (N := 4) hx hb hts hinX9 hown hK hP 0 rfl rfl 0 (by decide) fl10 (fun _ h9 => h9) rfl dX9_reach_1 ?_
  obtain ⟨r1, hc4, hm⟩ := k_bds hm
  have hPc : va_P D vwCl (wG hn c_mover c_phase c_dice c_stake c_cube c_pieces0 c_pieces1 c_score0 c_score1 c_hits0 c_hits1 c_stopped c_stopPart) _ := k_Psub hP [1] rfl
  have hDc : va_D A (wG hn c_mover c_phase c_dice c_stake c_cube c_pieces0 c_pieces1 c_score0 c_score1 c_hits0 c_hits1 c_stopped c_stopPart) := hD.sub [1] (by decide) rfl
  refine k_i_c (Wf := (wX cI cJ cC cG h9 hn ap q ht h0 pa pb pc jk hasS cnt snp G c_mover c_phase c_dice c_stake c_cube c_pieces0 c_pieces1 c_score0 c_score1 c_hits0 c_hits1 c_stopped c_stopPart t_signs t_length)) [1] [0, 2, 3, 4, 5, 6, 7, 8, 9, 10, 11, 12, 13, 14, 15, 16, 17, 18, 19, 20, 21, 22, 23, 24] [0, 24, 1, 2, 3, 4, 5, 6, 7, 8, 9, 10, 11, 12, 13, 14, 15, 16, 17, 18, 19, 20, 21, 22, 23] (k_rV (As := []) (rest := []) ⟨hx, hb, hml, hown, hts⟩ hK hN hPc hDc (zX1_reachNow hc4) (cwV 0 hts gX9_reach_X1_reachNow rfl rfl rfl (by decide +kernel) ⟨Nat.le_of_ble_eq_true rfl, Nat.le_of_ble_eq_true rfl⟩) rfl rfl rfl hl.1 rfl (Nat.le_of_ble_eq_true rfl) dX9_reach_4 ⟨Nat.zero_le _, Nat.zero_le _⟩) hP hD hS hA rfl rfl (by decide) (by decide) rfl (by decide) (fun H locs hP hD hS => ?_)
  cases hm
  exact k_end_iE (q, pa, pb, jk) hx hb hr hlocks hK hP hD hS dX9_reach_7

abbrev rmX9_plays : Room := { frames := 15, cells := 0, slots := 0, locals := 529 }
set_option maxHeartbeats 4000000 in
set_option maxRecDepth 100000 in
theorem zX9_plays {l : Launch} {D : va_G} {cI cJ cC cG : ClassId} {sz : Nat} {h9 hn h0 : Nat} {ap q ht pa pb pc : Nat → Nat} {jk : JT} {hasS : Bool} {cnt : Int32} {snp : GT} {G : Nat → GT} {c_mover : Int32} {c_phase : Int32} {c_dice : Int32} {c_stake : Int32} {c_cube : Int32} {c_pieces0 : Int64} {c_pieces1 : Int64} {c_score0 : Int32} {c_score1 : Int32} {c_hits0 : Int32} {c_hits1 : Int32} {c_stopped : Bool} {c_stopPart : Int32} {t_signs : Nat → Int32} {t_length : Int32} {r : Int32} (hm : mX9_plays c_mover c_dice c_pieces0 c_pieces1 = some (r)) : k_MiE l yX9_plays wsX9_plays rmX9_plays D (kT cI cJ cC cG) sz ([.ref h9] : List Value) (wX cI cJ cC cG h9 hn ap q ht h0 pa pb pc jk hasS cnt snp G c_mover c_phase c_dice c_stake c_cube c_pieces0 c_pieces1 c_score0 c_score1 c_hits0 c_hits1 c_stopped c_stopPart t_signs t_length) (fun u : (Nat → Nat) × (Nat → Nat) × (Nat → Nat) × (JT) => (wX cI cJ cC cG h9 hn ap (u.1) ht h0 (u.2.1) (u.2.2.1) pc (u.2.2.2) hasS cnt snp G c_mover c_phase c_dice c_stake c_cube c_pieces0 c_pieces1 c_score0 c_score1 c_hits0 c_hits1 c_stopped c_stopPart t_signs t_length)) r := by
  refine k_st_iE (cc := cX9_plays) (maxL := 1) (by decide) rfl (Nat.le_of_ble_eq_true rfl) ?_
  intro p e z m below meth c A hx hb hr hml hts hown hlocks hsz hN hA hK hP hD hS ls hl
  have hown : z.vm.findClass RX9 = some m.cls := hown
  have hinX1 : ∀ w ∈ wsX10, w ∈ wsX9_plays := by decide +kernel
  have hinX9 : ∀ w ∈ wsX90, w ∈ wsX9_plays := by decide +kernel
  have fl10 := hts (.fieldLink RX9 10 "MagpieRuns" "now" "LMagpieRuns$Game;") (by decide +kernel)
  have fl33 := hts (.fieldLink RX9 33 "MagpieRuns" "counter" "LMagpieRuns$Plays;") (by decide +kernel)
  have fl61 := hts (.fieldLink RX9 61 "MagpieRuns$Game" "dice" "I") (by decide +kernel)
  have hl : lv_has ls 1 [(0, .ref h9)] := hl
  unfold mX9_plays at hm
  refine lv_aload_n hx hb dX9_plays_0 rfl (lv_at hl 0 rfl) ?_
  refine va_get (D := D) (ci := 5) (v := .ref h0) (C := RX9) (T := TX9) (N := 4) hx hb hts hinX9 hown hK hP 0 rfl rfl 3 (by decide) fl33 (fun _ h9 => h9) rfl dX9_plays_1 ?_
  refine lv_aload_n hx hb dX9_plays_4 rfl (lv_at hl 0 rfl) ?_
  refine va_get (D := D) (ci := 5) (v := .ref hn) (C := RX9) (T := TX9) (N := 4) hx hb hts hinX9 hown hK hP 0 rfl rfl 0 (by decide) fl10 (fun _ h9 => h9) rfl dX9_plays_5 ?_
  obtain ⟨r1, hc8, hm⟩ := k_bds hm
  have hPc : va_P D vwCl (wG hn c_mover c_phase c_dice c_stake c_cube c_pieces0 c_pieces1 c_score0 c_score1 c_hits0 c_hits1 c_stopped c_stopPart) _ := k_Psub hP [1] rfl
  have hDc : va_D A (wG hn c_mover c_phase c_dice c_stake c_cube c_pieces0 c_pieces1 c_score0 c_score1 c_hits0 c_hits1 c_stopped c_stopPart) := hD.sub [1] (by decide) rfl
  refine k_l_c (Wf := (wX cI cJ cC cG h9 hn ap q ht h0 pa pb pc jk hasS cnt snp G c_mover c_phase c_dice c_stake c_cube c_pieces0 c_pieces1 c_score0 c_score1 c_hits0 c_hits1 c_stopped c_stopPart t_signs t_length)) [1] [0, 2, 3, 4, 5, 6, 7, 8, 9, 10, 11, 12, 13, 14, 15, 16, 17, 18, 19, 20, 21, 22, 23, 24] [0, 24, 1, 2, 3, 4, 5, 6, 7, 8, 9, 10, 11, 12, 13, 14, 15, 16, 17, 18, 19, 20, 21, 22, 23] (k_rV (As := []) (rest := [.ref h0]) ⟨hx, hb, hml, hown, hts⟩ hK hN hPc hDc (zX1_moversPieces hc8) (cwV 0 hts gX9_plays_X1_moversPieces rfl rfl rfl (by decide +kernel) ⟨Nat.le_of_ble_eq_true rfl, Nat.le_of_ble_eq_true rfl⟩) rfl rfl rfl hl.1 rfl (Nat.le_of_ble_eq_true rfl) dX9_plays_8 ⟨Nat.zero_le _, Nat.zero_le _⟩) hP hD hS hA rfl rfl (by decide) (by decide) rfl (by decide) (fun H locs hP hD hS => ?_)
  refine lv_aload_n hx hb dX9_plays_11 rfl (lv_at hl 0 rfl) ?_
  refine va_get (D := D) (ci := 5) (v := .ref hn) (C := RX9) (T := TX9) (N := 4) hx hb hts hinX9 hown hK hP 0 rfl rfl 0 (by decide) fl10 (fun _ h9 => h9) rfl dX9_plays_12 ?_
  obtain ⟨r2, hc15, hm⟩ := k_bds hm
  have hPc : va_P D vwCl (wG hn c_mover c_phase c_dice c_stake c_cube c_pieces0 c_pieces1 c_score0 c_score1 c_hits0 c_hits1 c_stopped c_stopPart) _ := k_Psub hP [1] rfl
  have hDc : va_D A (wG hn c_mover c_phase c_dice c_stake c_cube c_pieces0 c_pieces1 c_score0 c_score1 c_hits0 c_hits1 c_stopped c_stopPart) := hD.sub [1] (by decide) rfl
  refine k_l_c (Wf := (wX cI cJ cC cG h9 hn ap q ht h0 pa pb pc jk hasS cnt snp G c_mover c_phase c_dice c_stake c_cube c_pieces0 c_pieces1 c_score0 c_score1 c_hits0 c_hits1 c_stopped c_stopPart t_signs t_length)) [1] [0, 2, 3, 4, 5, 6, 7, 8, 9, 10, 11, 12, 13, 14, 15, 16, 17, 18, 19, 20, 21, 22, 23, 24] [0, 24, 1, 2, 3, 4, 5, 6, 7, 8, 9, 10, 11, 12, 13, 14, 15, 16, 17, 18, 19, 20, 21, 22, 23] (k_rV (As := []) (rest := [.long r1, .ref h0]) ⟨hx, hb, hml, hown, hts⟩ hK hN hPc hDc (zX1_othersPieces hc15) (cwV 0 hts gX9_plays_X1_othersPieces rfl rfl rfl (by decide +kernel) ⟨Nat.le_of_ble_eq_true rfl, Nat.le_of_ble_eq_true rfl⟩) rfl rfl rfl hl.1 rfl (Nat.le_of_ble_eq_true rfl) dX9_plays_15 ⟨Nat.zero_le _, Nat.zero_le _⟩) hP hD hS hA rfl rfl (by decide) (by decide) rfl (by decide) (fun H locs hP hD hS => ?_)
  refine lv_aload_n hx hb dX9_plays_18 rfl (lv_at hl 0 rfl) ?_
  refine va_get (D := D) (ci := 5) (v := .ref hn) (C := RX9) (T := TX9) (N := 4) hx hb hts hinX9 hown hK hP 0 rfl rfl 0 (by decide) fl10 (fun _ h9 => h9) rfl dX9_plays_19 ?_
  refine va_get (D := D) (ci := 0) (v := .int c_dice) (C := RX1) (T := TX1) (N := 13) hx hb hts hinX1 hown hK hP 1 rfl rfl 2 (by decide) fl61 (fun _ h9 => h9) rfl dX9_plays_22 ?_
  refine lv_iconst (v := 0) hx hb dX9_plays_25 (by decide) ?_
  obtain ⟨r3, hc26, hm⟩ := k_bds hm
  have hPc : va_P D vwCl (wPj cI cJ h0 pa pb pc jk ) _ := k_Psub hP [12, 13, 14, 15, 16, 17, 18, 19, 20, 21, 22, 23, 24] rfl
  have hDc : va_D A (wPj cI cJ h0 pa pb pc jk ) := hD.sub [12, 13, 14, 15, 16, 17, 18, 19, 20, 21, 22, 23, 24] (by decide) rfl
  refine k_i_cE (fun u : (Nat → Nat) × (Nat → Nat) × (JT) => (wX cI cJ cC cG h9 hn ap q ht h0 (u.1) (u.2.1) pc (u.2.2) hasS cnt snp G c_mover c_phase c_dice c_stake c_cube c_pieces0 c_pieces1 c_score0 c_score1 c_hits0 c_hits1 c_stopped c_stopPart t_signs t_length)) [12, 13, 14, 15, 16, 17, 18, 19, 20, 21, 22, 23, 24] [0, 1, 2, 3, 4, 5, 6, 7, 8, 9, 10, 11] [0, 1, 2, 3, 4, 5, 6, 7, 8, 9, 10, 11, 12, 13, 14, 15, 16, 17, 18, 19, 20, 21, 22, 23, 24] (k_rV (As := [.long r1, .long r2, .int c_dice, .int (k_b false)]) (rest := []) ⟨hx, hb, hml, hown, hts⟩ hK hN hPc hDc (zX4_pE hc26) (cwV 4 hts gX9_plays_X4_countEnds rfl rfl rfl (by decide +kernel) ⟨Nat.le_of_ble_eq_true rfl, Nat.le_of_ble_eq_true rfl⟩) rfl rfl rfl hl.1 rfl (Nat.le_of_ble_eq_true rfl) dX9_plays_26 ⟨Nat.zero_le _, Nat.zero_le _⟩) hP hD hS hA rfl rfl (by decide) (by decide) (fun u => rfl) (by decide) (fun u9 H locs hP hD hS => ?_)
  obtain ⟨u4, u5, u6⟩ := u9
  have hP : va_P D vwCl (wX cI cJ cC cG h9 hn ap q ht h0 u4 u5 pc u6 hasS cnt snp G c_mover c_phase c_dice c_stake c_cube c_pieces0 c_pieces1 c_score0 c_score1 c_hits0 c_hits1 c_stopped c_stopPart t_signs t_length) H := hP
  have hD : va_D A (wX cI cJ cC cG h9 hn ap q ht h0 u4 u5 pc u6 hasS cnt snp G c_mover c_phase c_dice c_stake c_cube c_pieces0 c_pieces1 c_score0 c_score1 c_hits0 c_hits1 c_stopped c_stopPart t_signs t_length) := hD
  cases hm
  exact k_end_iE (q, u4, u5, u6) hx hb hr hlocks hK hP hD hS dX9_plays_29

abbrev rmX9_playsByOrders : Room := { frames := 15, cells := 0, slots := 0, locals := 529 }
set_option maxHeartbeats 4000000 in
set_option maxRecDepth 100000 in
theorem zX9_playsByOrders {l : Launch} {D : va_G} {cI cJ cC cG : ClassId} {sz : Nat} {h9 hn h0 : Nat} {ap q ht pa pb pc : Nat → Nat} {jk : JT} {hasS : Bool} {cnt : Int32} {snp : GT} {G : Nat → GT} {c_mover : Int32} {c_phase : Int32} {c_dice : Int32} {c_stake : Int32} {c_cube : Int32} {c_pieces0 : Int64} {c_pieces1 : Int64} {c_score0 : Int32} {c_score1 : Int32} {c_hits0 : Int32} {c_hits1 : Int32} {c_stopped : Bool} {c_stopPart : Int32} {t_signs : Nat → Int32} {t_length : Int32} {r : Int32} (hm : mX9_playsByOrders c_mover c_dice c_pieces0 c_pieces1 = some (r)) : k_MiE l yX9_playsByOrders wsX9_playsByOrders rmX9_playsByOrders D (kT cI cJ cC cG) sz ([.ref h9] : List Value) (wX cI cJ cC cG h9 hn ap q ht h0 pa pb pc jk hasS cnt snp G c_mover c_phase c_dice c_stake c_cube c_pieces0 c_pieces1 c_score0 c_score1 c_hits0 c_hits1 c_stopped c_stopPart t_signs t_length) (fun u : (Nat → Nat) × (Nat → Nat) × (Nat → Nat) × (JT) => (wX cI cJ cC cG h9 hn ap (u.1) ht h0 (u.2.1) (u.2.2.1) pc (u.2.2.2) hasS cnt snp G c_mover c_phase c_dice c_stake c_cube c_pieces0 c_pieces1 c_score0 c_score1 c_hits0 c_hits1 c_stopped c_stopPart t_signs t_length)) r := by
  refine k_st_iE (cc := cX9_playsByOrders) (maxL := 1) (by decide) rfl (Nat.le_of_ble_eq_true rfl) ?_
  intro p e z m below meth c A hx hb hr hml hts hown hlocks hsz hN hA hK hP hD hS ls hl
  have hown : z.vm.findClass RX9 = some m.cls := hown
  have hinX1 : ∀ w ∈ wsX10, w ∈ wsX9_playsByOrders := by decide +kernel
  have hinX9 : ∀ w ∈ wsX90, w ∈ wsX9_playsByOrders := by decide +kernel
  have fl10 := hts (.fieldLink RX9 10 "MagpieRuns" "now" "LMagpieRuns$Game;") (by decide +kernel)
  have fl33 := hts (.fieldLink RX9 33 "MagpieRuns" "counter" "LMagpieRuns$Plays;") (by decide +kernel)
  have fl61 := hts (.fieldLink RX9 61 "MagpieRuns$Game" "dice" "I") (by decide +kernel)
  have hl : lv_has ls 1 [(0, .ref h9)] := hl
  unfold mX9_playsByOrders at hm
  refine lv_aload_n hx hb dX9_playsByOrders_0 rfl (lv_at hl 0 rfl) ?_
  refine va_get (D := D) (ci := 5) (v := .ref h0) (C := RX9) (T := TX9) (N := 4) hx hb hts hinX9 hown hK hP 0 rfl rfl 3 (by decide) fl33 (fun _ h9 => h9) rfl dX9_playsByOrders_1 ?_
  refine lv_aload_n hx hb dX9_playsByOrders_4 rfl (lv_at hl 0 rfl) ?_
  refine va_get (D := D) (ci := 5) (v := .ref hn) (C := RX9) (T := TX9) (N := 4) hx hb hts hinX9 hown hK hP 0 rfl rfl 0 (by decide) fl10 (fun _ h9 => h9) rfl dX9_playsByOrders_5 ?_
  obtain ⟨r1, hc8, hm⟩ := k_bds hm
  have hPc : va_P D vwCl (wG hn c_mover c_phase c_dice c_stake c_cube c_pieces0 c_pieces1 c_score0 c_score1 c_hits0 c_hits1 c_stopped c_stopPart) _ := k_Psub hP [1] rfl
  have hDc : va_D A (wG hn c_mover c_phase c_dice c_stake c_cube c_pieces0 c_pieces1 c_score0 c_score1 c_hits0 c_hits1 c_stopped c_stopPart) := hD.sub [1] (by decide) rfl
  refine k_l_c (Wf := (wX cI cJ cC cG h9 hn ap q ht h0 pa pb pc jk hasS cnt snp G c_mover c_phase c_dice c_stake c_cube c_pieces0 c_pieces1 c_score0 c_score1 c_hits0 c_hits1 c_stopped c_stopPart t_signs t_length)) [1] [0, 2, 3, 4, 5, 6, 7, 8, 9, 10, 11, 12, 13, 14, 15, 16, 17, 18, 19, 20, 21, 22, 23, 24] [0, 24, 1, 2, 3, 4, 5, 6, 7, 8, 9, 10, 11, 12, 13, 14, 15, 16, 17, 18, 19, 20, 21, 22, 23] (k_rV (As := []) (rest := [.ref h0]) ⟨hx, hb, hml, hown, hts⟩ hK hN hPc hDc (zX1_moversPieces hc8) (cwV 0 hts gX9_playsByOrders_X1_moversPieces rfl rfl rfl (by decide +kernel) ⟨Nat.le_of_ble_eq_true rfl, Nat.le_of_ble_eq_true rfl⟩) rfl rfl rfl hl.1 rfl (Nat.le_of_ble_eq_true rfl) dX9_playsByOrders_8 ⟨Nat.zero_le _, Nat.zero_le _⟩) hP hD hS hA rfl rfl (by decide) (by decide) rfl (by decide) (fun H locs hP hD hS => ?_)
  refine lv_aload_n hx hb dX9_playsByOrders_11 rfl (lv_at hl 0 rfl) ?_
  refine va_get (D := D) (ci := 5) (v := .ref hn) (C := RX9) (T := TX9) (N := 4) hx hb hts hinX9 hown hK hP 0 rfl rfl 0 (by decide) fl10 (fun _ h9 => h9) rfl dX9_playsByOrders_12 ?_
  obtain ⟨r2, hc15, hm⟩ := k_bds hm
  have hPc : va_P D vwCl (wG hn c_mover c_phase c_dice c_stake c_cube c_pieces0 c_pieces1 c_score0 c_score1 c_hits0 c_hits1 c_stopped c_stopPart) _ := k_Psub hP [1] rfl
  have hDc : va_D A (wG hn c_mover c_phase c_dice c_stake c_cube c_pieces0 c_pieces1 c_score0 c_score1 c_hits0 c_hits1 c_stopped c_stopPart) := hD.sub [1] (by decide) rfl
  refine k_l_c (Wf := (wX cI cJ cC cG h9 hn ap q ht h0 pa pb pc jk hasS cnt snp G c_mover c_phase c_dice c_stake c_cube c_pieces0 c_pieces1 c_score0 c_score1 c_hits0 c_hits1 c_stopped c_stopPart t_signs t_length)) [1] [0, 2, 3, 4, 5, 6, 7, 8, 9, 10, 11, 12, 13, 14, 15, 16, 17, 18, 19, 20, 21, 22, 23, 24] [0, 24, 1, 2, 3, 4, 5, 6, 7, 8, 9, 10, 11, 12, 13, 14, 15, 16, 17, 18, 19, 20, 21, 22, 23] (k_rV (As := []) (rest := [.long r1, .ref h0]) ⟨hx, hb, hml, hown, hts⟩ hK hN hPc hDc (zX1_othersPieces hc15) (cwV 0 hts gX9_playsByOrders_X1_othersPieces rfl rfl rfl (by decide +kernel) ⟨Nat.le_of_ble_eq_true rfl, Nat.le_of_ble_eq_true rfl⟩) rfl rfl rfl hl.1 rfl (Nat.le_of_ble_eq_true rfl) dX9_playsByOrders_15 ⟨Nat.zero_le _, Nat.zero_le _⟩) hP hD hS hA rfl rfl (by decide) (by decide) rfl (by decide) (fun H locs hP hD hS => ?_)
  refine lv_aload_n hx hb dX9_playsByOrders_18 rfl (lv_at hl 0 rfl) ?_
  refine va_get (D := D) (ci := 5) (v := .ref hn) (C := RX9) (T := TX9) (N := 4) hx hb hts hinX9 hown hK hP 0 rfl rfl 0 (by decide) fl10 (fun _ h9 => h9) rfl dX9_playsByOrders_19 ?_
  refine va_get (D := D) (ci := 0) (v := .int c_dice) (C := RX1) (T := TX1) (N := 13) hx hb hts hinX1 hown hK hP 1 rfl rfl 2 (by decide) fl61 (fun _ h9 => h9) rfl dX9_playsByOrders_22 ?_
  refine lv_iconst (v := 1) hx hb dX9_playsByOrders_25 (by decide) ?_
  obtain ⟨r3, hc26, hm⟩ := k_bds hm
  have hPc : va_P D vwCl (wPj cI cJ h0 pa pb pc jk ) _ := k_Psub hP [12, 13, 14, 15, 16, 17, 18, 19, 20, 21, 22, 23, 24] rfl
  have hDc : va_D A (wPj cI cJ h0 pa pb pc jk ) := hD.sub [12, 13, 14, 15, 16, 17, 18, 19, 20, 21, 22, 23, 24] (by decide) rfl
  refine k_i_cE (fun u : (Nat → Nat) × (Nat → Nat) × (JT) => (wX cI cJ cC cG h9 hn ap q ht h0 (u.1) (u.2.1) pc (u.2.2) hasS cnt snp G c_mover c_phase c_dice c_stake c_cube c_pieces0 c_pieces1 c_score0 c_score1 c_hits0 c_hits1 c_stopped c_stopPart t_signs t_length)) [12, 13, 14, 15, 16, 17, 18, 19, 20, 21, 22, 23, 24] [0, 1, 2, 3, 4, 5, 6, 7, 8, 9, 10, 11] [0, 1, 2, 3, 4, 5, 6, 7, 8, 9, 10, 11, 12, 13, 14, 15, 16, 17, 18, 19, 20, 21, 22, 23, 24] (k_rV (As := [.long r1, .long r2, .int c_dice, .int (k_b true)]) (rest := []) ⟨hx, hb, hml, hown, hts⟩ hK hN hPc hDc (zX4_pE hc26) (cwV 4 hts gX9_playsByOrders_X4_countEnds rfl rfl rfl (by decide +kernel) ⟨Nat.le_of_ble_eq_true rfl, Nat.le_of_ble_eq_true rfl⟩) rfl rfl rfl hl.1 rfl (Nat.le_of_ble_eq_true rfl) dX9_playsByOrders_26 ⟨Nat.zero_le _, Nat.zero_le _⟩) hP hD hS hA rfl rfl (by decide) (by decide) (fun u => rfl) (by decide) (fun u9 H locs hP hD hS => ?_)
  obtain ⟨u4, u5, u6⟩ := u9
  have hP : va_P D vwCl (wX cI cJ cC cG h9 hn ap q ht h0 u4 u5 pc u6 hasS cnt snp G c_mover c_phase c_dice c_stake c_cube c_pieces0 c_pieces1 c_score0 c_score1 c_hits0 c_hits1 c_stopped c_stopPart t_signs t_length) H := hP
  have hD : va_D A (wX cI cJ cC cG h9 hn ap q ht h0 u4 u5 pc u6 hasS cnt snp G c_mover c_phase c_dice c_stake c_cube c_pieces0 c_pieces1 c_score0 c_score1 c_hits0 c_hits1 c_stopped c_stopPart t_signs t_length) := hD
  cases hm
  exact k_end_iE (q, u4, u5, u6) hx hb hr hlocks hK hP hD hS dX9_playsByOrders_29

abbrev rmX9_playsWith : Room := { frames := 15, cells := 0, slots := 0, locals := 529 }
set_option maxHeartbeats 4000000 in
set_option maxRecDepth 100000 in
theorem zX9_playsWith {l : Launch} {D : va_G} {cI cJ cC cG : ClassId} {sz : Nat} {h9 hn h0 : Nat} {ap q ht pa pb pc : Nat → Nat} {jk : JT} {hasS : Bool} {cnt : Int32} {snp : GT} {G : Nat → GT} {c_mover : Int32} {c_phase : Int32} {c_dice : Int32} {c_stake : Int32} {c_cube : Int32} {c_pieces0 : Int64} {c_pieces1 : Int64} {c_score0 : Int32} {c_score1 : Int32} {c_hits0 : Int32} {c_hits1 : Int32} {c_stopped : Bool} {c_stopPart : Int32} {t_signs : Nat → Int32} {t_length : Int32} {a1 : Int32} {a2 : Int32} {r : Int32} (hm : mX9_playsWith c_mover c_pieces0 c_pieces1 a1 a2 = some (r)) : k_MiE l yX9_playsWith wsX9_playsWith rmX9_playsWith D (kT cI cJ cC cG) sz ([.ref h9, .int a1, .int a2] : List Value) (wX cI cJ cC cG h9 hn ap q ht h0 pa pb pc jk hasS cnt snp G c_mover c_phase c_dice c_stake c_cube c_pieces0 c_pieces1 c_score0 c_score1 c_hits0 c_hits1 c_stopped c_stopPart t_signs t_length) (fun u : (Nat → Nat) × (Nat → Nat) × (Nat → Nat) × (JT) => (wX cI cJ cC cG h9 hn ap (u.1) ht h0 (u.2.1) (u.2.2.1) pc (u.2.2.2) hasS cnt snp G c_mover c_phase c_dice c_stake c_cube c_pieces0 c_pieces1 c_score0 c_score1 c_hits0 c_hits1 c_stopped c_stopPart t_signs t_length)) r := by
  refine k_st_iE (cc := cX9_playsWith) (maxL := 4) (by decide) rfl (Nat.le_of_ble_eq_true rfl) ?_
  intro p e z m below meth c A hx hb hr hml hts hown hlocks hsz hN hA hK hP hD hS ls hl
  have hown : z.vm.findClass RX9 = some m.cls := hown
  have hinX9 : ∀ w ∈ wsX90, w ∈ wsX9_playsWith := by decide +kernel
  have fl10 := hts (.fieldLink RX9 10 "MagpieRuns" "now" "LMagpieRuns$Game;") (by decide +kernel)
  have fl33 := hts (.fieldLink RX9 33 "MagpieRuns" "counter" "LMagpieRuns$Plays;") (by decide +kernel)
  have hl : lv_has ls 4 [(0, .ref h9), (1, .int a1), (2, .int a2)] := hl
  have J_14 : ∀ (q : Nat → Nat) (pa : Nat → Nat) (pb : Nat → Nat) (jk : JT) (H : Heap) (locs : List Loc), va_P D vwCl (wX cI cJ cC cG h9 hn ap q ht h0 pa pb pc jk hasS cnt snp G c_mover c_phase c_dice c_stake c_cube c_pieces0 c_pieces1 c_score0 c_score1 c_hits0 c_hits1 c_stopped c_stopPart t_signs t_length) H → va_D A (wX cI cJ cC cG h9 hn ap q ht h0 pa pb pc jk hasS cnt snp G c_mover c_phase c_dice c_stake c_cube c_pieces0 c_pieces1 c_score0 c_score1 c_hits0 c_hits1 c_stopped c_stopPart t_signs t_length) → va_S A z.heap H locs → ∀ ls : Array Slot, lv_has ls 4 [] → mX9_playsWith_14 c_mover c_pieces0 c_pieces1 a1 a2  = some (r) → W p l e rmX9_playsWith z m ([.ref h9, .int a1, .int a2] : List Value).toArray below meth c H locs 0 0 (k_QiE below ([.ref h9, .int a1, .int a2] : List Value) D (kT cI cJ cC cG) z A (fun u : (Nat → Nat) × (Nat → Nat) × (Nat → Nat) × (JT) => (wX cI cJ cC cG h9 hn ap (u.1) ht h0 (u.2.1) (u.2.2.1) pc (u.2.2.2) hasS cnt snp G c_mover c_phase c_dice c_stake c_cube c_pieces0 c_pieces1 c_score0 c_score1 c_hits0 c_hits1 c_stopped c_stopPart t_signs t_length)) r) (F0 m 14 ls []) := by
    intro q pa pb jk  H locs hP hD hS ls hl hm
    unfold mX9_playsWith_14 at hm
    cases hm
  unfold mX9_playsWith at hm
  refine lv_iload_n hx hb dX9_playsWith_0 rfl (lv_at hl 1 rfl) ?_
  obtain ⟨r1, hc1, hm⟩ := k_bds hm
  refine k_i_0 (k_rS (As := [.int a1]) (rest := []) ⟨hx, hb, hml, hown, hts⟩ hK hN k_P0 (k_D0 (A := A)) (zX0_isDie hc1) (va_cwS 1 hts gX9_playsWith_X0_isDie rfl rfl rfl (by decide +kernel) ⟨Nat.le_of_ble_eq_true rfl, Nat.le_of_ble_eq_true rfl⟩) rfl hl.1 rfl (Nat.le_of_ble_eq_true rfl) dX9_playsWith_1 ⟨Nat.zero_le _, Nat.zero_le _⟩) hP hS hA (fun H locs hP hS => ?_)
  refine lv_if_eq (tgt := 14) hx hb dX9_playsWith_4 (by decide) (fun cc4 => ?_) (fun cc4 => ?_)
  · have hm := k_ip cc4 hm
    exact J_14 q pa pb jk _ _ hP hD hS _ (lv_sub hl [] rfl) hm
  · have hm := k_in cc4 hm
    refine lv_iload_n hx hb dX9_playsWith_7 rfl (lv_at hl 2 rfl) ?_
    obtain ⟨r2, hc8, hm⟩ := k_bds hm
    refine k_i_0 (k_rS (As := [.int a2]) (rest := []) ⟨hx, hb, hml, hown, hts⟩ hK hN k_P0 (k_D0 (A := A)) (zX0_isDie hc8) (va_cwS 1 hts gX9_playsWith_X0_isDie rfl rfl rfl (by decide +kernel) ⟨Nat.le_of_ble_eq_true rfl, Nat.le_of_ble_eq_true rfl⟩) rfl hl.1 rfl (Nat.le_of_ble_eq_true rfl) dX9_playsWith_8 ⟨Nat.zero_le _, Nat.zero_le _⟩) hP hS hA (fun H locs hP hS => ?_)
    refine lv_if_ne (tgt := 22) hx hb dX9_playsWith_11 (by decide) (fun cc11 => ?_) (fun cc11 => ?_)
    · have hm := k_in cc11 hm
      refine lv_iload_n hx hb dX9_playsWith_22 rfl (lv_at hl 1 rfl) ?_
      refine lv_iload_n hx hb dX9_playsWith_23 rfl (lv_at hl 2 rfl) ?_
      obtain ⟨r3, hc24, hm⟩ := k_bds hm
      refine k_i_0 (k_rS (As := [.int a1, .int a2]) (rest := []) ⟨hx, hb, hml, hown, hts⟩ hK hN k_P0 (k_D0 (A := A)) (zX0_rolled hc24) (va_cwS 2 hts gX9_playsWith_X0_rolled rfl rfl rfl (by decide +kernel) ⟨Nat.le_of_ble_eq_true rfl, Nat.le_of_ble_eq_true rfl⟩) rfl hl.1 rfl (Nat.le_of_ble_eq_true rfl) dX9_playsWith_24 ⟨Nat.zero_le _, Nat.zero_le _⟩) hP hS hA (fun H locs hP hS => ?_)
      refine lv_istore_n (lv' := [(3, .int r3), (0, .ref h9), (1, .int a1), (2, .int a2)]) hx hb dX9_playsWith_27 rfl hl (by decide) rfl (fun ls hl => ?_)
      refine lv_aload_n hx hb dX9_playsWith_28 rfl (lv_at hl 1 rfl) ?_
      refine va_get (D := D) (ci := 5) (v := .ref h0) (C := RX9) (T := TX9) (N := 4) hx hb hts hinX9 hown hK hP 0 rfl rfl 3 (by decide) fl33 (fun _ h9 => h9) rfl dX9_playsWith_29 ?_
      refine lv_aload_n hx hb dX9_playsWith_32 rfl (lv_at hl 1 rfl) ?_
      refine va_get (D := D) (ci := 5) (v := .ref hn) (C := RX9) (T := TX9) (N := 4) hx hb hts hinX9 hown hK hP 0 rfl rfl 0 (by decide) fl10 (fun _ h9 => h9) rfl dX9_playsWith_33 ?_
      obtain ⟨r4, hc36, hm⟩ := k_bds hm
      have hPc : va_P D vwCl (wG hn c_mover c_phase c_dice c_stake c_cube c_pieces0 c_pieces1 c_score0 c_score1 c_hits0 c_hits1 c_stopped c_stopPart) _ := k_Psub hP [1] rfl
      have hDc : va_D A (wG hn c_mover c_phase c_dice c_stake c_cube c_pieces0 c_pieces1 c_score0 c_score1 c_hits0 c_hits1 c_stopped c_stopPart) := hD.sub [1] (by decide) rfl
      refine k_l_c (Wf := (wX cI cJ cC cG h9 hn ap q ht h0 pa pb pc jk hasS cnt snp G c_mover c_phase c_dice c_stake c_cube c_pieces0 c_pieces1 c_score0 c_score1 c_hits0 c_hits1 c_stopped c_stopPart t_signs t_length)) [1] [0, 2, 3, 4, 5, 6, 7, 8, 9, 10, 11, 12, 13, 14, 15, 16, 17, 18, 19, 20, 21, 22, 23, 24] [0, 24, 1, 2, 3, 4, 5, 6, 7, 8, 9, 10, 11, 12, 13, 14, 15, 16, 17, 18, 19, 20, 21, 22, 23] (k_rV (As := []) (rest := [.ref h0]) ⟨hx, hb, hml, hown, hts⟩ hK hN hPc hDc (zX1_moversPieces hc36) (cwV 0 hts gX9_playsWith_X1_moversPieces rfl rfl rfl (by decide +kernel) ⟨Nat.le_of_ble_eq_true rfl, Nat.le_of_ble_eq_true rfl⟩) rfl rfl rfl hl.1 rfl (Nat.le_of_ble_eq_true rfl) dX9_playsWith_36 ⟨Nat.zero_le _, Nat.zero_le _⟩) hP hD hS hA rfl rfl (by decide) (by decide) rfl (by decide) (fun H locs hP hD hS => ?_)
      refine lv_aload_n hx hb dX9_playsWith_39 rfl (lv_at hl 1 rfl) ?_
      refine va_get (D := D) (ci := 5) (v := .ref hn) (C := RX9) (T := TX9) (N := 4) hx hb hts hinX9 hown hK hP 0 rfl rfl 0 (by decide) fl10 (fun _ h9 => h9) rfl dX9_playsWith_40 ?_
      obtain ⟨r5, hc43, hm⟩ := k_bds hm
      have hPc : va_P D vwCl (wG hn c_mover c_phase c_dice c_stake c_cube c_pieces0 c_pieces1 c_score0 c_score1 c_hits0 c_hits1 c_stopped c_stopPart) _ := k_Psub hP [1] rfl
      have hDc : va_D A (wG hn c_mover c_phase c_dice c_stake c_cube c_pieces0 c_pieces1 c_score0 c_score1 c_hits0 c_hits1 c_stopped c_stopPart) := hD.sub [1] (by decide) rfl
      refine k_l_c (Wf := (wX cI cJ cC cG h9 hn ap q ht h0 pa pb pc jk hasS cnt snp G c_mover c_phase c_dice c_stake c_cube c_pieces0 c_pieces1 c_score0 c_score1 c_hits0 c_hits1 c_stopped c_stopPart t_signs t_length)) [1] [0, 2, 3, 4, 5, 6, 7, 8, 9, 10, 11, 12, 13, 14, 15, 16, 17, 18, 19, 20, 21, 22, 23, 24] [0, 24, 1, 2, 3, 4, 5, 6, 7, 8, 9, 10, 11, 12, 13, 14, 15, 16, 17, 18, 19, 20, 21, 22, 23] (k_rV (As := []) (rest := [.long r4, .ref h0]) ⟨hx, hb, hml, hown, hts⟩ hK hN hPc hDc (zX1_othersPieces hc43) (cwV 0 hts gX9_playsWith_X1_othersPieces rfl rfl rfl (by decide +kernel) ⟨Nat.le_of_ble_eq_true rfl, Nat.le_of_ble_eq_true rfl⟩) rfl rfl rfl hl.1 rfl (Nat.le_of_ble_eq_true rfl) dX9_playsWith_43 ⟨Nat.zero_le _, Nat.zero_le _⟩) hP hD hS hA rfl rfl (by decide) (by decide) rfl (by decide) (fun H locs hP hD hS => ?_)
      refine lv_iload_n hx hb dX9_playsWith_46 rfl (lv_at hl 0 rfl) ?_
      refine lv_iconst (v := 0) hx hb dX9_playsWith_47 (by decide) ?_
      obtain ⟨r6, hc48, hm⟩ := k_bds hm
      have hPc : va_P D vwCl (wPj cI cJ h0 pa pb pc jk ) _ := k_Psub hP [12, 13, 14, 15, 16, 17, 18, 19, 20, 21, 22, 23, 24] rfl
      have hDc : va_D A (wPj cI cJ h0 pa pb pc jk ) := hD.sub [12, 13, 14, 15, 16, 17, 18, 19, 20, 21, 22, 23, 24] (by decide) rfl
      refine k_i_cE (fun u : (Nat → Nat) × (Nat → Nat) × (JT) => (wX cI cJ cC cG h9 hn ap q ht h0 (u.1) (u.2.1) pc (u.2.2) hasS cnt snp G c_mover c_phase c_dice c_stake c_cube c_pieces0 c_pieces1 c_score0 c_score1 c_hits0 c_hits1 c_stopped c_stopPart t_signs t_length)) [12, 13, 14, 15, 16, 17, 18, 19, 20, 21, 22, 23, 24] [0, 1, 2, 3, 4, 5, 6, 7, 8, 9, 10, 11] [0, 1, 2, 3, 4, 5, 6, 7, 8, 9, 10, 11, 12, 13, 14, 15, 16, 17, 18, 19, 20, 21, 22, 23, 24] (k_rV (As := [.long r4, .long r5, .int r3, .int (k_b false)]) (rest := []) ⟨hx, hb, hml, hown, hts⟩ hK hN hPc hDc (zX4_pE hc48) (cwV 4 hts gX9_playsWith_X4_countEnds rfl rfl rfl (by decide +kernel) ⟨Nat.le_of_ble_eq_true rfl, Nat.le_of_ble_eq_true rfl⟩) rfl rfl rfl hl.1 rfl (Nat.le_of_ble_eq_true rfl) dX9_playsWith_48 ⟨Nat.zero_le _, Nat.zero_le _⟩) hP hD hS hA rfl rfl (by decide) (by decide) (fun u => rfl) (by decide) (fun u9 H locs hP hD hS => ?_)
      obtain ⟨u7, u8, u9⟩ := u9
      have hP : va_P D vwCl (wX cI cJ cC cG h9 hn ap q ht h0 u7 u8 pc u9 hasS cnt snp G c_mover c_phase c_dice c_stake c_cube c_pieces0 c_pieces1 c_score0 c_score1 c_hits0 c_hits1 c_stopped c_stopPart t_signs t_length) H := hP
      have hD : va_D A (wX cI cJ cC cG h9 hn ap q ht h0 u7 u8 pc u9 hasS cnt snp G c_mover c_phase c_dice c_stake c_cube c_pieces0 c_pieces1 c_score0 c_score1 c_hits0 c_hits1 c_stopped c_stopPart t_signs t_length) := hD
      cases hm
      exact k_end_iE (q, u7, u8, u9) hx hb hr hlocks hK hP hD hS dX9_playsWith_51
    · have hm := k_ip cc11 hm
      exact J_14 q pa pb jk _ _ hP hD hS _ (lv_sub hl [] rfl) hm

