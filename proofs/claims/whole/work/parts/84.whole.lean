abbrev rmX9_roll : Room := { frames := 4, cells := 0, slots := 0, locals := 122 }
set_option maxHeartbeats 4000000 in
set_option maxRecDepth 100000 in
theorem zX9_roll {l : Launch} {D : va_G} {cI cJ cC cG : ClassId} {sz : Nat} {h9 hn h0 : Nat} {ap q ht pa pb pc : Nat → Nat} {jk : JT} {hasS : Bool} {cnt : Int32} {snp : GT} {G : Nat → GT} {c_mover : Int32} {c_phase : Int32} {c_dice : Int32} {c_stake : Int32} {c_cube : Int32} {c_pieces0 : Int64} {c_pieces1 : Int64} {c_score0 : Int32} {c_score1 : Int32} {c_hits0 : Int32} {c_hits1 : Int32} {c_stopped : Bool} {c_stopPart : Int32} {t_signs : Nat → Int32} {t_length : Int32} {a1 : Int32} {a2 : Int32} {r : Int32} {cnt' : Int32} {G' : Nat → GT} {c_phase' : Int32} {c_dice' : Int32} (hm : mX9_roll cnt G c_mover c_phase c_dice c_stake c_cube c_pieces0 c_pieces1 c_score0 c_score1 c_hits0 c_hits1 c_stopped c_stopPart a1 a2 = some (r, cnt', G', c_phase', c_dice')) : k_MiE l yX9_roll wsX9_roll rmX9_roll D (kT cI cJ cC cG) sz ([.ref h9, .int a1, .int a2] : List Value) (wX cI cJ cC cG h9 hn ap q ht h0 pa pb pc jk hasS cnt snp G c_mover c_phase c_dice c_stake c_cube c_pieces0 c_pieces1 c_score0 c_score1 c_hits0 c_hits1 c_stopped c_stopPart t_signs t_length) (fun u : (Nat → Nat) × (Nat → Nat) × (Nat → Nat) × (JT) => (wX cI cJ cC cG h9 hn ap (u.1) ht h0 (u.2.1) (u.2.2.1) pc (u.2.2.2) hasS cnt' snp G' c_mover c_phase' c_dice' c_stake c_cube c_pieces0 c_pieces1 c_score0 c_score1 c_hits0 c_hits1 c_stopped c_stopPart t_signs t_length)) r := by
  refine k_st_iE (cc := cX9_roll) (maxL := 3) (by decide) rfl (Nat.le_of_ble_eq_true rfl) ?_
  intro p e z m below meth c A hx hb hr hml hts hown hlocks hsz hN hA hK hP hD hS ls hl
  have hown : z.vm.findClass RX9 = some m.cls := hown
  have hinX1 : ∀ w ∈ wsX10, w ∈ wsX9_roll := by decide +kernel
  have hinX9 : ∀ w ∈ wsX90, w ∈ wsX9_roll := by decide +kernel
  have fl10 := hts (.fieldLink RX9 10 "MagpieRuns" "now" "LMagpieRuns$Game;") (by decide +kernel)
  have fl19 := hts (.fieldLink RX9 19 "MagpieRuns" "past" "LMagpieRuns$Past;") (by decide +kernel)
  have fl61 := hts (.fieldLink RX9 61 "MagpieRuns$Game" "dice" "I") (by decide +kernel)
  have hl : lv_has ls 3 [(0, .ref h9), (1, .int a1), (2, .int a2)] := hl
  have J_14 : ∀ (q : Nat → Nat) (pa : Nat → Nat) (pb : Nat → Nat) (jk : JT) (cnt : Int32) (G : Nat → GT) (c_phase : Int32) (c_dice : Int32) (H : Heap) (locs : List Loc), va_P D vwCl (wX cI cJ cC cG h9 hn ap q ht h0 pa pb pc jk hasS cnt snp G c_mover c_phase c_dice c_stake c_cube c_pieces0 c_pieces1 c_score0 c_score1 c_hits0 c_hits1 c_stopped c_stopPart t_signs t_length) H → va_D A (wX cI cJ cC cG h9 hn ap q ht h0 pa pb pc jk hasS cnt snp G c_mover c_phase c_dice c_stake c_cube c_pieces0 c_pieces1 c_score0 c_score1 c_hits0 c_hits1 c_stopped c_stopPart t_signs t_length) → va_S A z.heap H locs → ∀ ls : Array Slot, lv_has ls 3 [] → mX9_roll_14 c_mover c_stake c_cube c_pieces0 c_pieces1 c_score0 c_score1 c_hits0 c_hits1 c_stopped c_stopPart a1 a2 cnt G c_phase c_dice = some (r, cnt', G', c_phase', c_dice') → W p l e rmX9_roll z m ([.ref h9, .int a1, .int a2] : List Value).toArray below meth c H locs 0 0 (k_QiE below ([.ref h9, .int a1, .int a2] : List Value) D (kT cI cJ cC cG) z A (fun u : (Nat → Nat) × (Nat → Nat) × (Nat → Nat) × (JT) => (wX cI cJ cC cG h9 hn ap (u.1) ht h0 (u.2.1) (u.2.2.1) pc (u.2.2.2) hasS cnt' snp G' c_mover c_phase' c_dice' c_stake c_cube c_pieces0 c_pieces1 c_score0 c_score1 c_hits0 c_hits1 c_stopped c_stopPart t_signs t_length)) r) (F0 m 14 ls []) := by
    intro q pa pb jk cnt G c_phase c_dice H locs hP hD hS ls hl hm
    unfold mX9_roll_14 at hm
    cases hm
  unfold mX9_roll at hm
  refine lv_iload_n hx hb dX9_roll_0 rfl (lv_at hl 1 rfl) ?_
  obtain ⟨r1, hc1, hm⟩ := k_bds hm
  refine k_i_0 (k_rS (As := [.int a1]) (rest := []) ⟨hx, hb, hml, hown, hts⟩ hK hN k_P0 (k_D0 (A := A)) (zX0_isDie hc1) (va_cwS 1 hts gX9_roll_X0_isDie rfl rfl rfl (by decide +kernel) ⟨Nat.le_of_ble_eq_true rfl, Nat.le_of_ble_eq_true rfl⟩) rfl hl.1 rfl (Nat.le_of_ble_eq_true rfl) dX9_roll_1 ⟨Nat.zero_le _, Nat.zero_le _⟩) hP hS hA (fun H locs hP hS => ?_)
  refine lv_if_eq (tgt := 14) hx hb dX9_roll_4 (by decide) (fun cc4 => ?_) (fun cc4 => ?_)
  · have hm := k_ip cc4 hm
    exact J_14 q pa pb jk cnt G c_phase c_dice _ _ hP hD hS _ (lv_sub hl [] rfl) hm
  · have hm := k_in cc4 hm
    refine lv_iload_n hx hb dX9_roll_7 rfl (lv_at hl 2 rfl) ?_
    obtain ⟨r2, hc8, hm⟩ := k_bds hm
    refine k_i_0 (k_rS (As := [.int a2]) (rest := []) ⟨hx, hb, hml, hown, hts⟩ hK hN k_P0 (k_D0 (A := A)) (zX0_isDie hc8) (va_cwS 1 hts gX9_roll_X0_isDie rfl rfl rfl (by decide +kernel) ⟨Nat.le_of_ble_eq_true rfl, Nat.le_of_ble_eq_true rfl⟩) rfl hl.1 rfl (Nat.le_of_ble_eq_true rfl) dX9_roll_8 ⟨Nat.zero_le _, Nat.zero_le _⟩) hP hS hA (fun H locs hP hS => ?_)
    refine lv_if_ne (tgt := 22) hx hb dX9_roll_11 (by decide) (fun cc11 => ?_) (fun cc11 => ?_)
    · have hm := k_in cc11 hm
      refine lv_aload_n hx hb dX9_roll_22 rfl (lv_at hl 0 rfl) ?_
      refine va_get (D := D) (ci := 5) (v := .ref hn) (C := RX9) (T := TX9) (N := 4) hx hb hts hinX9 hown hK hP 0 rfl rfl 0 (by decide) fl10 (fun _ h9 => h9) rfl dX9_roll_23 ?_
      obtain ⟨r3, hc26, hm⟩ := k_bds hm
      have hPc : va_P D vwCl (wG hn c_mover c_phase c_dice c_stake c_cube c_pieces0 c_pieces1 c_score0 c_score1 c_hits0 c_hits1 c_stopped c_stopPart) _ := k_Psub hP [1] rfl
      have hDc : va_D A (wG hn c_mover c_phase c_dice c_stake c_cube c_pieces0 c_pieces1 c_score0 c_score1 c_hits0 c_hits1 c_stopped c_stopPart) := hD.sub [1] (by decide) rfl
      refine k_i_c (Wf := (wX cI cJ cC cG h9 hn ap q ht h0 pa pb pc jk hasS cnt snp G c_mover c_phase c_dice c_stake c_cube c_pieces0 c_pieces1 c_score0 c_score1 c_hits0 c_hits1 c_stopped c_stopPart t_signs t_length)) [1] [0, 2, 3, 4, 5, 6, 7, 8, 9, 10, 11, 12, 13, 14, 15, 16, 17, 18, 19, 20, 21, 22, 23, 24] [0, 24, 1, 2, 3, 4, 5, 6, 7, 8, 9, 10, 11, 12, 13, 14, 15, 16, 17, 18, 19, 20, 21, 22, 23] (k_rV (As := []) (rest := []) ⟨hx, hb, hml, hown, hts⟩ hK hN hPc hDc (zX1_awaitsRoll hc26) (cwV 0 hts gX9_roll_X1_awaitsRoll rfl rfl rfl (by decide +kernel) ⟨Nat.le_of_ble_eq_true rfl, Nat.le_of_ble_eq_true rfl⟩) rfl rfl rfl hl.1 rfl (Nat.le_of_ble_eq_true rfl) dX9_roll_26 ⟨Nat.zero_le _, Nat.zero_le _⟩) hP hD hS hA rfl rfl (by decide) (by decide) rfl (by decide) (fun H locs hP hD hS => ?_)
      refine lv_if_ne (tgt := 40) hx hb dX9_roll_29 (by decide) (fun cc29 => ?_) (fun cc29 => ?_)
      · have hm := k_in cc29 hm
        refine lv_aload_n hx hb dX9_roll_40 rfl (lv_at hl 0 rfl) ?_
        refine va_get (D := D) (ci := 5) (v := .ref (ap 0)) (C := RX9) (T := TX9) (N := 4) hx hb hts hinX9 hown hK hP 0 rfl rfl 1 (by decide) fl19 (fun _ h9 => h9) rfl dX9_roll_41 ?_
        refine lv_aload_n hx hb dX9_roll_44 rfl (lv_at hl 0 rfl) ?_
        refine va_get (D := D) (ci := 5) (v := .ref hn) (C := RX9) (T := TX9) (N := 4) hx hb hts hinX9 hown hK hP 0 rfl rfl 0 (by decide) fl10 (fun _ h9 => h9) rfl dX9_roll_45 ?_
        obtain ⟨w4, w5, hc48, hm⟩ := k_bd2s hm
        have hPc : va_P D vwCl (wPa cG ap q hn hasS cnt snp G c_mover c_phase c_dice c_stake c_cube c_pieces0 c_pieces1 c_score0 c_score1 c_hits0 c_hits1 c_stopped c_stopPart) _ := k_Psub hP [2, 3, 4, 5, 6, 7, 8, 9, 1] rfl
        have hDc : va_D A (wPa cG ap q hn hasS cnt snp G c_mover c_phase c_dice c_stake c_cube c_pieces0 c_pieces1 c_score0 c_score1 c_hits0 c_hits1 c_stopped c_stopPart) := hD.sub [2, 3, 4, 5, 6, 7, 8, 9, 1] (by decide) rfl
        refine k_v_cE (fun u : (Nat → Nat) => (wX cI cJ cC cG h9 hn ap u ht h0 pa pb pc jk hasS w4 snp w5 c_mover c_phase c_dice c_stake c_cube c_pieces0 c_pieces1 c_score0 c_score1 c_hits0 c_hits1 c_stopped c_stopPart t_signs t_length)) [2, 3, 4, 5, 6, 7, 8, 9, 1] [0, 10, 11, 12, 13, 14, 15, 16, 17, 18, 19, 20, 21, 22, 23, 24] [0, 24, 16, 17, 18, 19, 20, 21, 22, 23, 1, 2, 3, 4, 5, 6, 7, 8, 9, 10, 11, 12, 13, 14, 15] (k_rV (As := [.ref hn]) (rest := []) ⟨hx, hb, hml, hown, hts⟩ hK hN hPc hDc (zX2_save hc48) (cwV 1 hts gX9_roll_X2_save rfl rfl rfl (by decide +kernel) ⟨Nat.le_of_ble_eq_true rfl, Nat.le_of_ble_eq_true rfl⟩) rfl rfl rfl hl.1 rfl (Nat.le_of_ble_eq_true rfl) dX9_roll_48 ⟨Nat.zero_le _, Nat.zero_le _⟩) hP hD hS hA rfl rfl (by decide) (by decide) (fun u => rfl) (by decide) (fun u9 H locs hP hD hS => ?_)
        generalize u9 = u6 at hP hD
        have hP : va_P D vwCl (wX cI cJ cC cG h9 hn ap u6 ht h0 pa pb pc jk hasS w4 snp w5 c_mover c_phase c_dice c_stake c_cube c_pieces0 c_pieces1 c_score0 c_score1 c_hits0 c_hits1 c_stopped c_stopPart t_signs t_length) H := hP
        have hD : va_D A (wX cI cJ cC cG h9 hn ap u6 ht h0 pa pb pc jk hasS w4 snp w5 c_mover c_phase c_dice c_stake c_cube c_pieces0 c_pieces1 c_score0 c_score1 c_hits0 c_hits1 c_stopped c_stopPart t_signs t_length) := hD
        refine lv_aload_n hx hb dX9_roll_51 rfl (lv_at hl 0 rfl) ?_
        refine va_get (D := D) (ci := 5) (v := .ref hn) (C := RX9) (T := TX9) (N := 4) hx hb hts hinX9 hown hK hP 0 rfl rfl 0 (by decide) fl10 (fun _ h9 => h9) rfl dX9_roll_52 ?_
        refine lv_iload_n hx hb dX9_roll_55 rfl (lv_at hl 1 rfl) ?_
        refine lv_iload_n hx hb dX9_roll_56 rfl (lv_at hl 2 rfl) ?_
        obtain ⟨w7, w8, hc57, hm⟩ := k_bd2s hm
        have hPc : va_P D vwCl (wG hn c_mover c_phase c_dice c_stake c_cube c_pieces0 c_pieces1 c_score0 c_score1 c_hits0 c_hits1 c_stopped c_stopPart) _ := k_Psub hP [1] rfl
        have hDc : va_D A (wG hn c_mover c_phase c_dice c_stake c_cube c_pieces0 c_pieces1 c_score0 c_score1 c_hits0 c_hits1 c_stopped c_stopPart) := hD.sub [1] (by decide) rfl
        refine k_v_c (Wf := (wX cI cJ cC cG h9 hn ap u6 ht h0 pa pb pc jk hasS w4 snp w5 c_mover w7 w8 c_stake c_cube c_pieces0 c_pieces1 c_score0 c_score1 c_hits0 c_hits1 c_stopped c_stopPart t_signs t_length)) [1] [0, 2, 3, 4, 5, 6, 7, 8, 9, 10, 11, 12, 13, 14, 15, 16, 17, 18, 19, 20, 21, 22, 23, 24] [0, 24, 1, 2, 3, 4, 5, 6, 7, 8, 9, 10, 11, 12, 13, 14, 15, 16, 17, 18, 19, 20, 21, 22, 23] (k_rV (As := [.int a1, .int a2]) (rest := []) ⟨hx, hb, hml, hown, hts⟩ hK hN hPc hDc (zX1_doRoll hc57) (cwV 2 hts gX9_roll_X1_doRoll rfl rfl rfl (by decide +kernel) ⟨Nat.le_of_ble_eq_true rfl, Nat.le_of_ble_eq_true rfl⟩) rfl rfl rfl hl.1 rfl (Nat.le_of_ble_eq_true rfl) dX9_roll_57 ⟨Nat.zero_le _, Nat.zero_le _⟩) hP hD hS hA rfl rfl (by decide) (by decide) rfl (by decide) (fun H locs hP hD hS => ?_)
        refine lv_aload_n hx hb dX9_roll_60 rfl (lv_at hl 0 rfl) ?_
        refine va_get (D := D) (ci := 5) (v := .ref hn) (C := RX9) (T := TX9) (N := 4) hx hb hts hinX9 hown hK hP 0 rfl rfl 0 (by decide) fl10 (fun _ h9 => h9) rfl dX9_roll_61 ?_
        refine va_get (D := D) (ci := 0) (v := .int w8) (C := RX1) (T := TX1) (N := 13) hx hb hts hinX1 hown hK hP 1 rfl rfl 2 (by decide) fl61 (fun _ h9 => h9) rfl dX9_roll_64 ?_
        obtain ⟨r9, hc67, hm⟩ := k_bds hm
        refine k_i_0 (k_rS (As := [.int w8]) (rest := []) ⟨hx, hb, hml, hown, hts⟩ hK hN k_P0 (k_D0 (A := A)) (zX0_count hc67) (va_cwS 1 hts gX9_roll_X0_count rfl rfl rfl (by decide +kernel) ⟨Nat.le_of_ble_eq_true rfl, Nat.le_of_ble_eq_true rfl⟩) rfl hl.1 rfl (Nat.le_of_ble_eq_true rfl) dX9_roll_67 ⟨Nat.zero_le _, Nat.zero_le _⟩) hP hS hA (fun H locs hP hS => ?_)
        cases hm
        exact k_end_iE (u6, pa, pb, jk) hx hb hr hlocks hK hP hD hS dX9_roll_70
      · have hm := k_ip cc29 hm
        cases hm
    · have hm := k_ip cc11 hm
      exact J_14 q pa pb jk cnt G c_phase c_dice _ _ hP hD hS _ (lv_sub hl [] rfl) hm

abbrev rmX9_isPoint : Room := { frames := 0, cells := 0, slots := 0, locals := 0 }
set_option maxHeartbeats 4000000 in
set_option maxRecDepth 100000 in
theorem zX9_isPoint {l : Launch} {D : va_G} {cI cJ cC cG : ClassId} {sz : Nat}  {a0 : Int32} {r : Bool} (hm : mX9_isPoint a0 = some (r)) : k_Mi l yX9_isPoint wsX9_isPoint rmX9_isPoint D (kT cI cJ cC cG) sz ([.int a0] : List Value) [] [] (k_b r) := by
  refine k_st_i (cc := cX9_isPoint) (maxL := 1) (by decide) rfl (Nat.le_of_ble_eq_true rfl) ?_
  intro p e z m below meth c A hx hb hr hml hts hown hlocks hsz hN hA hK hP hD hS ls hl
  have hown : z.vm.findClass RX9 = some m.cls := hown
  have hl : lv_has ls 1 [(0, .int a0)] := hl
  unfold mX9_isPoint at hm
  refine lv_iload_n hx hb dX9_isPoint_0 rfl (lv_at hl 0 rfl) ?_
  refine lv_if_lt (tgt := 14) hx hb dX9_isPoint_1 (by decide) (fun cc1 => ?_) (fun cc1 => ?_)
  · have hm := k_ip cc1 hm
    refine lv_iconst (v := 0) hx hb dX9_isPoint_14 (by decide) ?_
    cases hm
    exact k_end_z false hx hb hr hlocks hK hP hD hS dX9_isPoint_15
  · have hm := k_in cc1 hm
    refine lv_iload_n hx hb dX9_isPoint_4 rfl (lv_at hl 0 rfl) ?_
    refine lv_bipush (v := 16) hx hb dX9_isPoint_5 (by decide) ?_
    refine lv_icmp_ge (tgt := 14) hx hb dX9_isPoint_7 (by decide) (fun cc7 => ?_) (fun cc7 => ?_)
    · have hm := k_ip cc7 hm
      refine lv_iconst (v := 0) hx hb dX9_isPoint_14 (by decide) ?_
      cases hm
      exact k_end_z false hx hb hr hlocks hK hP hD hS dX9_isPoint_15
    · have hm := k_in cc7 hm
      refine lv_iconst (v := 1) hx hb dX9_isPoint_10 (by decide) ?_
      refine lv_goto (tgt := 15) hx hb dX9_isPoint_11 (by decide) ?_
      cases hm
      exact k_end_z true hx hb hr hlocks hK hP hD hS dX9_isPoint_15

abbrev rmX9_isPointOrBar : Room := { frames := 1, cells := 0, slots := 0, locals := 20 }
set_option maxHeartbeats 4000000 in
set_option maxRecDepth 100000 in
theorem zX9_isPointOrBar {l : Launch} {D : va_G} {cI cJ cC cG : ClassId} {sz : Nat}  {a0 : Int32} {r : Bool} (hm : mX9_isPointOrBar a0 = some (r)) : k_Mi l yX9_isPointOrBar wsX9_isPointOrBar rmX9_isPointOrBar D (kT cI cJ cC cG) sz ([.int a0] : List Value) [] [] (k_b r) := by
  refine k_st_i (cc := cX9_isPointOrBar) (maxL := 1) (by decide) rfl (Nat.le_of_ble_eq_true rfl) ?_
  intro p e z m below meth c A hx hb hr hml hts hown hlocks hsz hN hA hK hP hD hS ls hl
  have hown : z.vm.findClass RX9 = some m.cls := hown
  have hl : lv_has ls 1 [(0, .int a0)] := hl
  unfold mX9_isPointOrBar at hm
  refine lv_iload_n hx hb dX9_isPointOrBar_0 rfl (lv_at hl 0 rfl) ?_
  refine lv_iconst (v := (-1)) hx hb dX9_isPointOrBar_1 (by decide) ?_
  refine lv_icmp_eq (tgt := 12) hx hb dX9_isPointOrBar_2 (by decide) (fun cc2 => ?_) (fun cc2 => ?_)
  · have hm := k_ip cc2 hm
    refine lv_iconst (v := 1) hx hb dX9_isPointOrBar_12 (by decide) ?_
    refine lv_goto (tgt := 17) hx hb dX9_isPointOrBar_13 (by decide) ?_
    cases hm
    exact k_end_z true hx hb hr hlocks hK hP hD hS dX9_isPointOrBar_17
  · have hm := k_in cc2 hm
    refine lv_iload_n hx hb dX9_isPointOrBar_5 rfl (lv_at hl 0 rfl) ?_
    obtain ⟨r1, hc6, hm⟩ := k_bds hm
    refine k_i_0 (k_rS (As := [.int a0]) (rest := []) ⟨hx, hb, hml, hown, hts⟩ hK hN k_P0 (k_D0 (A := A)) (zX9_isPoint hc6) (va_cwS 1 hts gX9_isPointOrBar_X9_isPoint rfl rfl rfl (by decide +kernel) ⟨Nat.le_of_ble_eq_true rfl, Nat.le_of_ble_eq_true rfl⟩) rfl hl.1 rfl (Nat.le_of_ble_eq_true rfl) dX9_isPointOrBar_6 ⟨Nat.zero_le _, Nat.zero_le _⟩) hP hS hA (fun H locs hP hS => ?_)
    refine lv_if_eq (tgt := 16) hx hb dX9_isPointOrBar_9 (by decide) (fun cc9 => ?_) (fun cc9 => ?_)
    · have hm := k_ip cc9 hm
      refine lv_iconst (v := 0) hx hb dX9_isPointOrBar_16 (by decide) ?_
      cases hm
      exact k_end_z false hx hb hr hlocks hK hP hD hS dX9_isPointOrBar_17
    · have hm := k_in cc9 hm
      refine lv_iconst (v := 1) hx hb dX9_isPointOrBar_12 (by decide) ?_
      refine lv_goto (tgt := 17) hx hb dX9_isPointOrBar_13 (by decide) ?_
      cases hm
      exact k_end_z true hx hb hr hlocks hK hP hD hS dX9_isPointOrBar_17

abbrev rmX9_step : Room := { frames := 12, cells := 0, slots := 0, locals := 364 }
set_option maxHeartbeats 4000000 in
set_option maxRecDepth 100000 in
theorem zX9_step {l : Launch} {D : va_G} {cI cJ cC cG : ClassId} {sz : Nat} {h9 hn h0 : Nat} {ap q ht pa pb pc : Nat → Nat} {jk : JT} {hasS : Bool} {cnt : Int32} {snp : GT} {G : Nat → GT} {c_mover : Int32} {c_phase : Int32} {c_dice : Int32} {c_stake : Int32} {c_cube : Int32} {c_pieces0 : Int64} {c_pieces1 : Int64} {c_score0 : Int32} {c_score1 : Int32} {c_hits0 : Int32} {c_hits1 : Int32} {c_stopped : Bool} {c_stopPart : Int32} {t_signs : Nat → Int32} {t_length : Int32} {a1 : Int32} {a2 : Int32} {r : Bool} {cnt' : Int32} {G' : Nat → GT} {c_phase' : Int32} {c_dice' : Int32} {c_pieces0' : Int64} {c_pieces1' : Int64} {c_score0' : Int32} {c_score1' : Int32} {c_hits0' : Int32} {c_hits1' : Int32} (hm : mX9_step cnt G c_mover c_phase c_dice c_stake c_cube c_pieces0 c_pieces1 c_score0 c_score1 c_hits0 c_hits1 c_stopped c_stopPart a1 a2 = some (r, cnt', G', c_phase', c_dice', c_pieces0', c_pieces1', c_score0', c_score1', c_hits0', c_hits1')) : k_MiE l yX9_step wsX9_step rmX9_step D (kT cI cJ cC cG) sz ([.ref h9, .int a1, .int a2] : List Value) (wX cI cJ cC cG h9 hn ap q ht h0 pa pb pc jk hasS cnt snp G c_mover c_phase c_dice c_stake c_cube c_pieces0 c_pieces1 c_score0 c_score1 c_hits0 c_hits1 c_stopped c_stopPart t_signs t_length) (fun u : (Nat → Nat) × (Nat → Nat) × (Nat → Nat) × (JT) => (wX cI cJ cC cG h9 hn ap (u.1) ht h0 (u.2.1) (u.2.2.1) pc (u.2.2.2) hasS cnt' snp G' c_mover c_phase' c_dice' c_stake c_cube c_pieces0' c_pieces1' c_score0' c_score1' c_hits0' c_hits1' c_stopped c_stopPart t_signs t_length)) (k_b r) := by
  refine k_st_iE (cc := cX9_step) (maxL := 3) (by decide) rfl (Nat.le_of_ble_eq_true rfl) ?_
  intro p e z m below meth c A hx hb hr hml hts hown hlocks hsz hN hA hK hP hD hS ls hl
  have hown : z.vm.findClass RX9 = some m.cls := hown
  have hinX9 : ∀ w ∈ wsX90, w ∈ wsX9_step := by decide +kernel
  have fl10 := hts (.fieldLink RX9 10 "MagpieRuns" "now" "LMagpieRuns$Game;") (by decide +kernel)
  have fl19 := hts (.fieldLink RX9 19 "MagpieRuns" "past" "LMagpieRuns$Past;") (by decide +kernel)
  have hl : lv_has ls 3 [(0, .ref h9), (1, .int a1), (2, .int a2)] := hl
  unfold mX9_step at hm
  refine lv_iload_n hx hb dX9_step_0 rfl (lv_at hl 1 rfl) ?_
  obtain ⟨r1, hc1, hm⟩ := k_bds hm
  refine k_i_0 (k_rS (As := [.int a1]) (rest := []) ⟨hx, hb, hml, hown, hts⟩ hK hN k_P0 (k_D0 (A := A)) (zX9_isPointOrBar hc1) (va_cwS 1 hts gX9_step_X9_isPointOrBar rfl rfl rfl (by decide +kernel) ⟨Nat.le_of_ble_eq_true rfl, Nat.le_of_ble_eq_true rfl⟩) rfl hl.1 rfl (Nat.le_of_ble_eq_true rfl) dX9_step_1 ⟨Nat.zero_le _, Nat.zero_le _⟩) hP hS hA (fun H locs hP hS => ?_)
  refine lv_if_ne (tgt := 15) hx hb dX9_step_4 (by decide) (fun cc4 => ?_) (fun cc4 => ?_)
  · have hm := k_in cc4 hm
    refine lv_iload_n hx hb dX9_step_15 rfl (lv_at hl 2 rfl) ?_
    obtain ⟨r2, hc16, hm⟩ := k_bds hm
    refine k_i_0 (k_rS (As := [.int a2]) (rest := []) ⟨hx, hb, hml, hown, hts⟩ hK hN k_P0 (k_D0 (A := A)) (zX0_isDie hc16) (va_cwS 1 hts gX9_step_X0_isDie rfl rfl rfl (by decide +kernel) ⟨Nat.le_of_ble_eq_true rfl, Nat.le_of_ble_eq_true rfl⟩) rfl hl.1 rfl (Nat.le_of_ble_eq_true rfl) dX9_step_16 ⟨Nat.zero_le _, Nat.zero_le _⟩) hP hS hA (fun H locs hP hS => ?_)
    refine lv_if_ne (tgt := 30) hx hb dX9_step_19 (by decide) (fun cc19 => ?_) (fun cc19 => ?_)
    · have hm := k_in cc19 hm
      refine lv_aload_n hx hb dX9_step_30 rfl (lv_at hl 0 rfl) ?_
      refine va_get (D := D) (ci := 5) (v := .ref hn) (C := RX9) (T := TX9) (N := 4) hx hb hts hinX9 hown hK hP 0 rfl rfl 0 (by decide) fl10 (fun _ h9 => h9) rfl dX9_step_31 ?_
      refine lv_iload_n hx hb dX9_step_34 rfl (lv_at hl 1 rfl) ?_
      refine lv_iload_n hx hb dX9_step_35 rfl (lv_at hl 2 rfl) ?_
      obtain ⟨r3, hc36, hm⟩ := k_bds hm
      have hPc : va_P D vwCl (wG hn c_mover c_phase c_dice c_stake c_cube c_pieces0 c_pieces1 c_score0 c_score1 c_hits0 c_hits1 c_stopped c_stopPart) _ := k_Psub hP [1] rfl
      have hDc : va_D A (wG hn c_mover c_phase c_dice c_stake c_cube c_pieces0 c_pieces1 c_score0 c_score1 c_hits0 c_hits1 c_stopped c_stopPart) := hD.sub [1] (by decide) rfl
      refine k_i_c (Wf := (wX cI cJ cC cG h9 hn ap q ht h0 pa pb pc jk hasS cnt snp G c_mover c_phase c_dice c_stake c_cube c_pieces0 c_pieces1 c_score0 c_score1 c_hits0 c_hits1 c_stopped c_stopPart t_signs t_length)) [1] [0, 2, 3, 4, 5, 6, 7, 8, 9, 10, 11, 12, 13, 14, 15, 16, 17, 18, 19, 20, 21, 22, 23, 24] [0, 24, 1, 2, 3, 4, 5, 6, 7, 8, 9, 10, 11, 12, 13, 14, 15, 16, 17, 18, 19, 20, 21, 22, 23] (k_rV (As := [.int a1, .int a2]) (rest := []) ⟨hx, hb, hml, hown, hts⟩ hK hN hPc hDc (zX1_reasonAgainst hc36) (cwV 2 hts gX9_step_X1_reasonAgainst rfl rfl rfl (by decide +kernel) ⟨Nat.le_of_ble_eq_true rfl, Nat.le_of_ble_eq_true rfl⟩) rfl rfl rfl hl.1 rfl (Nat.le_of_ble_eq_true rfl) dX9_step_36 ⟨Nat.zero_le _, Nat.zero_le _⟩) hP hD hS hA rfl rfl (by decide) (by decide) rfl (by decide) (fun H locs hP hD hS => ?_)
      refine lv_if_eq (tgt := 50) hx hb dX9_step_39 (by decide) (fun cc39 => ?_) (fun cc39 => ?_)
      · have hm := k_ip cc39 hm
        refine lv_aload_n hx hb dX9_step_50 rfl (lv_at hl 0 rfl) ?_
        refine va_get (D := D) (ci := 5) (v := .ref (ap 0)) (C := RX9) (T := TX9) (N := 4) hx hb hts hinX9 hown hK hP 0 rfl rfl 1 (by decide) fl19 (fun _ h9 => h9) rfl dX9_step_51 ?_
        refine lv_aload_n hx hb dX9_step_54 rfl (lv_at hl 0 rfl) ?_
        refine va_get (D := D) (ci := 5) (v := .ref hn) (C := RX9) (T := TX9) (N := 4) hx hb hts hinX9 hown hK hP 0 rfl rfl 0 (by decide) fl10 (fun _ h9 => h9) rfl dX9_step_55 ?_
        obtain ⟨w4, w5, hc58, hm⟩ := k_bd2s hm
        have hPc : va_P D vwCl (wPa cG ap q hn hasS cnt snp G c_mover c_phase c_dice c_stake c_cube c_pieces0 c_pieces1 c_score0 c_score1 c_hits0 c_hits1 c_stopped c_stopPart) _ := k_Psub hP [2, 3, 4, 5, 6, 7, 8, 9, 1] rfl
        have hDc : va_D A (wPa cG ap q hn hasS cnt snp G c_mover c_phase c_dice c_stake c_cube c_pieces0 c_pieces1 c_score0 c_score1 c_hits0 c_hits1 c_stopped c_stopPart) := hD.sub [2, 3, 4, 5, 6, 7, 8, 9, 1] (by decide) rfl
        refine k_v_cE (fun u : (Nat → Nat) => (wX cI cJ cC cG h9 hn ap u ht h0 pa pb pc jk hasS w4 snp w5 c_mover c_phase c_dice c_stake c_cube c_pieces0 c_pieces1 c_score0 c_score1 c_hits0 c_hits1 c_stopped c_stopPart t_signs t_length)) [2, 3, 4, 5, 6, 7, 8, 9, 1] [0, 10, 11, 12, 13, 14, 15, 16, 17, 18, 19, 20, 21, 22, 23, 24] [0, 24, 16, 17, 18, 19, 20, 21, 22, 23, 1, 2, 3, 4, 5, 6, 7, 8, 9, 10, 11, 12, 13, 14, 15] (k_rV (As := [.ref hn]) (rest := []) ⟨hx, hb, hml, hown, hts⟩ hK hN hPc hDc (zX2_save hc58) (cwV 1 hts gX9_step_X2_save rfl rfl rfl (by decide +kernel) ⟨Nat.le_of_ble_eq_true rfl, Nat.le_of_ble_eq_true rfl⟩) rfl rfl rfl hl.1 rfl (Nat.le_of_ble_eq_true rfl) dX9_step_58 ⟨Nat.zero_le _, Nat.zero_le _⟩) hP hD hS hA rfl rfl (by decide) (by decide) (fun u => rfl) (by decide) (fun u9 H locs hP hD hS => ?_)
        generalize u9 = u6 at hP hD
        have hP : va_P D vwCl (wX cI cJ cC cG h9 hn ap u6 ht h0 pa pb pc jk hasS w4 snp w5 c_mover c_phase c_dice c_stake c_cube c_pieces0 c_pieces1 c_score0 c_score1 c_hits0 c_hits1 c_stopped c_stopPart t_signs t_length) H := hP
        have hD : va_D A (wX cI cJ cC cG h9 hn ap u6 ht h0 pa pb pc jk hasS w4 snp w5 c_mover c_phase c_dice c_stake c_cube c_pieces0 c_pieces1 c_score0 c_score1 c_hits0 c_hits1 c_stopped c_stopPart t_signs t_length) := hD
        refine lv_aload_n hx hb dX9_step_61 rfl (lv_at hl 0 rfl) ?_
        refine va_get (D := D) (ci := 5) (v := .ref hn) (C := RX9) (T := TX9) (N := 4) hx hb hts hinX9 hown hK hP 0 rfl rfl 0 (by decide) fl10 (fun _ h9 => h9) rfl dX9_step_62 ?_
        refine lv_iload_n hx hb dX9_step_65 rfl (lv_at hl 1 rfl) ?_
        refine lv_iload_n hx hb dX9_step_66 rfl (lv_at hl 2 rfl) ?_
        obtain ⟨r7, w8, w9, w10, w11, w12, w13, w14, w15, hc67, hm⟩ := k_bd9s hm
        have hPc : va_P D vwCl (wG hn c_mover c_phase c_dice c_stake c_cube c_pieces0 c_pieces1 c_score0 c_score1 c_hits0 c_hits1 c_stopped c_stopPart) _ := k_Psub hP [1] rfl
        have hDc : va_D A (wG hn c_mover c_phase c_dice c_stake c_cube c_pieces0 c_pieces1 c_score0 c_score1 c_hits0 c_hits1 c_stopped c_stopPart) := hD.sub [1] (by decide) rfl
        refine k_i_c (Wf := (wX cI cJ cC cG h9 hn ap u6 ht h0 pa pb pc jk hasS w4 snp w5 c_mover w8 w9 c_stake c_cube w10 w11 w12 w13 w14 w15 c_stopped c_stopPart t_signs t_length)) [1] [0, 2, 3, 4, 5, 6, 7, 8, 9, 10, 11, 12, 13, 14, 15, 16, 17, 18, 19, 20, 21, 22, 23, 24] [0, 24, 1, 2, 3, 4, 5, 6, 7, 8, 9, 10, 11, 12, 13, 14, 15, 16, 17, 18, 19, 20, 21, 22, 23] (k_rV (As := [.int a1, .int a2]) (rest := []) ⟨hx, hb, hml, hown, hts⟩ hK hN hPc hDc (zX1_doStep hc67) (cwV 2 hts gX9_step_X1_doStep rfl rfl rfl (by decide +kernel) ⟨Nat.le_of_ble_eq_true rfl, Nat.le_of_ble_eq_true rfl⟩) rfl rfl rfl hl.1 rfl (Nat.le_of_ble_eq_true rfl) dX9_step_67 ⟨Nat.zero_le _, Nat.zero_le _⟩) hP hD hS hA rfl rfl (by decide) (by decide) rfl (by decide) (fun H locs hP hD hS => ?_)
        cases hm
        exact k_end_zE (u6, pa, pb, jk) _ hx hb hr hlocks hK hP hD hS dX9_step_70
      · have hm := k_in cc39 hm
        cases hm
    · have hm := k_ip cc19 hm
      cases hm
  · have hm := k_ip cc4 hm
    cases hm

abbrev rmX9_endTurn : Room := { frames := 12, cells := 0, slots := 0, locals := 352 }
set_option maxHeartbeats 4000000 in
set_option maxRecDepth 100000 in
theorem zX9_endTurn {l : Launch} {D : va_G} {cI cJ cC cG : ClassId} {sz : Nat} {h9 hn h0 : Nat} {ap q ht pa pb pc : Nat → Nat} {jk : JT} {hasS : Bool} {cnt : Int32} {snp : GT} {G : Nat → GT} {c_mover : Int32} {c_phase : Int32} {c_dice : Int32} {c_stake : Int32} {c_cube : Int32} {c_pieces0 : Int64} {c_pieces1 : Int64} {c_score0 : Int32} {c_score1 : Int32} {c_hits0 : Int32} {c_hits1 : Int32} {c_stopped : Bool} {c_stopPart : Int32} {t_signs : Nat → Int32} {t_length : Int32} {r : Int32} {cnt' : Int32} {G' : Nat → GT} {c_mover' : Int32} {c_phase' : Int32} {c_dice' : Int32} (hm : mX9_endTurn cnt G c_mover c_phase c_dice c_stake c_cube c_pieces0 c_pieces1 c_score0 c_score1 c_hits0 c_hits1 c_stopped c_stopPart = some (r, cnt', G', c_mover', c_phase', c_dice')) : k_MiE l yX9_endTurn wsX9_endTurn rmX9_endTurn D (kT cI cJ cC cG) sz ([.ref h9] : List Value) (wX cI cJ cC cG h9 hn ap q ht h0 pa pb pc jk hasS cnt snp G c_mover c_phase c_dice c_stake c_cube c_pieces0 c_pieces1 c_score0 c_score1 c_hits0 c_hits1 c_stopped c_stopPart t_signs t_length) (fun u : (Nat → Nat) × (Nat → Nat) × (Nat → Nat) × (JT) => (wX cI cJ cC cG h9 hn ap (u.1) ht h0 (u.2.1) (u.2.2.1) pc (u.2.2.2) hasS cnt' snp G' c_mover' c_phase' c_dice' c_stake c_cube c_pieces0 c_pieces1 c_score0 c_score1 c_hits0 c_hits1 c_stopped c_stopPart t_signs t_length)) r := by
  refine k_st_iE (cc := cX9_endTurn) (maxL := 1) (by decide) rfl (Nat.le_of_ble_eq_true rfl) ?_
  intro p e z m below meth c A hx hb hr hml hts hown hlocks hsz hN hA hK hP hD hS ls hl
  have hown : z.vm.findClass RX9 = some m.cls := hown
  have hinX1 : ∀ w ∈ wsX10, w ∈ wsX9_endTurn := by decide +kernel
  have hinX9 : ∀ w ∈ wsX90, w ∈ wsX9_endTurn := by decide +kernel
  have fl10 := hts (.fieldLink RX9 10 "MagpieRuns" "now" "LMagpieRuns$Game;") (by decide +kernel)
  have fl19 := hts (.fieldLink RX9 19 "MagpieRuns" "past" "LMagpieRuns$Past;") (by decide +kernel)
  have fl89 := hts (.fieldLink RX9 89 "MagpieRuns$Game" "mover" "I") (by decide +kernel)
  have hl : lv_has ls 1 [(0, .ref h9)] := hl
  unfold mX9_endTurn at hm
  refine lv_aload_n hx hb dX9_endTurn_0 rfl (lv_at hl 0 rfl) ?_
  refine va_get (D := D) (ci := 5) (v := .ref hn) (C := RX9) (T := TX9) (N := 4) hx hb hts hinX9 hown hK hP 0 rfl rfl 0 (by decide) fl10 (fun _ h9 => h9) rfl dX9_endTurn_1 ?_
  obtain ⟨r1, hc4, hm⟩ := k_bds hm
  have hPc : va_P D vwCl (wG hn c_mover c_phase c_dice c_stake c_cube c_pieces0 c_pieces1 c_score0 c_score1 c_hits0 c_hits1 c_stopped c_stopPart) _ := k_Psub hP [1] rfl
  have hDc : va_D A (wG hn c_mover c_phase c_dice c_stake c_cube c_pieces0 c_pieces1 c_score0 c_score1 c_hits0 c_hits1 c_stopped c_stopPart) := hD.sub [1] (by decide) rfl
  refine k_i_c (Wf := (wX cI cJ cC cG h9 hn ap q ht h0 pa pb pc jk hasS cnt snp G c_mover c_phase c_dice c_stake c_cube c_pieces0 c_pieces1 c_score0 c_score1 c_hits0 c_hits1 c_stopped c_stopPart t_signs t_length)) [1] [0, 2, 3, 4, 5, 6, 7, 8, 9, 10, 11, 12, 13, 14, 15, 16, 17, 18, 19, 20, 21, 22, 23, 24] [0, 24, 1, 2, 3, 4, 5, 6, 7, 8, 9, 10, 11, 12, 13, 14, 15, 16, 17, 18, 19, 20, 21, 22, 23] (k_rV (As := []) (rest := []) ⟨hx, hb, hml, hown, hts⟩ hK hN hPc hDc (zX1_canEndTurn hc4) (cwV 0 hts gX9_endTurn_X1_canEndTurn rfl rfl rfl (by decide +kernel) ⟨Nat.le_of_ble_eq_true rfl, Nat.le_of_ble_eq_true rfl⟩) rfl rfl rfl hl.1 rfl (Nat.le_of_ble_eq_true rfl) dX9_endTurn_4 ⟨Nat.zero_le _, Nat.zero_le _⟩) hP hD hS hA rfl rfl (by decide) (by decide) rfl (by decide) (fun H locs hP hD hS => ?_)
  refine lv_if_ne (tgt := 18) hx hb dX9_endTurn_7 (by decide) (fun cc7 => ?_) (fun cc7 => ?_)
  · have hm := k_in cc7 hm
    refine lv_aload_n hx hb dX9_endTurn_18 rfl (lv_at hl 0 rfl) ?_
    refine va_get (D := D) (ci := 5) (v := .ref (ap 0)) (C := RX9) (T := TX9) (N := 4) hx hb hts hinX9 hown hK hP 0 rfl rfl 1 (by decide) fl19 (fun _ h9 => h9) rfl dX9_endTurn_19 ?_
    refine lv_aload_n hx hb dX9_endTurn_22 rfl (lv_at hl 0 rfl) ?_
    refine va_get (D := D) (ci := 5) (v := .ref hn) (C := RX9) (T := TX9) (N := 4) hx hb hts hinX9 hown hK hP 0 rfl rfl 0 (by decide) fl10 (fun _ h9 => h9) rfl dX9_endTurn_23 ?_
    obtain ⟨w2, w3, hc26, hm⟩ := k_bd2s hm
    have hPc : va_P D vwCl (wPa cG ap q hn hasS cnt snp G c_mover c_phase c_dice c_stake c_cube c_pieces0 c_pieces1 c_score0 c_score1 c_hits0 c_hits1 c_stopped c_stopPart) _ := k_Psub hP [2, 3, 4, 5, 6, 7, 8, 9, 1] rfl
    have hDc : va_D A (wPa cG ap q hn hasS cnt snp G c_mover c_phase c_dice c_stake c_cube c_pieces0 c_pieces1 c_score0 c_score1 c_hits0 c_hits1 c_stopped c_stopPart) := hD.sub [2, 3, 4, 5, 6, 7, 8, 9, 1] (by decide) rfl
    refine k_v_cE (fun u : (Nat → Nat) => (wX cI cJ cC cG h9 hn ap u ht h0 pa pb pc jk hasS w2 snp w3 c_mover c_phase c_dice c_stake c_cube c_pieces0 c_pieces1 c_score0 c_score1 c_hits0 c_hits1 c_stopped c_stopPart t_signs t_length)) [2, 3, 4, 5, 6, 7, 8, 9, 1] [0, 10, 11, 12, 13, 14, 15, 16, 17, 18, 19, 20, 21, 22, 23, 24] [0, 24, 16, 17, 18, 19, 20, 21, 22, 23, 1, 2, 3, 4, 5, 6, 7, 8, 9, 10, 11, 12, 13, 14, 15] (k_rV (As := [.ref hn]) (rest := []) ⟨hx, hb, hml, hown, hts⟩ hK hN hPc hDc (zX2_save hc26) (cwV 1 hts gX9_endTurn_X2_save rfl rfl rfl (by decide +kernel) ⟨Nat.le_of_ble_eq_true rfl, Nat.le_of_ble_eq_true rfl⟩) rfl rfl rfl hl.1 rfl (Nat.le_of_ble_eq_true rfl) dX9_endTurn_26 ⟨Nat.zero_le _, Nat.zero_le _⟩) hP hD hS hA rfl rfl (by decide) (by decide) (fun u => rfl) (by decide) (fun u9 H locs hP hD hS => ?_)
    generalize u9 = u4 at hP hD
    have hP : va_P D vwCl (wX cI cJ cC cG h9 hn ap u4 ht h0 pa pb pc jk hasS w2 snp w3 c_mover c_phase c_dice c_stake c_cube c_pieces0 c_pieces1 c_score0 c_score1 c_hits0 c_hits1 c_stopped c_stopPart t_signs t_length) H := hP
    have hD : va_D A (wX cI cJ cC cG h9 hn ap u4 ht h0 pa pb pc jk hasS w2 snp w3 c_mover c_phase c_dice c_stake c_cube c_pieces0 c_pieces1 c_score0 c_score1 c_hits0 c_hits1 c_stopped c_stopPart t_signs t_length) := hD
    refine lv_aload_n hx hb dX9_endTurn_29 rfl (lv_at hl 0 rfl) ?_
    refine va_get (D := D) (ci := 5) (v := .ref hn) (C := RX9) (T := TX9) (N := 4) hx hb hts hinX9 hown hK hP 0 rfl rfl 0 (by decide) fl10 (fun _ h9 => h9) rfl dX9_endTurn_30 ?_
    obtain ⟨w5, w6, w7, hc33, hm⟩ := k_bd3s hm
    have hPc : va_P D vwCl (wG hn c_mover c_phase c_dice c_stake c_cube c_pieces0 c_pieces1 c_score0 c_score1 c_hits0 c_hits1 c_stopped c_stopPart) _ := k_Psub hP [1] rfl
    have hDc : va_D A (wG hn c_mover c_phase c_dice c_stake c_cube c_pieces0 c_pieces1 c_score0 c_score1 c_hits0 c_hits1 c_stopped c_stopPart) := hD.sub [1] (by decide) rfl
    refine k_v_c (Wf := (wX cI cJ cC cG h9 hn ap u4 ht h0 pa pb pc jk hasS w2 snp w3 w5 w6 w7 c_stake c_cube c_pieces0 c_pieces1 c_score0 c_score1 c_hits0 c_hits1 c_stopped c_stopPart t_signs t_length)) [1] [0, 2, 3, 4, 5, 6, 7, 8, 9, 10, 11, 12, 13, 14, 15, 16, 17, 18, 19, 20, 21, 22, 23, 24] [0, 24, 1, 2, 3, 4, 5, 6, 7, 8, 9, 10, 11, 12, 13, 14, 15, 16, 17, 18, 19, 20, 21, 22, 23] (k_rV (As := []) (rest := []) ⟨hx, hb, hml, hown, hts⟩ hK hN hPc hDc (zX1_doEndTurn hc33) (cwV 0 hts gX9_endTurn_X1_doEndTurn rfl rfl rfl (by decide +kernel) ⟨Nat.le_of_ble_eq_true rfl, Nat.le_of_ble_eq_true rfl⟩) rfl rfl rfl hl.1 rfl (Nat.le_of_ble_eq_true rfl) dX9_endTurn_33 ⟨Nat.zero_le _, Nat.zero_le _⟩) hP hD hS hA rfl rfl (by decide) (by decide) rfl (by decide) (fun H locs hP hD hS => ?_)
    refine lv_aload_n hx hb dX9_endTurn_36 rfl (lv_at hl 0 rfl) ?_
    refine va_get (D := D) (ci := 5) (v := .ref hn) (C := RX9) (T := TX9) (N := 4) hx hb hts hinX9 hown hK hP 0 rfl rfl 0 (by decide) fl10 (fun _ h9 => h9) rfl dX9_endTurn_37 ?_
    refine va_get (D := D) (ci := 0) (v := .int w5) (C := RX1) (T := TX1) (N := 13) hx hb hts hinX1 hown hK hP 1 rfl rfl 0 (by decide) fl89 (fun _ h9 => h9) rfl dX9_endTurn_40 ?_
    cases hm
    exact k_end_iE (u4, pa, pb, jk) hx hb hr hlocks hK hP hD hS dX9_endTurn_43
  · have hm := k_ip cc7 hm
    cases hm

abbrev rmX9_isPlayer : Room := { frames := 0, cells := 0, slots := 0, locals := 0 }
set_option maxHeartbeats 4000000 in
set_option maxRecDepth 100000 in
theorem zX9_isPlayer {l : Launch} {D : va_G} {cI cJ cC cG : ClassId} {sz : Nat}  {a0 : Int32} {r : Bool} (hm : mX9_isPlayer a0 = some (r)) : k_Mi l yX9_isPlayer wsX9_isPlayer rmX9_isPlayer D (kT cI cJ cC cG) sz ([.int a0] : List Value) [] [] (k_b r) := by
  refine k_st_i (cc := cX9_isPlayer) (maxL := 1) (by decide) rfl (Nat.le_of_ble_eq_true rfl) ?_
  intro p e z m below meth c A hx hb hr hml hts hown hlocks hsz hN hA hK hP hD hS ls hl
  have hown : z.vm.findClass RX9 = some m.cls := hown
  have hl : lv_has ls 1 [(0, .int a0)] := hl
  unfold mX9_isPlayer at hm
  refine lv_iload_n hx hb dX9_isPlayer_0 rfl (lv_at hl 0 rfl) ?_
  refine lv_if_eq (tgt := 9) hx hb dX9_isPlayer_1 (by decide) (fun cc1 => ?_) (fun cc1 => ?_)
  · have hm := k_ip cc1 hm
    refine lv_iconst (v := 1) hx hb dX9_isPlayer_9 (by decide) ?_
    refine lv_goto (tgt := 14) hx hb dX9_isPlayer_10 (by decide) ?_
    cases hm
    exact k_end_z true hx hb hr hlocks hK hP hD hS dX9_isPlayer_14
  · have hm := k_in cc1 hm
    refine lv_iload_n hx hb dX9_isPlayer_4 rfl (lv_at hl 0 rfl) ?_
    refine lv_iconst (v := 1) hx hb dX9_isPlayer_5 (by decide) ?_
    refine lv_icmp_ne (tgt := 13) hx hb dX9_isPlayer_6 (by decide) (fun cc6 => ?_) (fun cc6 => ?_)
    · have hm := k_in cc6 hm
      refine lv_iconst (v := 0) hx hb dX9_isPlayer_13 (by decide) ?_
      cases hm
      exact k_end_z false hx hb hr hlocks hK hP hD hS dX9_isPlayer_14
    · have hm := k_ip cc6 hm
      refine lv_iconst (v := 1) hx hb dX9_isPlayer_9 (by decide) ?_
      refine lv_goto (tgt := 14) hx hb dX9_isPlayer_10 (by decide) ?_
      cases hm
      exact k_end_z true hx hb hr hlocks hK hP hD hS dX9_isPlayer_14

abbrev rmX9_isPlace : Room := { frames := 2, cells := 0, slots := 0, locals := 40 }
set_option maxHeartbeats 4000000 in
set_option maxRecDepth 100000 in
theorem zX9_isPlace {l : Launch} {D : va_G} {cI cJ cC cG : ClassId} {sz : Nat}  {a0 : Int32} {r : Bool} (hm : mX9_isPlace a0 = some (r)) : k_Mi l yX9_isPlace wsX9_isPlace rmX9_isPlace D (kT cI cJ cC cG) sz ([.int a0] : List Value) [] [] (k_b r) := by
  refine k_st_i (cc := cX9_isPlace) (maxL := 1) (by decide) rfl (Nat.le_of_ble_eq_true rfl) ?_
  intro p e z m below meth c A hx hb hr hml hts hown hlocks hsz hN hA hK hP hD hS ls hl
  have hown : z.vm.findClass RX9 = some m.cls := hown
  have hl : lv_has ls 1 [(0, .int a0)] := hl
  unfold mX9_isPlace at hm
  refine lv_iload_n hx hb dX9_isPlace_0 rfl (lv_at hl 0 rfl) ?_
  obtain ⟨r1, hc1, hm⟩ := k_bds hm
  refine k_i_0 (k_rS (As := [.int a0]) (rest := []) ⟨hx, hb, hml, hown, hts⟩ hK hN k_P0 (k_D0 (A := A)) (zX9_isPointOrBar hc1) (va_cwS 1 hts gX9_isPlace_X9_isPointOrBar rfl rfl rfl (by decide +kernel) ⟨Nat.le_of_ble_eq_true rfl, Nat.le_of_ble_eq_true rfl⟩) rfl hl.1 rfl (Nat.le_of_ble_eq_true rfl) dX9_isPlace_1 ⟨Nat.zero_le _, Nat.zero_le _⟩) hP hS hA (fun H locs hP hS => ?_)
  refine lv_if_ne (tgt := 13) hx hb dX9_isPlace_4 (by decide) (fun cc4 => ?_) (fun cc4 => ?_)
  · have hm := k_in cc4 hm
    refine lv_iconst (v := 1) hx hb dX9_isPlace_13 (by decide) ?_
    refine lv_goto (tgt := 18) hx hb dX9_isPlace_14 (by decide) ?_
    cases hm
    exact k_end_z true hx hb hr hlocks hK hP hD hS dX9_isPlace_18
  · have hm := k_ip cc4 hm
    refine lv_iload_n hx hb dX9_isPlace_7 rfl (lv_at hl 0 rfl) ?_
    refine lv_bipush (v := 16) hx hb dX9_isPlace_8 (by decide) ?_
    refine lv_icmp_ne (tgt := 17) hx hb dX9_isPlace_10 (by decide) (fun cc10 => ?_) (fun cc10 => ?_)
    · have hm := k_in cc10 hm
      refine lv_iconst (v := 0) hx hb dX9_isPlace_17 (by decide) ?_
      cases hm
      exact k_end_z false hx hb hr hlocks hK hP hD hS dX9_isPlace_18
    · have hm := k_ip cc10 hm
      refine lv_iconst (v := 1) hx hb dX9_isPlace_13 (by decide) ?_
      refine lv_goto (tgt := 18) hx hb dX9_isPlace_14 (by decide) ?_
      cases hm
      exact k_end_z true hx hb hr hlocks hK hP hD hS dX9_isPlace_18

abbrev rmX9_carry : Room := { frames := 4, cells := 0, slots := 0, locals := 122 }
set_option maxHeartbeats 4000000 in
set_option maxRecDepth 100000 in
theorem zX9_carry {l : Launch} {D : va_G} {cI cJ cC cG : ClassId} {sz : Nat} {h9 hn h0 : Nat} {ap q ht pa pb pc : Nat → Nat} {jk : JT} {hasS : Bool} {cnt : Int32} {snp : GT} {G : Nat → GT} {c_mover : Int32} {c_phase : Int32} {c_dice : Int32} {c_stake : Int32} {c_cube : Int32} {c_pieces0 : Int64} {c_pieces1 : Int64} {c_score0 : Int32} {c_score1 : Int32} {c_hits0 : Int32} {c_hits1 : Int32} {c_stopped : Bool} {c_stopPart : Int32} {t_signs : Nat → Int32} {t_length : Int32} {a1 : Int32} {a2 : Int32} {a3 : Int32} {r : Int32} {cnt' : Int32} {G' : Nat → GT} {c_pieces0' : Int64} {c_pieces1' : Int64} (hm : mX9_carry cnt G c_mover c_phase c_dice c_stake c_cube c_pieces0 c_pieces1 c_score0 c_score1 c_hits0 c_hits1 c_stopped c_stopPart a1 a2 a3 = some (r, cnt', G', c_pieces0', c_pieces1')) : k_MiE l yX9_carry wsX9_carry rmX9_carry D (kT cI cJ cC cG) sz ([.ref h9, .int a1, .int a2, .int a3] : List Value) (wX cI cJ cC cG h9 hn ap q ht h0 pa pb pc jk hasS cnt snp G c_mover c_phase c_dice c_stake c_cube c_pieces0 c_pieces1 c_score0 c_score1 c_hits0 c_hits1 c_stopped c_stopPart t_signs t_length) (fun u : (Nat → Nat) × (Nat → Nat) × (Nat → Nat) × (JT) => (wX cI cJ cC cG h9 hn ap (u.1) ht h0 (u.2.1) (u.2.2.1) pc (u.2.2.2) hasS cnt' snp G' c_mover c_phase c_dice c_stake c_cube c_pieces0' c_pieces1' c_score0 c_score1 c_hits0 c_hits1 c_stopped c_stopPart t_signs t_length)) r := by
  refine k_st_iE (cc := cX9_carry) (maxL := 4) (by decide) rfl (Nat.le_of_ble_eq_true rfl) ?_
  intro p e z m below meth c A hx hb hr hml hts hown hlocks hsz hN hA hK hP hD hS ls hl
  have hown : z.vm.findClass RX9 = some m.cls := hown
  have hinX9 : ∀ w ∈ wsX90, w ∈ wsX9_carry := by decide +kernel
  have fl10 := hts (.fieldLink RX9 10 "MagpieRuns" "now" "LMagpieRuns$Game;") (by decide +kernel)
  have fl19 := hts (.fieldLink RX9 19 "MagpieRuns" "past" "LMagpieRuns$Past;") (by decide +kernel)
  have hl : lv_has ls 4 [(0, .ref h9), (1, .int a1), (2, .int a2), (3, .int a3)] := hl
  have J_21 : ∀ (q : Nat → Nat) (pa : Nat → Nat) (pb : Nat → Nat) (jk : JT) (cnt : Int32) (G : Nat → GT) (c_pieces0 : Int64) (c_pieces1 : Int64) (H : Heap) (locs : List Loc), va_P D vwCl (wX cI cJ cC cG h9 hn ap q ht h0 pa pb pc jk hasS cnt snp G c_mover c_phase c_dice c_stake c_cube c_pieces0 c_pieces1 c_score0 c_score1 c_hits0 c_hits1 c_stopped c_stopPart t_signs t_length) H → va_D A (wX cI cJ cC cG h9 hn ap q ht h0 pa pb pc jk hasS cnt snp G c_mover c_phase c_dice c_stake c_cube c_pieces0 c_pieces1 c_score0 c_score1 c_hits0 c_hits1 c_stopped c_stopPart t_signs t_length) → va_S A z.heap H locs → ∀ ls : Array Slot, lv_has ls 4 [] → mX9_carry_21 c_mover c_phase c_dice c_stake c_cube c_score0 c_score1 c_hits0 c_hits1 c_stopped c_stopPart a1 a2 a3 cnt G c_pieces0 c_pieces1 = some (r, cnt', G', c_pieces0', c_pieces1') → W p l e rmX9_carry z m ([.ref h9, .int a1, .int a2, .int a3] : List Value).toArray below meth c H locs 0 0 (k_QiE below ([.ref h9, .int a1, .int a2, .int a3] : List Value) D (kT cI cJ cC cG) z A (fun u : (Nat → Nat) × (Nat → Nat) × (Nat → Nat) × (JT) => (wX cI cJ cC cG h9 hn ap (u.1) ht h0 (u.2.1) (u.2.2.1) pc (u.2.2.2) hasS cnt' snp G' c_mover c_phase c_dice c_stake c_cube c_pieces0' c_pieces1' c_score0 c_score1 c_hits0 c_hits1 c_stopped c_stopPart t_signs t_length)) r) (F0 m 21 ls []) := by
    intro q pa pb jk cnt G c_pieces0 c_pieces1 H locs hP hD hS ls hl hm
    unfold mX9_carry_21 at hm
    cases hm
  unfold mX9_carry at hm
  refine lv_iload_n hx hb dX9_carry_0 rfl (lv_at hl 1 rfl) ?_
  obtain ⟨r1, hc1, hm⟩ := k_bds hm
  refine k_i_0 (k_rS (As := [.int a1]) (rest := []) ⟨hx, hb, hml, hown, hts⟩ hK hN k_P0 (k_D0 (A := A)) (zX9_isPlayer hc1) (va_cwS 1 hts gX9_carry_X9_isPlayer rfl rfl rfl (by decide +kernel) ⟨Nat.le_of_ble_eq_true rfl, Nat.le_of_ble_eq_true rfl⟩) rfl hl.1 rfl (Nat.le_of_ble_eq_true rfl) dX9_carry_1 ⟨Nat.zero_le _, Nat.zero_le _⟩) hP hS hA (fun H locs hP hS => ?_)
  refine lv_if_eq (tgt := 21) hx hb dX9_carry_4 (by decide) (fun cc4 => ?_) (fun cc4 => ?_)
  · have hm := k_ip cc4 hm
    exact J_21 q pa pb jk cnt G c_pieces0 c_pieces1 _ _ hP hD hS _ (lv_sub hl [] rfl) hm
  · have hm := k_in cc4 hm
    refine lv_iload_n hx hb dX9_carry_7 rfl (lv_at hl 2 rfl) ?_
    obtain ⟨r2, hc8, hm⟩ := k_bds hm
    refine k_i_0 (k_rS (As := [.int a2]) (rest := []) ⟨hx, hb, hml, hown, hts⟩ hK hN k_P0 (k_D0 (A := A)) (zX9_isPlace hc8) (va_cwS 1 hts gX9_carry_X9_isPlace rfl rfl rfl (by decide +kernel) ⟨Nat.le_of_ble_eq_true rfl, Nat.le_of_ble_eq_true rfl⟩) rfl hl.1 rfl (Nat.le_of_ble_eq_true rfl) dX9_carry_8 ⟨Nat.zero_le _, Nat.zero_le _⟩) hP hS hA (fun H locs hP hS => ?_)
    refine lv_if_eq (tgt := 21) hx hb dX9_carry_11 (by decide) (fun cc11 => ?_) (fun cc11 => ?_)
    · have hm := k_ip cc11 hm
      exact J_21 q pa pb jk cnt G c_pieces0 c_pieces1 _ _ hP hD hS _ (lv_sub hl [] rfl) hm
    · have hm := k_in cc11 hm
      refine lv_iload_n hx hb dX9_carry_14 rfl (lv_at hl 3 rfl) ?_
      obtain ⟨r3, hc15, hm⟩ := k_bds hm
      refine k_i_0 (k_rS (As := [.int a3]) (rest := []) ⟨hx, hb, hml, hown, hts⟩ hK hN k_P0 (k_D0 (A := A)) (zX9_isPlace hc15) (va_cwS 1 hts gX9_carry_X9_isPlace rfl rfl rfl (by decide +kernel) ⟨Nat.le_of_ble_eq_true rfl, Nat.le_of_ble_eq_true rfl⟩) rfl hl.1 rfl (Nat.le_of_ble_eq_true rfl) dX9_carry_15 ⟨Nat.zero_le _, Nat.zero_le _⟩) hP hS hA (fun H locs hP hS => ?_)
      refine lv_if_ne (tgt := 29) hx hb dX9_carry_18 (by decide) (fun cc18 => ?_) (fun cc18 => ?_)
      · have hm := k_in cc18 hm
        refine lv_aload_n hx hb dX9_carry_29 rfl (lv_at hl 0 rfl) ?_
        refine va_get (D := D) (ci := 5) (v := .ref hn) (C := RX9) (T := TX9) (N := 4) hx hb hts hinX9 hown hK hP 0 rfl rfl 0 (by decide) fl10 (fun _ h9 => h9) rfl dX9_carry_30 ?_
        refine lv_iload_n hx hb dX9_carry_33 rfl (lv_at hl 1 rfl) ?_
        refine lv_iload_n hx hb dX9_carry_34 rfl (lv_at hl 2 rfl) ?_
        refine lv_iload_n hx hb dX9_carry_35 rfl (lv_at hl 3 rfl) ?_
        obtain ⟨r4, hc36, hm⟩ := k_bds hm
        have hPc : va_P D vwCl (wG hn c_mover c_phase c_dice c_stake c_cube c_pieces0 c_pieces1 c_score0 c_score1 c_hits0 c_hits1 c_stopped c_stopPart) _ := k_Psub hP [1] rfl
        have hDc : va_D A (wG hn c_mover c_phase c_dice c_stake c_cube c_pieces0 c_pieces1 c_score0 c_score1 c_hits0 c_hits1 c_stopped c_stopPart) := hD.sub [1] (by decide) rfl
        refine k_i_c (Wf := (wX cI cJ cC cG h9 hn ap q ht h0 pa pb pc jk hasS cnt snp G c_mover c_phase c_dice c_stake c_cube c_pieces0 c_pieces1 c_score0 c_score1 c_hits0 c_hits1 c_stopped c_stopPart t_signs t_length)) [1] [0, 2, 3, 4, 5, 6, 7, 8, 9, 10, 11, 12, 13, 14, 15, 16, 17, 18, 19, 20, 21, 22, 23, 24] [0, 24, 1, 2, 3, 4, 5, 6, 7, 8, 9, 10, 11, 12, 13, 14, 15, 16, 17, 18, 19, 20, 21, 22, 23] (k_rV (As := [.int a1, .int a2, .int a3]) (rest := []) ⟨hx, hb, hml, hown, hts⟩ hK hN hPc hDc (zX1_canCarry hc36) (cwV 3 hts gX9_carry_X1_canCarry rfl rfl rfl (by decide +kernel) ⟨Nat.le_of_ble_eq_true rfl, Nat.le_of_ble_eq_true rfl⟩) rfl rfl rfl hl.1 rfl (Nat.le_of_ble_eq_true rfl) dX9_carry_36 ⟨Nat.zero_le _, Nat.zero_le _⟩) hP hD hS hA rfl rfl (by decide) (by decide) rfl (by decide) (fun H locs hP hD hS => ?_)
        refine lv_if_ne (tgt := 50) hx hb dX9_carry_39 (by decide) (fun cc39 => ?_) (fun cc39 => ?_)
        · have hm := k_in cc39 hm
          refine lv_aload_n hx hb dX9_carry_50 rfl (lv_at hl 0 rfl) ?_
          refine va_get (D := D) (ci := 5) (v := .ref (ap 0)) (C := RX9) (T := TX9) (N := 4) hx hb hts hinX9 hown hK hP 0 rfl rfl 1 (by decide) fl19 (fun _ h9 => h9) rfl dX9_carry_51 ?_
          refine lv_aload_n hx hb dX9_carry_54 rfl (lv_at hl 0 rfl) ?_
          refine va_get (D := D) (ci := 5) (v := .ref hn) (C := RX9) (T := TX9) (N := 4) hx hb hts hinX9 hown hK hP 0 rfl rfl 0 (by decide) fl10 (fun _ h9 => h9) rfl dX9_carry_55 ?_
          obtain ⟨w5, w6, hc58, hm⟩ := k_bd2s hm
          have hPc : va_P D vwCl (wPa cG ap q hn hasS cnt snp G c_mover c_phase c_dice c_stake c_cube c_pieces0 c_pieces1 c_score0 c_score1 c_hits0 c_hits1 c_stopped c_stopPart) _ := k_Psub hP [2, 3, 4, 5, 6, 7, 8, 9, 1] rfl
          have hDc : va_D A (wPa cG ap q hn hasS cnt snp G c_mover c_phase c_dice c_stake c_cube c_pieces0 c_pieces1 c_score0 c_score1 c_hits0 c_hits1 c_stopped c_stopPart) := hD.sub [2, 3, 4, 5, 6, 7, 8, 9, 1] (by decide) rfl
          refine k_v_cE (fun u : (Nat → Nat) => (wX cI cJ cC cG h9 hn ap u ht h0 pa pb pc jk hasS w5 snp w6 c_mover c_phase c_dice c_stake c_cube c_pieces0 c_pieces1 c_score0 c_score1 c_hits0 c_hits1 c_stopped c_stopPart t_signs t_length)) [2, 3, 4, 5, 6, 7, 8, 9, 1] [0, 10, 11, 12, 13, 14, 15, 16, 17, 18, 19, 20, 21, 22, 23, 24] [0, 24, 16, 17, 18, 19, 20, 21, 22, 23, 1, 2, 3, 4, 5, 6, 7, 8, 9, 10, 11, 12, 13, 14, 15] (k_rV (As := [.ref hn]) (rest := []) ⟨hx, hb, hml, hown, hts⟩ hK hN hPc hDc (zX2_save hc58) (cwV 1 hts gX9_carry_X2_save rfl rfl rfl (by decide +kernel) ⟨Nat.le_of_ble_eq_true rfl, Nat.le_of_ble_eq_true rfl⟩) rfl rfl rfl hl.1 rfl (Nat.le_of_ble_eq_true rfl) dX9_carry_58 ⟨Nat.zero_le _, Nat.zero_le _⟩) hP hD hS hA rfl rfl (by decide) (by decide) (fun u => rfl) (by decide) (fun u9 H locs hP hD hS => ?_)
          generalize u9 = u7 at hP hD
          have hP : va_P D vwCl (wX cI cJ cC cG h9 hn ap u7 ht h0 pa pb pc jk hasS w5 snp w6 c_mover c_phase c_dice c_stake c_cube c_pieces0 c_pieces1 c_score0 c_score1 c_hits0 c_hits1 c_stopped c_stopPart t_signs t_length) H := hP
          have hD : va_D A (wX cI cJ cC cG h9 hn ap u7 ht h0 pa pb pc jk hasS w5 snp w6 c_mover c_phase c_dice c_stake c_cube c_pieces0 c_pieces1 c_score0 c_score1 c_hits0 c_hits1 c_stopped c_stopPart t_signs t_length) := hD
          refine lv_aload_n hx hb dX9_carry_61 rfl (lv_at hl 0 rfl) ?_
          refine va_get (D := D) (ci := 5) (v := .ref hn) (C := RX9) (T := TX9) (N := 4) hx hb hts hinX9 hown hK hP 0 rfl rfl 0 (by decide) fl10 (fun _ h9 => h9) rfl dX9_carry_62 ?_
          refine lv_iload_n hx hb dX9_carry_65 rfl (lv_at hl 1 rfl) ?_
          refine lv_iload_n hx hb dX9_carry_66 rfl (lv_at hl 2 rfl) ?_
          refine lv_iload_n hx hb dX9_carry_67 rfl (lv_at hl 3 rfl) ?_
          obtain ⟨w8, w9, hc68, hm⟩ := k_bd2s hm
          have hPc : va_P D vwCl (wG hn c_mover c_phase c_dice c_stake c_cube c_pieces0 c_pieces1 c_score0 c_score1 c_hits0 c_hits1 c_stopped c_stopPart) _ := k_Psub hP [1] rfl
          have hDc : va_D A (wG hn c_mover c_phase c_dice c_stake c_cube c_pieces0 c_pieces1 c_score0 c_score1 c_hits0 c_hits1 c_stopped c_stopPart) := hD.sub [1] (by decide) rfl
          refine k_v_c (Wf := (wX cI cJ cC cG h9 hn ap u7 ht h0 pa pb pc jk hasS w5 snp w6 c_mover c_phase c_dice c_stake c_cube w8 w9 c_score0 c_score1 c_hits0 c_hits1 c_stopped c_stopPart t_signs t_length)) [1] [0, 2, 3, 4, 5, 6, 7, 8, 9, 10, 11, 12, 13, 14, 15, 16, 17, 18, 19, 20, 21, 22, 23, 24] [0, 24, 1, 2, 3, 4, 5, 6, 7, 8, 9, 10, 11, 12, 13, 14, 15, 16, 17, 18, 19, 20, 21, 22, 23] (k_rV (As := [.int a1, .int a2, .int a3]) (rest := []) ⟨hx, hb, hml, hown, hts⟩ hK hN hPc hDc (zX1_doCarry hc68) (cwV 3 hts gX9_carry_X1_doCarry rfl rfl rfl (by decide +kernel) ⟨Nat.le_of_ble_eq_true rfl, Nat.le_of_ble_eq_true rfl⟩) rfl rfl rfl hl.1 rfl (Nat.le_of_ble_eq_true rfl) dX9_carry_68 ⟨Nat.zero_le _, Nat.zero_le _⟩) hP hD hS hA rfl rfl (by decide) (by decide) rfl (by decide) (fun H locs hP hD hS => ?_)
          refine lv_aload_n hx hb dX9_carry_71 rfl (lv_at hl 0 rfl) ?_
          refine va_get (D := D) (ci := 5) (v := .ref hn) (C := RX9) (T := TX9) (N := 4) hx hb hts hinX9 hown hK hP 0 rfl rfl 0 (by decide) fl10 (fun _ h9 => h9) rfl dX9_carry_72 ?_
          refine lv_iload_n hx hb dX9_carry_75 rfl (lv_at hl 1 rfl) ?_
          obtain ⟨r10, hc76, hm⟩ := k_bds hm
          have hPc : va_P D vwCl (wG hn c_mover c_phase c_dice c_stake c_cube w8 w9 c_score0 c_score1 c_hits0 c_hits1 c_stopped c_stopPart) _ := k_Psub hP [1] rfl
          have hDc : va_D A (wG hn c_mover c_phase c_dice c_stake c_cube w8 w9 c_score0 c_score1 c_hits0 c_hits1 c_stopped c_stopPart) := hD.sub [1] (by decide) rfl
          refine k_l_c (Wf := (wX cI cJ cC cG h9 hn ap u7 ht h0 pa pb pc jk hasS w5 snp w6 c_mover c_phase c_dice c_stake c_cube w8 w9 c_score0 c_score1 c_hits0 c_hits1 c_stopped c_stopPart t_signs t_length)) [1] [0, 2, 3, 4, 5, 6, 7, 8, 9, 10, 11, 12, 13, 14, 15, 16, 17, 18, 19, 20, 21, 22, 23, 24] [0, 24, 1, 2, 3, 4, 5, 6, 7, 8, 9, 10, 11, 12, 13, 14, 15, 16, 17, 18, 19, 20, 21, 22, 23] (k_rV (As := [.int a1]) (rest := []) ⟨hx, hb, hml, hown, hts⟩ hK hN hPc hDc (zX1_piecesOf hc76) (cwV 1 hts gX9_carry_X1_piecesOf rfl rfl rfl (by decide +kernel) ⟨Nat.le_of_ble_eq_true rfl, Nat.le_of_ble_eq_true rfl⟩) rfl rfl rfl hl.1 rfl (Nat.le_of_ble_eq_true rfl) dX9_carry_76 ⟨Nat.zero_le _, Nat.zero_le _⟩) hP hD hS hA rfl rfl (by decide) (by decide) rfl (by decide) (fun H locs hP hD hS => ?_)
          obtain ⟨r11, hc79, hm⟩ := k_bds hm
          refine k_i_0 (k_rS (As := [.long r10]) (rest := []) ⟨hx, hb, hml, hown, hts⟩ hK hN k_P0 (k_D0 (A := A)) (zX3_sumOfWays hc79) (va_cwS 1 hts gX9_carry_X3_sumOfWays rfl rfl rfl (by decide +kernel) ⟨Nat.le_of_ble_eq_true rfl, Nat.le_of_ble_eq_true rfl⟩) rfl hl.1 rfl (Nat.le_of_ble_eq_true rfl) dX9_carry_79 ⟨Nat.zero_le _, Nat.zero_le _⟩) hP hS hA (fun H locs hP hS => ?_)
          cases hm
          exact k_end_iE (u7, pa, pb, jk) hx hb hr hlocks hK hP hD hS dX9_carry_82
        · have hm := k_ip cc39 hm
          cases hm
      · have hm := k_ip cc18 hm
        exact J_21 q pa pb jk cnt G c_pieces0 c_pieces1 _ _ hP hD hS _ (lv_sub hl [] rfl) hm

abbrev rmX9_offer : Room := { frames := 4, cells := 0, slots := 0, locals := 122 }
set_option maxHeartbeats 4000000 in
set_option maxRecDepth 100000 in
theorem zX9_offer {l : Launch} {D : va_G} {cI cJ cC cG : ClassId} {sz : Nat} {h9 hn h0 : Nat} {ap q ht pa pb pc : Nat → Nat} {jk : JT} {hasS : Bool} {cnt : Int32} {snp : GT} {G : Nat → GT} {c_mover : Int32} {c_phase : Int32} {c_dice : Int32} {c_stake : Int32} {c_cube : Int32} {c_pieces0 : Int64} {c_pieces1 : Int64} {c_score0 : Int32} {c_score1 : Int32} {c_hits0 : Int32} {c_hits1 : Int32} {c_stopped : Bool} {c_stopPart : Int32} {t_signs : Nat → Int32} {t_length : Int32} {r : Int32} {cnt' : Int32} {G' : Nat → GT} {c_phase' : Int32} (hm : mX9_offer cnt G c_mover c_phase c_dice c_stake c_cube c_pieces0 c_pieces1 c_score0 c_score1 c_hits0 c_hits1 c_stopped c_stopPart = some (r, cnt', G', c_phase')) : k_MiE l yX9_offer wsX9_offer rmX9_offer D (kT cI cJ cC cG) sz ([.ref h9] : List Value) (wX cI cJ cC cG h9 hn ap q ht h0 pa pb pc jk hasS cnt snp G c_mover c_phase c_dice c_stake c_cube c_pieces0 c_pieces1 c_score0 c_score1 c_hits0 c_hits1 c_stopped c_stopPart t_signs t_length) (fun u : (Nat → Nat) × (Nat → Nat) × (Nat → Nat) × (JT) => (wX cI cJ cC cG h9 hn ap (u.1) ht h0 (u.2.1) (u.2.2.1) pc (u.2.2.2) hasS cnt' snp G' c_mover c_phase' c_dice c_stake c_cube c_pieces0 c_pieces1 c_score0 c_score1 c_hits0 c_hits1 c_stopped c_stopPart t_signs t_length)) r := by
  refine k_st_iE (cc := cX9_offer) (maxL := 1) (by decide) rfl (Nat.le_of_ble_eq_true rfl) ?_
  intro p e z m below meth c A hx hb hr hml hts hown hlocks hsz hN hA hK hP hD hS ls hl
  have hown : z.vm.findClass RX9 = some m.cls := hown
  have hinX1 : ∀ w ∈ wsX10, w ∈ wsX9_offer := by decide +kernel
  have hinX9 : ∀ w ∈ wsX90, w ∈ wsX9_offer := by decide +kernel
  have fl10 := hts (.fieldLink RX9 10 "MagpieRuns" "now" "LMagpieRuns$Game;") (by decide +kernel)
  have fl19 := hts (.fieldLink RX9 19 "MagpieRuns" "past" "LMagpieRuns$Past;") (by decide +kernel)
  have fl122 := hts (.fieldLink RX9 122 "MagpieRuns$Game" "stake" "I") (by decide +kernel)
  have hl : lv_has ls 1 [(0, .ref h9)] := hl
  unfold mX9_offer at hm
  refine lv_aload_n hx hb dX9_offer_0 rfl (lv_at hl 0 rfl) ?_
  refine va_get (D := D) (ci := 5) (v := .ref hn) (C := RX9) (T := TX9) (N := 4) hx hb hts hinX9 hown hK hP 0 rfl rfl 0 (by decide) fl10 (fun _ h9 => h9) rfl dX9_offer_1 ?_
  obtain ⟨r1, hc4, hm⟩ := k_bds hm
  have hPc : va_P D vwCl (wG hn c_mover c_phase c_dice c_stake c_cube c_pieces0 c_pieces1 c_score0 c_score1 c_hits0 c_hits1 c_stopped c_stopPart) _ := k_Psub hP [1] rfl
  have hDc : va_D A (wG hn c_mover c_phase c_dice c_stake c_cube c_pieces0 c_pieces1 c_score0 c_score1 c_hits0 c_hits1 c_stopped c_stopPart) := hD.sub [1] (by decide) rfl
  refine k_i_c (Wf := (wX cI cJ cC cG h9 hn ap q ht h0 pa pb pc jk hasS cnt snp G c_mover c_phase c_dice c_stake c_cube c_pieces0 c_pieces1 c_score0 c_score1 c_hits0 c_hits1 c_stopped c_stopPart t_signs t_length)) [1] [0, 2, 3, 4, 5, 6, 7, 8, 9, 10, 11, 12, 13, 14, 15, 16, 17, 18, 19, 20, 21, 22, 23, 24] [0, 24, 1, 2, 3, 4, 5, 6, 7, 8, 9, 10, 11, 12, 13, 14, 15, 16, 17, 18, 19, 20, 21, 22, 23] (k_rV (As := []) (rest := []) ⟨hx, hb, hml, hown, hts⟩ hK hN hPc hDc (zX1_canOffer hc4) (cwV 0 hts gX9_offer_X1_canOffer rfl rfl rfl (by decide +kernel) ⟨Nat.le_of_ble_eq_true rfl, Nat.le_of_ble_eq_true rfl⟩) rfl rfl rfl hl.1 rfl (Nat.le_of_ble_eq_true rfl) dX9_offer_4 ⟨Nat.zero_le _, Nat.zero_le _⟩) hP hD hS hA rfl rfl (by decide) (by decide) rfl (by decide) (fun H locs hP hD hS => ?_)
  refine lv_if_ne (tgt := 18) hx hb dX9_offer_7 (by decide) (fun cc7 => ?_) (fun cc7 => ?_)
  · have hm := k_in cc7 hm
    refine lv_aload_n hx hb dX9_offer_18 rfl (lv_at hl 0 rfl) ?_
    refine va_get (D := D) (ci := 5) (v := .ref (ap 0)) (C := RX9) (T := TX9) (N := 4) hx hb hts hinX9 hown hK hP 0 rfl rfl 1 (by decide) fl19 (fun _ h9 => h9) rfl dX9_offer_19 ?_
    refine lv_aload_n hx hb dX9_offer_22 rfl (lv_at hl 0 rfl) ?_
    refine va_get (D := D) (ci := 5) (v := .ref hn) (C := RX9) (T := TX9) (N := 4) hx hb hts hinX9 hown hK hP 0 rfl rfl 0 (by decide) fl10 (fun _ h9 => h9) rfl dX9_offer_23 ?_
    obtain ⟨w2, w3, hc26, hm⟩ := k_bd2s hm
    have hPc : va_P D vwCl (wPa cG ap q hn hasS cnt snp G c_mover c_phase c_dice c_stake c_cube c_pieces0 c_pieces1 c_score0 c_score1 c_hits0 c_hits1 c_stopped c_stopPart) _ := k_Psub hP [2, 3, 4, 5, 6, 7, 8, 9, 1] rfl
    have hDc : va_D A (wPa cG ap q hn hasS cnt snp G c_mover c_phase c_dice c_stake c_cube c_pieces0 c_pieces1 c_score0 c_score1 c_hits0 c_hits1 c_stopped c_stopPart) := hD.sub [2, 3, 4, 5, 6, 7, 8, 9, 1] (by decide) rfl
    refine k_v_cE (fun u : (Nat → Nat) => (wX cI cJ cC cG h9 hn ap u ht h0 pa pb pc jk hasS w2 snp w3 c_mover c_phase c_dice c_stake c_cube c_pieces0 c_pieces1 c_score0 c_score1 c_hits0 c_hits1 c_stopped c_stopPart t_signs t_length)) [2, 3, 4, 5, 6, 7, 8, 9, 1] [0, 10, 11, 12, 13, 14, 15, 16, 17, 18, 19, 20, 21, 22, 23, 24] [0, 24, 16, 17, 18, 19, 20, 21, 22, 23, 1, 2, 3, 4, 5, 6, 7, 8, 9, 10, 11, 12, 13, 14, 15] (k_rV (As := [.ref hn]) (rest := []) ⟨hx, hb, hml, hown, hts⟩ hK hN hPc hDc (zX2_save hc26) (cwV 1 hts gX9_offer_X2_save rfl rfl rfl (by decide +kernel) ⟨Nat.le_of_ble_eq_true rfl, Nat.le_of_ble_eq_true rfl⟩) rfl rfl rfl hl.1 rfl (Nat.le_of_ble_eq_true rfl) dX9_offer_26 ⟨Nat.zero_le _, Nat.zero_le _⟩) hP hD hS hA rfl rfl (by decide) (by decide) (fun u => rfl) (by decide) (fun u9 H locs hP hD hS => ?_)
    generalize u9 = u4 at hP hD
    have hP : va_P D vwCl (wX cI cJ cC cG h9 hn ap u4 ht h0 pa pb pc jk hasS w2 snp w3 c_mover c_phase c_dice c_stake c_cube c_pieces0 c_pieces1 c_score0 c_score1 c_hits0 c_hits1 c_stopped c_stopPart t_signs t_length) H := hP
    have hD : va_D A (wX cI cJ cC cG h9 hn ap u4 ht h0 pa pb pc jk hasS w2 snp w3 c_mover c_phase c_dice c_stake c_cube c_pieces0 c_pieces1 c_score0 c_score1 c_hits0 c_hits1 c_stopped c_stopPart t_signs t_length) := hD
    refine lv_aload_n hx hb dX9_offer_29 rfl (lv_at hl 0 rfl) ?_
    refine va_get (D := D) (ci := 5) (v := .ref hn) (C := RX9) (T := TX9) (N := 4) hx hb hts hinX9 hown hK hP 0 rfl rfl 0 (by decide) fl10 (fun _ h9 => h9) rfl dX9_offer_30 ?_
    obtain ⟨w5, hc33, hm⟩ := k_bds hm
    have hPc : va_P D vwCl (wG hn c_mover c_phase c_dice c_stake c_cube c_pieces0 c_pieces1 c_score0 c_score1 c_hits0 c_hits1 c_stopped c_stopPart) _ := k_Psub hP [1] rfl
    have hDc : va_D A (wG hn c_mover c_phase c_dice c_stake c_cube c_pieces0 c_pieces1 c_score0 c_score1 c_hits0 c_hits1 c_stopped c_stopPart) := hD.sub [1] (by decide) rfl
    refine k_v_c (Wf := (wX cI cJ cC cG h9 hn ap u4 ht h0 pa pb pc jk hasS w2 snp w3 c_mover w5 c_dice c_stake c_cube c_pieces0 c_pieces1 c_score0 c_score1 c_hits0 c_hits1 c_stopped c_stopPart t_signs t_length)) [1] [0, 2, 3, 4, 5, 6, 7, 8, 9, 10, 11, 12, 13, 14, 15, 16, 17, 18, 19, 20, 21, 22, 23, 24] [0, 24, 1, 2, 3, 4, 5, 6, 7, 8, 9, 10, 11, 12, 13, 14, 15, 16, 17, 18, 19, 20, 21, 22, 23] (k_rV (As := []) (rest := []) ⟨hx, hb, hml, hown, hts⟩ hK hN hPc hDc (zX1_doOffer hc33) (cwV 0 hts gX9_offer_X1_doOffer rfl rfl rfl (by decide +kernel) ⟨Nat.le_of_ble_eq_true rfl, Nat.le_of_ble_eq_true rfl⟩) rfl rfl rfl hl.1 rfl (Nat.le_of_ble_eq_true rfl) dX9_offer_33 ⟨Nat.zero_le _, Nat.zero_le _⟩) hP hD hS hA rfl rfl (by decide) (by decide) rfl (by decide) (fun H locs hP hD hS => ?_)
    refine lv_iconst (v := 2) hx hb dX9_offer_36 (by decide) ?_
    refine lv_aload_n hx hb dX9_offer_37 rfl (lv_at hl 0 rfl) ?_
    refine va_get (D := D) (ci := 5) (v := .ref hn) (C := RX9) (T := TX9) (N := 4) hx hb hts hinX9 hown hK hP 0 rfl rfl 0 (by decide) fl10 (fun _ h9 => h9) rfl dX9_offer_38 ?_
    refine va_get (D := D) (ci := 0) (v := .int c_stake) (C := RX1) (T := TX1) (N := 13) hx hb hts hinX1 hown hK hP 1 rfl rfl 3 (by decide) fl122 (fun _ h9 => h9) rfl dX9_offer_41 ?_
    refine lv_imul hx hb dX9_offer_44 ?_
    cases hm
    exact k_end_iE (u4, pa, pb, jk) hx hb hr hlocks hK hP hD hS dX9_offer_45
  · have hm := k_ip cc7 hm
    cases hm

abbrev rmX9_take : Room := { frames := 4, cells := 0, slots := 0, locals := 122 }
set_option maxHeartbeats 4000000 in
set_option maxRecDepth 100000 in
theorem zX9_take {l : Launch} {D : va_G} {cI cJ cC cG : ClassId} {sz : Nat} {h9 hn h0 : Nat} {ap q ht pa pb pc : Nat → Nat} {jk : JT} {hasS : Bool} {cnt : Int32} {snp : GT} {G : Nat → GT} {c_mover : Int32} {c_phase : Int32} {c_dice : Int32} {c_stake : Int32} {c_cube : Int32} {c_pieces0 : Int64} {c_pieces1 : Int64} {c_score0 : Int32} {c_score1 : Int32} {c_hits0 : Int32} {c_hits1 : Int32} {c_stopped : Bool} {c_stopPart : Int32} {t_signs : Nat → Int32} {t_length : Int32} {r : Int32} {cnt' : Int32} {G' : Nat → GT} {c_phase' : Int32} {c_stake' : Int32} {c_cube' : Int32} (hm : mX9_take cnt G c_mover c_phase c_dice c_stake c_cube c_pieces0 c_pieces1 c_score0 c_score1 c_hits0 c_hits1 c_stopped c_stopPart = some (r, cnt', G', c_phase', c_stake', c_cube')) : k_MiE l yX9_take wsX9_take rmX9_take D (kT cI cJ cC cG) sz ([.ref h9] : List Value) (wX cI cJ cC cG h9 hn ap q ht h0 pa pb pc jk hasS cnt snp G c_mover c_phase c_dice c_stake c_cube c_pieces0 c_pieces1 c_score0 c_score1 c_hits0 c_hits1 c_stopped c_stopPart t_signs t_length) (fun u : (Nat → Nat) × (Nat → Nat) × (Nat → Nat) × (JT) => (wX cI cJ cC cG h9 hn ap (u.1) ht h0 (u.2.1) (u.2.2.1) pc (u.2.2.2) hasS cnt' snp G' c_mover c_phase' c_dice c_stake' c_cube' c_pieces0 c_pieces1 c_score0 c_score1 c_hits0 c_hits1 c_stopped c_stopPart t_signs t_length)) r := by
  refine k_st_iE (cc := cX9_take) (maxL := 1) (by decide) rfl (Nat.le_of_ble_eq_true rfl) ?_
  intro p e z m below meth c A hx hb hr hml hts hown hlocks hsz hN hA hK hP hD hS ls hl
  have hown : z.vm.findClass RX9 = some m.cls := hown
  have hinX1 : ∀ w ∈ wsX10, w ∈ wsX9_take := by decide +kernel
  have hinX9 : ∀ w ∈ wsX90, w ∈ wsX9_take := by decide +kernel
  have fl10 := hts (.fieldLink RX9 10 "MagpieRuns" "now" "LMagpieRuns$Game;") (by decide +kernel)
  have fl19 := hts (.fieldLink RX9 19 "MagpieRuns" "past" "LMagpieRuns$Past;") (by decide +kernel)
  have fl122 := hts (.fieldLink RX9 122 "MagpieRuns$Game" "stake" "I") (by decide +kernel)
  have hl : lv_has ls 1 [(0, .ref h9)] := hl
  unfold mX9_take at hm
  refine lv_aload_n hx hb dX9_take_0 rfl (lv_at hl 0 rfl) ?_
  refine va_get (D := D) (ci := 5) (v := .ref hn) (C := RX9) (T := TX9) (N := 4) hx hb hts hinX9 hown hK hP 0 rfl rfl 0 (by decide) fl10 (fun _ h9 => h9) rfl dX9_take_1 ?_
  obtain ⟨r1, hc4, hm⟩ := k_bds hm
  have hPc : va_P D vwCl (wG hn c_mover c_phase c_dice c_stake c_cube c_pieces0 c_pieces1 c_score0 c_score1 c_hits0 c_hits1 c_stopped c_stopPart) _ := k_Psub hP [1] rfl
  have hDc : va_D A (wG hn c_mover c_phase c_dice c_stake c_cube c_pieces0 c_pieces1 c_score0 c_score1 c_hits0 c_hits1 c_stopped c_stopPart) := hD.sub [1] (by decide) rfl
  refine k_i_c (Wf := (wX cI cJ cC cG h9 hn ap q ht h0 pa pb pc jk hasS cnt snp G c_mover c_phase c_dice c_stake c_cube c_pieces0 c_pieces1 c_score0 c_score1 c_hits0 c_hits1 c_stopped c_stopPart t_signs t_length)) [1] [0, 2, 3, 4, 5, 6, 7, 8, 9, 10, 11, 12, 13, 14, 15, 16, 17, 18, 19, 20, 21, 22, 23, 24] [0, 24, 1, 2, 3, 4, 5, 6, 7, 8, 9, 10, 11, 12, 13, 14, 15, 16, 17, 18, 19, 20, 21, 22, 23] (k_rV (As := []) (rest := []) ⟨hx, hb, hml, hown, hts⟩ hK hN hPc hDc (zX1_isOffered hc4) (cwV 0 hts gX9_take_X1_isOffered rfl rfl rfl (by decide +kernel) ⟨Nat.le_of_ble_eq_true rfl, Nat.le_of_ble_eq_true rfl⟩) rfl rfl rfl hl.1 rfl (Nat.le_of_ble_eq_true rfl) dX9_take_4 ⟨Nat.zero_le _, Nat.zero_le _⟩) hP hD hS hA rfl rfl (by decide) (by decide) rfl (by decide) (fun H locs hP hD hS => ?_)
  refine lv_if_ne (tgt := 18) hx hb dX9_take_7 (by decide) (fun cc7 => ?_) (fun cc7 => ?_)
  · have hm := k_in cc7 hm
    refine lv_aload_n hx hb dX9_take_18 rfl (lv_at hl 0 rfl) ?_
    refine va_get (D := D) (ci := 5) (v := .ref (ap 0)) (C := RX9) (T := TX9) (N := 4) hx hb hts hinX9 hown hK hP 0 rfl rfl 1 (by decide) fl19 (fun _ h9 => h9) rfl dX9_take_19 ?_
    refine lv_aload_n hx hb dX9_take_22 rfl (lv_at hl 0 rfl) ?_
    refine va_get (D := D) (ci := 5) (v := .ref hn) (C := RX9) (T := TX9) (N := 4) hx hb hts hinX9 hown hK hP 0 rfl rfl 0 (by decide) fl10 (fun _ h9 => h9) rfl dX9_take_23 ?_
    obtain ⟨w2, w3, hc26, hm⟩ := k_bd2s hm
    have hPc : va_P D vwCl (wPa cG ap q hn hasS cnt snp G c_mover c_phase c_dice c_stake c_cube c_pieces0 c_pieces1 c_score0 c_score1 c_hits0 c_hits1 c_stopped c_stopPart) _ := k_Psub hP [2, 3, 4, 5, 6, 7, 8, 9, 1] rfl
    have hDc : va_D A (wPa cG ap q hn hasS cnt snp G c_mover c_phase c_dice c_stake c_cube c_pieces0 c_pieces1 c_score0 c_score1 c_hits0 c_hits1 c_stopped c_stopPart) := hD.sub [2, 3, 4, 5, 6, 7, 8, 9, 1] (by decide) rfl
    refine k_v_cE (fun u : (Nat → Nat) => (wX cI cJ cC cG h9 hn ap u ht h0 pa pb pc jk hasS w2 snp w3 c_mover c_phase c_dice c_stake c_cube c_pieces0 c_pieces1 c_score0 c_score1 c_hits0 c_hits1 c_stopped c_stopPart t_signs t_length)) [2, 3, 4, 5, 6, 7, 8, 9, 1] [0, 10, 11, 12, 13, 14, 15, 16, 17, 18, 19, 20, 21, 22, 23, 24] [0, 24, 16, 17, 18, 19, 20, 21, 22, 23, 1, 2, 3, 4, 5, 6, 7, 8, 9, 10, 11, 12, 13, 14, 15] (k_rV (As := [.ref hn]) (rest := []) ⟨hx, hb, hml, hown, hts⟩ hK hN hPc hDc (zX2_save hc26) (cwV 1 hts gX9_take_X2_save rfl rfl rfl (by decide +kernel) ⟨Nat.le_of_ble_eq_true rfl, Nat.le_of_ble_eq_true rfl⟩) rfl rfl rfl hl.1 rfl (Nat.le_of_ble_eq_true rfl) dX9_take_26 ⟨Nat.zero_le _, Nat.zero_le _⟩) hP hD hS hA rfl rfl (by decide) (by decide) (fun u => rfl) (by decide) (fun u9 H locs hP hD hS => ?_)
    generalize u9 = u4 at hP hD
    have hP : va_P D vwCl (wX cI cJ cC cG h9 hn ap u4 ht h0 pa pb pc jk hasS w2 snp w3 c_mover c_phase c_dice c_stake c_cube c_pieces0 c_pieces1 c_score0 c_score1 c_hits0 c_hits1 c_stopped c_stopPart t_signs t_length) H := hP
    have hD : va_D A (wX cI cJ cC cG h9 hn ap u4 ht h0 pa pb pc jk hasS w2 snp w3 c_mover c_phase c_dice c_stake c_cube c_pieces0 c_pieces1 c_score0 c_score1 c_hits0 c_hits1 c_stopped c_stopPart t_signs t_length) := hD
    refine lv_aload_n hx hb dX9_take_29 rfl (lv_at hl 0 rfl) ?_
    refine va_get (D := D) (ci := 5) (v := .ref hn) (C := RX9) (T := TX9) (N := 4) hx hb hts hinX9 hown hK hP 0 rfl rfl 0 (by decide) fl10 (fun _ h9 => h9) rfl dX9_take_30 ?_
    obtain ⟨w5, w6, w7, hc33, hm⟩ := k_bd3s hm
    have hPc : va_P D vwCl (wG hn c_mover c_phase c_dice c_stake c_cube c_pieces0 c_pieces1 c_score0 c_score1 c_hits0 c_hits1 c_stopped c_stopPart) _ := k_Psub hP [1] rfl
    have hDc : va_D A (wG hn c_mover c_phase c_dice c_stake c_cube c_pieces0 c_pieces1 c_score0 c_score1 c_hits0 c_hits1 c_stopped c_stopPart) := hD.sub [1] (by decide) rfl
    refine k_v_c (Wf := (wX cI cJ cC cG h9 hn ap u4 ht h0 pa pb pc jk hasS w2 snp w3 c_mover w5 c_dice w6 w7 c_pieces0 c_pieces1 c_score0 c_score1 c_hits0 c_hits1 c_stopped c_stopPart t_signs t_length)) [1] [0, 2, 3, 4, 5, 6, 7, 8, 9, 10, 11, 12, 13, 14, 15, 16, 17, 18, 19, 20, 21, 22, 23, 24] [0, 24, 1, 2, 3, 4, 5, 6, 7, 8, 9, 10, 11, 12, 13, 14, 15, 16, 17, 18, 19, 20, 21, 22, 23] (k_rV (As := []) (rest := []) ⟨hx, hb, hml, hown, hts⟩ hK hN hPc hDc (zX1_doTake hc33) (cwV 0 hts gX9_take_X1_doTake rfl rfl rfl (by decide +kernel) ⟨Nat.le_of_ble_eq_true rfl, Nat.le_of_ble_eq_true rfl⟩) rfl rfl rfl hl.1 rfl (Nat.le_of_ble_eq_true rfl) dX9_take_33 ⟨Nat.zero_le _, Nat.zero_le _⟩) hP hD hS hA rfl rfl (by decide) (by decide) rfl (by decide) (fun H locs hP hD hS => ?_)
    refine lv_aload_n hx hb dX9_take_36 rfl (lv_at hl 0 rfl) ?_
    refine va_get (D := D) (ci := 5) (v := .ref hn) (C := RX9) (T := TX9) (N := 4) hx hb hts hinX9 hown hK hP 0 rfl rfl 0 (by decide) fl10 (fun _ h9 => h9) rfl dX9_take_37 ?_
    refine va_get (D := D) (ci := 0) (v := .int w6) (C := RX1) (T := TX1) (N := 13) hx hb hts hinX1 hown hK hP 1 rfl rfl 3 (by decide) fl122 (fun _ h9 => h9) rfl dX9_take_40 ?_
    cases hm
    exact k_end_iE (u4, pa, pb, jk) hx hb hr hlocks hK hP hD hS dX9_take_43
  · have hm := k_ip cc7 hm
    cases hm

abbrev rmX9_drop : Room := { frames := 4, cells := 0, slots := 0, locals := 122 }
set_option maxHeartbeats 4000000 in
set_option maxRecDepth 100000 in
theorem zX9_drop {l : Launch} {D : va_G} {cI cJ cC cG : ClassId} {sz : Nat} {h9 hn h0 : Nat} {ap q ht pa pb pc : Nat → Nat} {jk : JT} {hasS : Bool} {cnt : Int32} {snp : GT} {G : Nat → GT} {c_mover : Int32} {c_phase : Int32} {c_dice : Int32} {c_stake : Int32} {c_cube : Int32} {c_pieces0 : Int64} {c_pieces1 : Int64} {c_score0 : Int32} {c_score1 : Int32} {c_hits0 : Int32} {c_hits1 : Int32} {c_stopped : Bool} {c_stopPart : Int32} {t_signs : Nat → Int32} {t_length : Int32} {r : Int32} {cnt' : Int32} {G' : Nat → GT} {c_phase' : Int32} {c_dice' : Int32} {c_score0' : Int32} {c_score1' : Int32} (hm : mX9_drop cnt G c_mover c_phase c_dice c_stake c_cube c_pieces0 c_pieces1 c_score0 c_score1 c_hits0 c_hits1 c_stopped c_stopPart = some (r, cnt', G', c_phase', c_dice', c_score0', c_score1')) : k_MiE l yX9_drop wsX9_drop rmX9_drop D (kT cI cJ cC cG) sz ([.ref h9] : List Value) (wX cI cJ cC cG h9 hn ap q ht h0 pa pb pc jk hasS cnt snp G c_mover c_phase c_dice c_stake c_cube c_pieces0 c_pieces1 c_score0 c_score1 c_hits0 c_hits1 c_stopped c_stopPart t_signs t_length) (fun u : (Nat → Nat) × (Nat → Nat) × (Nat → Nat) × (JT) => (wX cI cJ cC cG h9 hn ap (u.1) ht h0 (u.2.1) (u.2.2.1) pc (u.2.2.2) hasS cnt' snp G' c_mover c_phase' c_dice' c_stake c_cube c_pieces0 c_pieces1 c_score0' c_score1' c_hits0 c_hits1 c_stopped c_stopPart t_signs t_length)) r := by
  refine k_st_iE (cc := cX9_drop) (maxL := 1) (by decide) rfl (Nat.le_of_ble_eq_true rfl) ?_
  intro p e z m below meth c A hx hb hr hml hts hown hlocks hsz hN hA hK hP hD hS ls hl
  have hown : z.vm.findClass RX9 = some m.cls := hown
  have hinX1 : ∀ w ∈ wsX10, w ∈ wsX9_drop := by decide +kernel
  have hinX9 : ∀ w ∈ wsX90, w ∈ wsX9_drop := by decide +kernel
  have fl10 := hts (.fieldLink RX9 10 "MagpieRuns" "now" "LMagpieRuns$Game;") (by decide +kernel)
  have fl19 := hts (.fieldLink RX9 19 "MagpieRuns" "past" "LMagpieRuns$Past;") (by decide +kernel)
  have fl89 := hts (.fieldLink RX9 89 "MagpieRuns$Game" "mover" "I") (by decide +kernel)
  have hl : lv_has ls 1 [(0, .ref h9)] := hl
  unfold mX9_drop at hm
  refine lv_aload_n hx hb dX9_drop_0 rfl (lv_at hl 0 rfl) ?_
  refine va_get (D := D) (ci := 5) (v := .ref hn) (C := RX9) (T := TX9) (N := 4) hx hb hts hinX9 hown hK hP 0 rfl rfl 0 (by decide) fl10 (fun _ h9 => h9) rfl dX9_drop_1 ?_
  obtain ⟨r1, hc4, hm⟩ := k_bds hm
  have hPc : va_P D vwCl (wG hn c_mover c_phase c_dice c_stake c_cube c_pieces0 c_pieces1 c_score0 c_score1 c_hits0 c_hits1 c_stopped c_stopPart) _ := k_Psub hP [1] rfl
  have hDc : va_D A (wG hn c_mover c_phase c_dice c_stake c_cube c_pieces0 c_pieces1 c_score0 c_score1 c_hits0 c_hits1 c_stopped c_stopPart) := hD.sub [1] (by decide) rfl
  refine k_i_c (Wf := (wX cI cJ cC cG h9 hn ap q ht h0 pa pb pc jk hasS cnt snp G c_mover c_phase c_dice c_stake c_cube c_pieces0 c_pieces1 c_score0 c_score1 c_hits0 c_hits1 c_stopped c_stopPart t_signs t_length)) [1] [0, 2, 3, 4, 5, 6, 7, 8, 9, 10, 11, 12, 13, 14, 15, 16, 17, 18, 19, 20, 21, 22, 23, 24] [0, 24, 1, 2, 3, 4, 5, 6, 7, 8, 9, 10, 11, 12, 13, 14, 15, 16, 17, 18, 19, 20, 21, 22, 23] (k_rV (As := []) (rest := []) ⟨hx, hb, hml, hown, hts⟩ hK hN hPc hDc (zX1_isOffered hc4) (cwV 0 hts gX9_drop_X1_isOffered rfl rfl rfl (by decide +kernel) ⟨Nat.le_of_ble_eq_true rfl, Nat.le_of_ble_eq_true rfl⟩) rfl rfl rfl hl.1 rfl (Nat.le_of_ble_eq_true rfl) dX9_drop_4 ⟨Nat.zero_le _, Nat.zero_le _⟩) hP hD hS hA rfl rfl (by decide) (by decide) rfl (by decide) (fun H locs hP hD hS => ?_)
  refine lv_if_ne (tgt := 18) hx hb dX9_drop_7 (by decide) (fun cc7 => ?_) (fun cc7 => ?_)
  · have hm := k_in cc7 hm
    refine lv_aload_n hx hb dX9_drop_18 rfl (lv_at hl 0 rfl) ?_
    refine va_get (D := D) (ci := 5) (v := .ref (ap 0)) (C := RX9) (T := TX9) (N := 4) hx hb hts hinX9 hown hK hP 0 rfl rfl 1 (by decide) fl19 (fun _ h9 => h9) rfl dX9_drop_19 ?_
    refine lv_aload_n hx hb dX9_drop_22 rfl (lv_at hl 0 rfl) ?_
    refine va_get (D := D) (ci := 5) (v := .ref hn) (C := RX9) (T := TX9) (N := 4) hx hb hts hinX9 hown hK hP 0 rfl rfl 0 (by decide) fl10 (fun _ h9 => h9) rfl dX9_drop_23 ?_
    obtain ⟨w2, w3, hc26, hm⟩ := k_bd2s hm
    have hPc : va_P D vwCl (wPa cG ap q hn hasS cnt snp G c_mover c_phase c_dice c_stake c_cube c_pieces0 c_pieces1 c_score0 c_score1 c_hits0 c_hits1 c_stopped c_stopPart) _ := k_Psub hP [2, 3, 4, 5, 6, 7, 8, 9, 1] rfl
    have hDc : va_D A (wPa cG ap q hn hasS cnt snp G c_mover c_phase c_dice c_stake c_cube c_pieces0 c_pieces1 c_score0 c_score1 c_hits0 c_hits1 c_stopped c_stopPart) := hD.sub [2, 3, 4, 5, 6, 7, 8, 9, 1] (by decide) rfl
    refine k_v_cE (fun u : (Nat → Nat) => (wX cI cJ cC cG h9 hn ap u ht h0 pa pb pc jk hasS w2 snp w3 c_mover c_phase c_dice c_stake c_cube c_pieces0 c_pieces1 c_score0 c_score1 c_hits0 c_hits1 c_stopped c_stopPart t_signs t_length)) [2, 3, 4, 5, 6, 7, 8, 9, 1] [0, 10, 11, 12, 13, 14, 15, 16, 17, 18, 19, 20, 21, 22, 23, 24] [0, 24, 16, 17, 18, 19, 20, 21, 22, 23, 1, 2, 3, 4, 5, 6, 7, 8, 9, 10, 11, 12, 13, 14, 15] (k_rV (As := [.ref hn]) (rest := []) ⟨hx, hb, hml, hown, hts⟩ hK hN hPc hDc (zX2_save hc26) (cwV 1 hts gX9_drop_X2_save rfl rfl rfl (by decide +kernel) ⟨Nat.le_of_ble_eq_true rfl, Nat.le_of_ble_eq_true rfl⟩) rfl rfl rfl hl.1 rfl (Nat.le_of_ble_eq_true rfl) dX9_drop_26 ⟨Nat.zero_le _, Nat.zero_le _⟩) hP hD hS hA rfl rfl (by decide) (by decide) (fun u => rfl) (by decide) (fun u9 H locs hP hD hS => ?_)
    generalize u9 = u4 at hP hD
    have hP : va_P D vwCl (wX cI cJ cC cG h9 hn ap u4 ht h0 pa pb pc jk hasS w2 snp w3 c_mover c_phase c_dice c_stake c_cube c_pieces0 c_pieces1 c_score0 c_score1 c_hits0 c_hits1 c_stopped c_stopPart t_signs t_length) H := hP
    have hD : va_D A (wX cI cJ cC cG h9 hn ap u4 ht h0 pa pb pc jk hasS w2 snp w3 c_mover c_phase c_dice c_stake c_cube c_pieces0 c_pieces1 c_score0 c_score1 c_hits0 c_hits1 c_stopped c_stopPart t_signs t_length) := hD
    refine lv_aload_n hx hb dX9_drop_29 rfl (lv_at hl 0 rfl) ?_
    refine va_get (D := D) (ci := 5) (v := .ref hn) (C := RX9) (T := TX9) (N := 4) hx hb hts hinX9 hown hK hP 0 rfl rfl 0 (by decide) fl10 (fun _ h9 => h9) rfl dX9_drop_30 ?_
    obtain ⟨w5, w6, w7, w8, hc33, hm⟩ := k_bd4s hm
    have hPc : va_P D vwCl (wG hn c_mover c_phase c_dice c_stake c_cube c_pieces0 c_pieces1 c_score0 c_score1 c_hits0 c_hits1 c_stopped c_stopPart) _ := k_Psub hP [1] rfl
    have hDc : va_D A (wG hn c_mover c_phase c_dice c_stake c_cube c_pieces0 c_pieces1 c_score0 c_score1 c_hits0 c_hits1 c_stopped c_stopPart) := hD.sub [1] (by decide) rfl
    refine k_v_c (Wf := (wX cI cJ cC cG h9 hn ap u4 ht h0 pa pb pc jk hasS w2 snp w3 c_mover w5 w6 c_stake c_cube c_pieces0 c_pieces1 w7 w8 c_hits0 c_hits1 c_stopped c_stopPart t_signs t_length)) [1] [0, 2, 3, 4, 5, 6, 7, 8, 9, 10, 11, 12, 13, 14, 15, 16, 17, 18, 19, 20, 21, 22, 23, 24] [0, 24, 1, 2, 3, 4, 5, 6, 7, 8, 9, 10, 11, 12, 13, 14, 15, 16, 17, 18, 19, 20, 21, 22, 23] (k_rV (As := []) (rest := []) ⟨hx, hb, hml, hown, hts⟩ hK hN hPc hDc (zX1_doDrop hc33) (cwV 0 hts gX9_drop_X1_doDrop rfl rfl rfl (by decide +kernel) ⟨Nat.le_of_ble_eq_true rfl, Nat.le_of_ble_eq_true rfl⟩) rfl rfl rfl hl.1 rfl (Nat.le_of_ble_eq_true rfl) dX9_drop_33 ⟨Nat.zero_le _, Nat.zero_le _⟩) hP hD hS hA rfl rfl (by decide) (by decide) rfl (by decide) (fun H locs hP hD hS => ?_)
    refine lv_aload_n hx hb dX9_drop_36 rfl (lv_at hl 0 rfl) ?_
    refine va_get (D := D) (ci := 5) (v := .ref hn) (C := RX9) (T := TX9) (N := 4) hx hb hts hinX9 hown hK hP 0 rfl rfl 0 (by decide) fl10 (fun _ h9 => h9) rfl dX9_drop_37 ?_
    refine lv_aload_n hx hb dX9_drop_40 rfl (lv_at hl 0 rfl) ?_
    refine va_get (D := D) (ci := 5) (v := .ref hn) (C := RX9) (T := TX9) (N := 4) hx hb hts hinX9 hown hK hP 0 rfl rfl 0 (by decide) fl10 (fun _ h9 => h9) rfl dX9_drop_41 ?_
    refine va_get (D := D) (ci := 0) (v := .int c_mover) (C := RX1) (T := TX1) (N := 13) hx hb hts hinX1 hown hK hP 1 rfl rfl 0 (by decide) fl89 (fun _ h9 => h9) rfl dX9_drop_44 ?_
    obtain ⟨r9, hc47, hm⟩ := k_bds hm
    have hPc : va_P D vwCl (wG hn c_mover w5 w6 c_stake c_cube c_pieces0 c_pieces1 w7 w8 c_hits0 c_hits1 c_stopped c_stopPart) _ := k_Psub hP [1] rfl
    have hDc : va_D A (wG hn c_mover w5 w6 c_stake c_cube c_pieces0 c_pieces1 w7 w8 c_hits0 c_hits1 c_stopped c_stopPart) := hD.sub [1] (by decide) rfl
    refine k_i_c (Wf := (wX cI cJ cC cG h9 hn ap u4 ht h0 pa pb pc jk hasS w2 snp w3 c_mover w5 w6 c_stake c_cube c_pieces0 c_pieces1 w7 w8 c_hits0 c_hits1 c_stopped c_stopPart t_signs t_length)) [1] [0, 2, 3, 4, 5, 6, 7, 8, 9, 10, 11, 12, 13, 14, 15, 16, 17, 18, 19, 20, 21, 22, 23, 24] [0, 24, 1, 2, 3, 4, 5, 6, 7, 8, 9, 10, 11, 12, 13, 14, 15, 16, 17, 18, 19, 20, 21, 22, 23] (k_rV (As := [.int c_mover]) (rest := []) ⟨hx, hb, hml, hown, hts⟩ hK hN hPc hDc (zX1_scoreOf hc47) (cwV 1 hts gX9_drop_X1_scoreOf rfl rfl rfl (by decide +kernel) ⟨Nat.le_of_ble_eq_true rfl, Nat.le_of_ble_eq_true rfl⟩) rfl rfl rfl hl.1 rfl (Nat.le_of_ble_eq_true rfl) dX9_drop_47 ⟨Nat.zero_le _, Nat.zero_le _⟩) hP hD hS hA rfl rfl (by decide) (by decide) rfl (by decide) (fun H locs hP hD hS => ?_)
    cases hm
    exact k_end_iE (u4, pa, pb, jk) hx hb hr hlocks hK hP hD hS dX9_drop_50
  · have hm := k_ip cc7 hm
    cases hm

abbrev rmX9_newGame : Room := { frames := 4, cells := 0, slots := 0, locals := 122 }
set_option maxHeartbeats 4000000 in
set_option maxRecDepth 100000 in
theorem zX9_newGame {l : Launch} {D : va_G} {cI cJ cC cG : ClassId} {sz : Nat} {h9 hn h0 : Nat} {ap q ht pa pb pc : Nat → Nat} {jk : JT} {hasS : Bool} {cnt : Int32} {snp : GT} {G : Nat → GT} {c_mover : Int32} {c_phase : Int32} {c_dice : Int32} {c_stake : Int32} {c_cube : Int32} {c_pieces0 : Int64} {c_pieces1 : Int64} {c_score0 : Int32} {c_score1 : Int32} {c_hits0 : Int32} {c_hits1 : Int32} {c_stopped : Bool} {c_stopPart : Int32} {t_signs : Nat → Int32} {t_length : Int32} {r : Int32} {cnt' : Int32} {G' : Nat → GT} {c_mover' : Int32} {c_phase' : Int32} {c_stake' : Int32} {c_cube' : Int32} {c_pieces0' : Int64} {c_pieces1' : Int64} (hm : mX9_newGame cnt G c_mover c_phase c_dice c_stake c_cube c_pieces0 c_pieces1 c_score0 c_score1 c_hits0 c_hits1 c_stopped c_stopPart = some (r, cnt', G', c_mover', c_phase', c_stake', c_cube', c_pieces0', c_pieces1')) : k_MiE l yX9_newGame wsX9_newGame rmX9_newGame D (kT cI cJ cC cG) sz ([.ref h9] : List Value) (wX cI cJ cC cG h9 hn ap q ht h0 pa pb pc jk hasS cnt snp G c_mover c_phase c_dice c_stake c_cube c_pieces0 c_pieces1 c_score0 c_score1 c_hits0 c_hits1 c_stopped c_stopPart t_signs t_length) (fun u : (Nat → Nat) × (Nat → Nat) × (Nat → Nat) × (JT) => (wX cI cJ cC cG h9 hn ap (u.1) ht h0 (u.2.1) (u.2.2.1) pc (u.2.2.2) hasS cnt' snp G' c_mover' c_phase' c_dice c_stake' c_cube' c_pieces0' c_pieces1' c_score0 c_score1 c_hits0 c_hits1 c_stopped c_stopPart t_signs t_length)) r := by
  refine k_st_iE (cc := cX9_newGame) (maxL := 1) (by decide) rfl (Nat.le_of_ble_eq_true rfl) ?_
  intro p e z m below meth c A hx hb hr hml hts hown hlocks hsz hN hA hK hP hD hS ls hl
  have hown : z.vm.findClass RX9 = some m.cls := hown
  have hinX1 : ∀ w ∈ wsX10, w ∈ wsX9_newGame := by decide +kernel
  have hinX9 : ∀ w ∈ wsX90, w ∈ wsX9_newGame := by decide +kernel
  have fl10 := hts (.fieldLink RX9 10 "MagpieRuns" "now" "LMagpieRuns$Game;") (by decide +kernel)
  have fl19 := hts (.fieldLink RX9 19 "MagpieRuns" "past" "LMagpieRuns$Past;") (by decide +kernel)
  have fl89 := hts (.fieldLink RX9 89 "MagpieRuns$Game" "mover" "I") (by decide +kernel)
  have hl : lv_has ls 1 [(0, .ref h9)] := hl
  unfold mX9_newGame at hm
  refine lv_aload_n hx hb dX9_newGame_0 rfl (lv_at hl 0 rfl) ?_
  refine va_get (D := D) (ci := 5) (v := .ref hn) (C := RX9) (T := TX9) (N := 4) hx hb hts hinX9 hown hK hP 0 rfl rfl 0 (by decide) fl10 (fun _ h9 => h9) rfl dX9_newGame_1 ?_
  obtain ⟨r1, hc4, hm⟩ := k_bds hm
  have hPc : va_P D vwCl (wG hn c_mover c_phase c_dice c_stake c_cube c_pieces0 c_pieces1 c_score0 c_score1 c_hits0 c_hits1 c_stopped c_stopPart) _ := k_Psub hP [1] rfl
  have hDc : va_D A (wG hn c_mover c_phase c_dice c_stake c_cube c_pieces0 c_pieces1 c_score0 c_score1 c_hits0 c_hits1 c_stopped c_stopPart) := hD.sub [1] (by decide) rfl
  refine k_i_c (Wf := (wX cI cJ cC cG h9 hn ap q ht h0 pa pb pc jk hasS cnt snp G c_mover c_phase c_dice c_stake c_cube c_pieces0 c_pieces1 c_score0 c_score1 c_hits0 c_hits1 c_stopped c_stopPart t_signs t_length)) [1] [0, 2, 3, 4, 5, 6, 7, 8, 9, 10, 11, 12, 13, 14, 15, 16, 17, 18, 19, 20, 21, 22, 23, 24] [0, 24, 1, 2, 3, 4, 5, 6, 7, 8, 9, 10, 11, 12, 13, 14, 15, 16, 17, 18, 19, 20, 21, 22, 23] (k_rV (As := []) (rest := []) ⟨hx, hb, hml, hown, hts⟩ hK hN hPc hDc (zX1_isOver hc4) (cwV 0 hts gX9_newGame_X1_isOver rfl rfl rfl (by decide +kernel) ⟨Nat.le_of_ble_eq_true rfl, Nat.le_of_ble_eq_true rfl⟩) rfl rfl rfl hl.1 rfl (Nat.le_of_ble_eq_true rfl) dX9_newGame_4 ⟨Nat.zero_le _, Nat.zero_le _⟩) hP hD hS hA rfl rfl (by decide) (by decide) rfl (by decide) (fun H locs hP hD hS => ?_)
  refine lv_if_ne (tgt := 18) hx hb dX9_newGame_7 (by decide) (fun cc7 => ?_) (fun cc7 => ?_)
  · have hm := k_in cc7 hm
    refine lv_aload_n hx hb dX9_newGame_18 rfl (lv_at hl 0 rfl) ?_
    refine va_get (D := D) (ci := 5) (v := .ref (ap 0)) (C := RX9) (T := TX9) (N := 4) hx hb hts hinX9 hown hK hP 0 rfl rfl 1 (by decide) fl19 (fun _ h9 => h9) rfl dX9_newGame_19 ?_
    refine lv_aload_n hx hb dX9_newGame_22 rfl (lv_at hl 0 rfl) ?_
    refine va_get (D := D) (ci := 5) (v := .ref hn) (C := RX9) (T := TX9) (N := 4) hx hb hts hinX9 hown hK hP 0 rfl rfl 0 (by decide) fl10 (fun _ h9 => h9) rfl dX9_newGame_23 ?_
    obtain ⟨w2, w3, hc26, hm⟩ := k_bd2s hm
    have hPc : va_P D vwCl (wPa cG ap q hn hasS cnt snp G c_mover c_phase c_dice c_stake c_cube c_pieces0 c_pieces1 c_score0 c_score1 c_hits0 c_hits1 c_stopped c_stopPart) _ := k_Psub hP [2, 3, 4, 5, 6, 7, 8, 9, 1] rfl
    have hDc : va_D A (wPa cG ap q hn hasS cnt snp G c_mover c_phase c_dice c_stake c_cube c_pieces0 c_pieces1 c_score0 c_score1 c_hits0 c_hits1 c_stopped c_stopPart) := hD.sub [2, 3, 4, 5, 6, 7, 8, 9, 1] (by decide) rfl
    refine k_v_cE (fun u : (Nat → Nat) => (wX cI cJ cC cG h9 hn ap u ht h0 pa pb pc jk hasS w2 snp w3 c_mover c_phase c_dice c_stake c_cube c_pieces0 c_pieces1 c_score0 c_score1 c_hits0 c_hits1 c_stopped c_stopPart t_signs t_length)) [2, 3, 4, 5, 6, 7, 8, 9, 1] [0, 10, 11, 12, 13, 14, 15, 16, 17, 18, 19, 20, 21, 22, 23, 24] [0, 24, 16, 17, 18, 19, 20, 21, 22, 23, 1, 2, 3, 4, 5, 6, 7, 8, 9, 10, 11, 12, 13, 14, 15] (k_rV (As := [.ref hn]) (rest := []) ⟨hx, hb, hml, hown, hts⟩ hK hN hPc hDc (zX2_save hc26) (cwV 1 hts gX9_newGame_X2_save rfl rfl rfl (by decide +kernel) ⟨Nat.le_of_ble_eq_true rfl, Nat.le_of_ble_eq_true rfl⟩) rfl rfl rfl hl.1 rfl (Nat.le_of_ble_eq_true rfl) dX9_newGame_26 ⟨Nat.zero_le _, Nat.zero_le _⟩) hP hD hS hA rfl rfl (by decide) (by decide) (fun u => rfl) (by decide) (fun u9 H locs hP hD hS => ?_)
    generalize u9 = u4 at hP hD
    have hP : va_P D vwCl (wX cI cJ cC cG h9 hn ap u4 ht h0 pa pb pc jk hasS w2 snp w3 c_mover c_phase c_dice c_stake c_cube c_pieces0 c_pieces1 c_score0 c_score1 c_hits0 c_hits1 c_stopped c_stopPart t_signs t_length) H := hP
    have hD : va_D A (wX cI cJ cC cG h9 hn ap u4 ht h0 pa pb pc jk hasS w2 snp w3 c_mover c_phase c_dice c_stake c_cube c_pieces0 c_pieces1 c_score0 c_score1 c_hits0 c_hits1 c_stopped c_stopPart t_signs t_length) := hD
    refine lv_aload_n hx hb dX9_newGame_29 rfl (lv_at hl 0 rfl) ?_
    refine va_get (D := D) (ci := 5) (v := .ref hn) (C := RX9) (T := TX9) (N := 4) hx hb hts hinX9 hown hK hP 0 rfl rfl 0 (by decide) fl10 (fun _ h9 => h9) rfl dX9_newGame_30 ?_
    obtain ⟨w5, w6, w7, w8, w9, w10, hc33, hm⟩ := k_bd6s hm
    have hPc : va_P D vwCl (wG hn c_mover c_phase c_dice c_stake c_cube c_pieces0 c_pieces1 c_score0 c_score1 c_hits0 c_hits1 c_stopped c_stopPart) _ := k_Psub hP [1] rfl
    have hDc : va_D A (wG hn c_mover c_phase c_dice c_stake c_cube c_pieces0 c_pieces1 c_score0 c_score1 c_hits0 c_hits1 c_stopped c_stopPart) := hD.sub [1] (by decide) rfl
    refine k_v_c (Wf := (wX cI cJ cC cG h9 hn ap u4 ht h0 pa pb pc jk hasS w2 snp w3 w5 w6 c_dice w7 w8 w9 w10 c_score0 c_score1 c_hits0 c_hits1 c_stopped c_stopPart t_signs t_length)) [1] [0, 2, 3, 4, 5, 6, 7, 8, 9, 10, 11, 12, 13, 14, 15, 16, 17, 18, 19, 20, 21, 22, 23, 24] [0, 24, 1, 2, 3, 4, 5, 6, 7, 8, 9, 10, 11, 12, 13, 14, 15, 16, 17, 18, 19, 20, 21, 22, 23] (k_rV (As := []) (rest := []) ⟨hx, hb, hml, hown, hts⟩ hK hN hPc hDc (zX1_doNewGame hc33) (cwV 0 hts gX9_newGame_X1_doNewGame rfl rfl rfl (by decide +kernel) ⟨Nat.le_of_ble_eq_true rfl, Nat.le_of_ble_eq_true rfl⟩) rfl rfl rfl hl.1 rfl (Nat.le_of_ble_eq_true rfl) dX9_newGame_33 ⟨Nat.zero_le _, Nat.zero_le _⟩) hP hD hS hA rfl rfl (by decide) (by decide) rfl (by decide) (fun H locs hP hD hS => ?_)
    refine lv_aload_n hx hb dX9_newGame_36 rfl (lv_at hl 0 rfl) ?_
    refine va_get (D := D) (ci := 5) (v := .ref hn) (C := RX9) (T := TX9) (N := 4) hx hb hts hinX9 hown hK hP 0 rfl rfl 0 (by decide) fl10 (fun _ h9 => h9) rfl dX9_newGame_37 ?_
    refine va_get (D := D) (ci := 0) (v := .int w5) (C := RX1) (T := TX1) (N := 13) hx hb hts hinX1 hown hK hP 1 rfl rfl 0 (by decide) fl89 (fun _ h9 => h9) rfl dX9_newGame_40 ?_
    cases hm
    exact k_end_iE (u4, pa, pb, jk) hx hb hr hlocks hK hP hD hS dX9_newGame_43
  · have hm := k_ip cc7 hm
    cases hm

abbrev rmX9_append : Room := { frames := 1, cells := 0, slots := 0, locals := 21 }
set_option maxHeartbeats 4000000 in
set_option maxRecDepth 100000 in
theorem zX9_append {l : Launch} {D : va_G} {cI cJ cC cG : ClassId} {sz : Nat} {h9 hn h0 : Nat} {ap q ht pa pb pc : Nat → Nat} {jk : JT} {hasS : Bool} {cnt : Int32} {snp : GT} {G : Nat → GT} {c_mover : Int32} {c_phase : Int32} {c_dice : Int32} {c_stake : Int32} {c_cube : Int32} {c_pieces0 : Int64} {c_pieces1 : Int64} {c_score0 : Int32} {c_score1 : Int32} {c_hits0 : Int32} {c_hits1 : Int32} {c_stopped : Bool} {c_stopPart : Int32} {t_signs : Nat → Int32} {t_length : Int32} {a1 : Int32} {r : Int32} {t_signs' : Nat → Int32} {t_length' : Int32} (hm : mX9_append t_signs t_length a1 = some (r, t_signs', t_length')) : k_MiE l yX9_append wsX9_append rmX9_append D (kT cI cJ cC cG) sz ([.ref h9, .int a1] : List Value) (wX cI cJ cC cG h9 hn ap q ht h0 pa pb pc jk hasS cnt snp G c_mover c_phase c_dice c_stake c_cube c_pieces0 c_pieces1 c_score0 c_score1 c_hits0 c_hits1 c_stopped c_stopPart t_signs t_length) (fun u : (Nat → Nat) × (Nat → Nat) × (Nat → Nat) × (JT) => (wX cI cJ cC cG h9 hn ap (u.1) ht h0 (u.2.1) (u.2.2.1) pc (u.2.2.2) hasS cnt snp G c_mover c_phase c_dice c_stake c_cube c_pieces0 c_pieces1 c_score0 c_score1 c_hits0 c_hits1 c_stopped c_stopPart t_signs' t_length')) r := by
  refine k_st_iE (cc := cX9_append) (maxL := 2) (by decide) rfl (Nat.le_of_ble_eq_true rfl) ?_
  intro p e z m below meth c A hx hb hr hml hts hown hlocks hsz hN hA hK hP hD hS ls hl
  have hown : z.vm.findClass RX9 = some m.cls := hown
  have hinX8 : ∀ w ∈ wsX80, w ∈ wsX9_append := by decide +kernel
  have hinX9 : ∀ w ∈ wsX90, w ∈ wsX9_append := by decide +kernel
  have fl26 := hts (.fieldLink RX9 26 "MagpieRuns" "text" "LMagpieRuns$Text;") (by decide +kernel)
  have fl150 := hts (.fieldLink RX9 150 "MagpieRuns$Text" "length" "I") (by decide +kernel)
  have hl : lv_has ls 2 [(0, .ref h9), (1, .int a1)] := hl
  have J_12 : ∀ (q : Nat → Nat) (pa : Nat → Nat) (pb : Nat → Nat) (jk : JT) (t_signs : Nat → Int32) (t_length : Int32) (H : Heap) (locs : List Loc), va_P D vwCl (wX cI cJ cC cG h9 hn ap q ht h0 pa pb pc jk hasS cnt snp G c_mover c_phase c_dice c_stake c_cube c_pieces0 c_pieces1 c_score0 c_score1 c_hits0 c_hits1 c_stopped c_stopPart t_signs t_length) H → va_D A (wX cI cJ cC cG h9 hn ap q ht h0 pa pb pc jk hasS cnt snp G c_mover c_phase c_dice c_stake c_cube c_pieces0 c_pieces1 c_score0 c_score1 c_hits0 c_hits1 c_stopped c_stopPart t_signs t_length) → va_S A z.heap H locs → ∀ ls : Array Slot, lv_has ls 2 [] → mX9_append_12 a1 t_signs t_length = some (r, t_signs', t_length') → W p l e rmX9_append z m ([.ref h9, .int a1] : List Value).toArray below meth c H locs 0 0 (k_QiE below ([.ref h9, .int a1] : List Value) D (kT cI cJ cC cG) z A (fun u : (Nat → Nat) × (Nat → Nat) × (Nat → Nat) × (JT) => (wX cI cJ cC cG h9 hn ap (u.1) ht h0 (u.2.1) (u.2.2.1) pc (u.2.2.2) hasS cnt snp G c_mover c_phase c_dice c_stake c_cube c_pieces0 c_pieces1 c_score0 c_score1 c_hits0 c_hits1 c_stopped c_stopPart t_signs' t_length')) r) (F0 m 12 ls []) := by
    intro q pa pb jk t_signs t_length H locs hP hD hS ls hl hm
    unfold mX9_append_12 at hm
    cases hm
  unfold mX9_append at hm
  refine lv_iload_n hx hb dX9_append_0 rfl (lv_at hl 1 rfl) ?_
  refine lv_bipush (v := 33) hx hb dX9_append_1 (by decide) ?_
  refine lv_icmp_lt (tgt := 12) hx hb dX9_append_3 (by decide) (fun cc3 => ?_) (fun cc3 => ?_)
  · have hm := k_ip cc3 hm
    exact J_12 q pa pb jk t_signs t_length _ _ hP hD hS _ (lv_sub hl [] rfl) hm
  · have hm := k_in cc3 hm
    refine lv_iload_n hx hb dX9_append_6 rfl (lv_at hl 1 rfl) ?_
    refine lv_bipush (v := 126) hx hb dX9_append_7 (by decide) ?_
    refine lv_icmp_le (tgt := 20) hx hb dX9_append_9 (by decide) (fun cc9 => ?_) (fun cc9 => ?_)
    · have hm := k_ip cc9 hm
      refine lv_aload_n hx hb dX9_append_20 rfl (lv_at hl 0 rfl) ?_
      refine va_get (D := D) (ci := 5) (v := .ref (ht 0)) (C := RX9) (T := TX9) (N := 4) hx hb hts hinX9 hown hK hP 0 rfl rfl 2 (by decide) fl26 (fun _ h9 => h9) rfl dX9_append_21 ?_
      obtain ⟨r1, hc24, hm⟩ := k_bds hm
      have hPc : va_P D vwCl (wT cC ht t_signs t_length) _ := k_Psub hP [10, 11] rfl
      have hDc : va_D A (wT cC ht t_signs t_length) := hD.sub [10, 11] (by decide) rfl
      refine k_i_c (Wf := (wX cI cJ cC cG h9 hn ap q ht h0 pa pb pc jk hasS cnt snp G c_mover c_phase c_dice c_stake c_cube c_pieces0 c_pieces1 c_score0 c_score1 c_hits0 c_hits1 c_stopped c_stopPart t_signs t_length)) [10, 11] [0, 1, 2, 3, 4, 5, 6, 7, 8, 9, 12, 13, 14, 15, 16, 17, 18, 19, 20, 21, 22, 23, 24] [0, 1, 2, 3, 4, 5, 6, 7, 8, 9, 23, 24, 10, 11, 12, 13, 14, 15, 16, 17, 18, 19, 20, 21, 22] (k_rV (As := []) (rest := []) ⟨hx, hb, hml, hown, hts⟩ hK hN hPc hDc (zX8_isFull hc24) (cwV 0 hts gX9_append_X8_isFull rfl rfl rfl (by decide +kernel) ⟨Nat.le_of_ble_eq_true rfl, Nat.le_of_ble_eq_true rfl⟩) rfl rfl rfl hl.1 rfl (Nat.le_of_ble_eq_true rfl) dX9_append_24 ⟨Nat.zero_le _, Nat.zero_le _⟩) hP hD hS hA rfl rfl (by decide) (by decide) rfl (by decide) (fun H locs hP hD hS => ?_)
      refine lv_if_eq (tgt := 38) hx hb dX9_append_27 (by decide) (fun cc27 => ?_) (fun cc27 => ?_)
      · have hm := k_ip cc27 hm
        refine lv_aload_n hx hb dX9_append_38 rfl (lv_at hl 0 rfl) ?_
        refine va_get (D := D) (ci := 5) (v := .ref (ht 0)) (C := RX9) (T := TX9) (N := 4) hx hb hts hinX9 hown hK hP 0 rfl rfl 2 (by decide) fl26 (fun _ h9 => h9) rfl dX9_append_39 ?_
        refine lv_iload_n hx hb dX9_append_42 rfl (lv_at hl 1 rfl) ?_
        refine lv_i2c (v := (k_i2c a1)) hx hb dX9_append_43 rfl ?_
        obtain ⟨w2, w3, hc44, hm⟩ := k_bd2s hm
        have hPc : va_P D vwCl (wT cC ht t_signs t_length) _ := k_Psub hP [10, 11] rfl
        have hDc : va_D A (wT cC ht t_signs t_length) := hD.sub [10, 11] (by decide) rfl
        refine k_v_c (Wf := (wX cI cJ cC cG h9 hn ap q ht h0 pa pb pc jk hasS cnt snp G c_mover c_phase c_dice c_stake c_cube c_pieces0 c_pieces1 c_score0 c_score1 c_hits0 c_hits1 c_stopped c_stopPart w2 w3)) [10, 11] [0, 1, 2, 3, 4, 5, 6, 7, 8, 9, 12, 13, 14, 15, 16, 17, 18, 19, 20, 21, 22, 23, 24] [0, 1, 2, 3, 4, 5, 6, 7, 8, 9, 23, 24, 10, 11, 12, 13, 14, 15, 16, 17, 18, 19, 20, 21, 22] (k_rV (As := [.int (k_i2c a1)]) (rest := []) ⟨hx, hb, hml, hown, hts⟩ hK hN hPc hDc (zX8_put hc44) (cwV 1 hts gX9_append_X8_put rfl rfl rfl (by decide +kernel) ⟨Nat.le_of_ble_eq_true rfl, Nat.le_of_ble_eq_true rfl⟩) rfl rfl rfl hl.1 rfl (Nat.le_of_ble_eq_true rfl) dX9_append_44 ⟨Nat.zero_le _, Nat.zero_le _⟩) hP hD hS hA rfl rfl (by decide) (by decide) rfl (by decide) (fun H locs hP hD hS => ?_)
        refine lv_aload_n hx hb dX9_append_47 rfl (lv_at hl 0 rfl) ?_
        refine va_get (D := D) (ci := 5) (v := .ref (ht 0)) (C := RX9) (T := TX9) (N := 4) hx hb hts hinX9 hown hK hP 0 rfl rfl 2 (by decide) fl26 (fun _ h9 => h9) rfl dX9_append_48 ?_
        refine va_get (D := D) (ci := 4) (v := .int w3) (C := RX8) (T := TX8) (N := 2) hx hb hts hinX8 hown hK hP 10 rfl rfl 1 (by decide) fl150 (fun _ h9 => h9) rfl dX9_append_51 ?_
        cases hm
        exact k_end_iE (q, pa, pb, jk) hx hb hr hlocks hK hP hD hS dX9_append_54
      · have hm := k_in cc27 hm
        cases hm
    · have hm := k_in cc9 hm
      exact J_12 q pa pb jk t_signs t_length _ _ hP hD hS _ (lv_sub hl [] rfl) hm

abbrev rmX9_clearBuffer : Room := { frames := 1, cells := 0, slots := 0, locals := 20 }
set_option maxHeartbeats 4000000 in
set_option maxRecDepth 100000 in
theorem zX9_clearBuffer {l : Launch} {D : va_G} {cI cJ cC cG : ClassId} {sz : Nat} {h9 hn h0 : Nat} {ap q ht pa pb pc : Nat → Nat} {jk : JT} {hasS : Bool} {cnt : Int32} {snp : GT} {G : Nat → GT} {c_mover : Int32} {c_phase : Int32} {c_dice : Int32} {c_stake : Int32} {c_cube : Int32} {c_pieces0 : Int64} {c_pieces1 : Int64} {c_score0 : Int32} {c_score1 : Int32} {c_hits0 : Int32} {c_hits1 : Int32} {c_stopped : Bool} {c_stopPart : Int32} {t_signs : Nat → Int32} {t_length : Int32} {r : Int32} {t_length' : Int32} (hm : mX9_clearBuffer t_length = some (r, t_length')) : k_MiE l yX9_clearBuffer wsX9_clearBuffer rmX9_clearBuffer D (kT cI cJ cC cG) sz ([.ref h9] : List Value) (wX cI cJ cC cG h9 hn ap q ht h0 pa pb pc jk hasS cnt snp G c_mover c_phase c_dice c_stake c_cube c_pieces0 c_pieces1 c_score0 c_score1 c_hits0 c_hits1 c_stopped c_stopPart t_signs t_length) (fun u : (Nat → Nat) × (Nat → Nat) × (Nat → Nat) × (JT) => (wX cI cJ cC cG h9 hn ap (u.1) ht h0 (u.2.1) (u.2.2.1) pc (u.2.2.2) hasS cnt snp G c_mover c_phase c_dice c_stake c_cube c_pieces0 c_pieces1 c_score0 c_score1 c_hits0 c_hits1 c_stopped c_stopPart t_signs t_length')) r := by
  refine k_st_iE (cc := cX9_clearBuffer) (maxL := 2) (by decide) rfl (Nat.le_of_ble_eq_true rfl) ?_
  intro p e z m below meth c A hx hb hr hml hts hown hlocks hsz hN hA hK hP hD hS ls hl
  have hown : z.vm.findClass RX9 = some m.cls := hown
  have hinX8 : ∀ w ∈ wsX80, w ∈ wsX9_clearBuffer := by decide +kernel
  have hinX9 : ∀ w ∈ wsX90, w ∈ wsX9_clearBuffer := by decide +kernel
  have fl26 := hts (.fieldLink RX9 26 "MagpieRuns" "text" "LMagpieRuns$Text;") (by decide +kernel)
  have fl150 := hts (.fieldLink RX9 150 "MagpieRuns$Text" "length" "I") (by decide +kernel)
  have hl : lv_has ls 2 [(0, .ref h9)] := hl
  unfold mX9_clearBuffer at hm
  refine lv_aload_n hx hb dX9_clearBuffer_0 rfl (lv_at hl 0 rfl) ?_
  refine va_get (D := D) (ci := 5) (v := .ref (ht 0)) (C := RX9) (T := TX9) (N := 4) hx hb hts hinX9 hown hK hP 0 rfl rfl 2 (by decide) fl26 (fun _ h9 => h9) rfl dX9_clearBuffer_1 ?_
  refine va_get (D := D) (ci := 4) (v := .int t_length) (C := RX8) (T := TX8) (N := 2) hx hb hts hinX8 hown hK hP 10 rfl rfl 1 (by decide) fl150 (fun _ h9 => h9) rfl dX9_clearBuffer_4 ?_
  refine lv_istore_n (lv' := [(1, .int t_length), (0, .ref h9)]) hx hb dX9_clearBuffer_7 rfl hl (by decide) rfl (fun ls hl => ?_)
  refine lv_aload_n hx hb dX9_clearBuffer_8 rfl (lv_at hl 1 rfl) ?_
  refine va_get (D := D) (ci := 5) (v := .ref (ht 0)) (C := RX9) (T := TX9) (N := 4) hx hb hts hinX9 hown hK hP 0 rfl rfl 2 (by decide) fl26 (fun _ h9 => h9) rfl dX9_clearBuffer_9 ?_
  obtain ⟨w1, hc12, hm⟩ := k_bds hm
  have hPc : va_P D vwCl (wT cC ht t_signs t_length) _ := k_Psub hP [10, 11] rfl
  have hDc : va_D A (wT cC ht t_signs t_length) := hD.sub [10, 11] (by decide) rfl
  refine k_v_c (Wf := (wX cI cJ cC cG h9 hn ap q ht h0 pa pb pc jk hasS cnt snp G c_mover c_phase c_dice c_stake c_cube c_pieces0 c_pieces1 c_score0 c_score1 c_hits0 c_hits1 c_stopped c_stopPart t_signs w1)) [10, 11] [0, 1, 2, 3, 4, 5, 6, 7, 8, 9, 12, 13, 14, 15, 16, 17, 18, 19, 20, 21, 22, 23, 24] [0, 1, 2, 3, 4, 5, 6, 7, 8, 9, 23, 24, 10, 11, 12, 13, 14, 15, 16, 17, 18, 19, 20, 21, 22] (k_rV (As := []) (rest := []) ⟨hx, hb, hml, hown, hts⟩ hK hN hPc hDc (zX8_empty hc12) (cwV 0 hts gX9_clearBuffer_X8_empty rfl rfl rfl (by decide +kernel) ⟨Nat.le_of_ble_eq_true rfl, Nat.le_of_ble_eq_true rfl⟩) rfl rfl rfl hl.1 rfl (Nat.le_of_ble_eq_true rfl) dX9_clearBuffer_12 ⟨Nat.zero_le _, Nat.zero_le _⟩) hP hD hS hA rfl rfl (by decide) (by decide) rfl (by decide) (fun H locs hP hD hS => ?_)
  refine lv_iload_n hx hb dX9_clearBuffer_15 rfl (lv_at hl 0 rfl) ?_
  cases hm
  exact k_end_iE (q, pa, pb, jk) hx hb hr hlocks hK hP hD hS dX9_clearBuffer_16

abbrev rmX9_firstError : Room := { frames := 4, cells := 0, slots := 0, locals := 83 }
set_option maxHeartbeats 4000000 in
set_option maxRecDepth 100000 in
theorem zX9_firstError {l : Launch} {D : va_G} {cI cJ cC cG : ClassId} {sz : Nat} {h9 hn h0 : Nat} {ap q ht pa pb pc : Nat → Nat} {jk : JT} {hasS : Bool} {cnt : Int32} {snp : GT} {G : Nat → GT} {c_mover : Int32} {c_phase : Int32} {c_dice : Int32} {c_stake : Int32} {c_cube : Int32} {c_pieces0 : Int64} {c_pieces1 : Int64} {c_score0 : Int32} {c_score1 : Int32} {c_hits0 : Int32} {c_hits1 : Int32} {c_stopped : Bool} {c_stopPart : Int32} {t_signs : Nat → Int32} {t_length : Int32} {r : Int32} (hm : mX9_firstError t_signs t_length = some (r)) : k_MiE l yX9_firstError wsX9_firstError rmX9_firstError D (kT cI cJ cC cG) sz ([.ref h9] : List Value) (wX cI cJ cC cG h9 hn ap q ht h0 pa pb pc jk hasS cnt snp G c_mover c_phase c_dice c_stake c_cube c_pieces0 c_pieces1 c_score0 c_score1 c_hits0 c_hits1 c_stopped c_stopPart t_signs t_length) (fun u : (Nat → Nat) × (Nat → Nat) × (Nat → Nat) × (JT) => (wX cI cJ cC cG h9 hn ap (u.1) ht h0 (u.2.1) (u.2.2.1) pc (u.2.2.2) hasS cnt snp G c_mover c_phase c_dice c_stake c_cube c_pieces0 c_pieces1 c_score0 c_score1 c_hits0 c_hits1 c_stopped c_stopPart t_signs t_length)) r := by
  refine k_st_iE (cc := cX9_firstError) (maxL := 1) (by decide) rfl (Nat.le_of_ble_eq_true rfl) ?_
  intro p e z m below meth c A hx hb hr hml hts hown hlocks hsz hN hA hK hP hD hS ls hl
  have hown : z.vm.findClass RX9 = some m.cls := hown
  have hinX9 : ∀ w ∈ wsX90, w ∈ wsX9_firstError := by decide +kernel
  have fl26 := hts (.fieldLink RX9 26 "MagpieRuns" "text" "LMagpieRuns$Text;") (by decide +kernel)
  have hl : lv_has ls 1 [(0, .ref h9)] := hl
  unfold mX9_firstError at hm
  refine lv_aload_n hx hb dX9_firstError_0 rfl (lv_at hl 0 rfl) ?_
  refine va_get (D := D) (ci := 5) (v := .ref (ht 0)) (C := RX9) (T := TX9) (N := 4) hx hb hts hinX9 hown hK hP 0 rfl rfl 2 (by decide) fl26 (fun _ h9 => h9) rfl dX9_firstError_1 ?_
  obtain ⟨r1, hc4, hm⟩ := k_bds hm
  have hPc : va_P D vwCl (wT cC ht t_signs t_length) _ := k_Psub hP [10, 11] rfl
  have hDc : va_D A (wT cC ht t_signs t_length) := hD.sub [10, 11] (by decide) rfl
  refine k_i_c (Wf := (wX cI cJ cC cG h9 hn ap q ht h0 pa pb pc jk hasS cnt snp G c_mover c_phase c_dice c_stake c_cube c_pieces0 c_pieces1 c_score0 c_score1 c_hits0 c_hits1 c_stopped c_stopPart t_signs t_length)) [10, 11] [0, 1, 2, 3, 4, 5, 6, 7, 8, 9, 12, 13, 14, 15, 16, 17, 18, 19, 20, 21, 22, 23, 24] [0, 1, 2, 3, 4, 5, 6, 7, 8, 9, 23, 24, 10, 11, 12, 13, 14, 15, 16, 17, 18, 19, 20, 21, 22] (k_rV (As := []) (rest := []) ⟨hx, hb, hml, hown, hts⟩ hK hN hPc hDc (zX8_firstWrong hc4) (cwV 0 hts gX9_firstError_X8_firstWrong rfl rfl rfl (by decide +kernel) ⟨Nat.le_of_ble_eq_true rfl, Nat.le_of_ble_eq_true rfl⟩) rfl rfl rfl hl.1 rfl (Nat.le_of_ble_eq_true rfl) dX9_firstError_4 ⟨Nat.zero_le _, Nat.zero_le _⟩) hP hD hS hA rfl rfl (by decide) (by decide) rfl (by decide) (fun H locs hP hD hS => ?_)
  cases hm
  exact k_end_iE (q, pa, pb, jk) hx hb hr hlocks hK hP hD hS dX9_firstError_7

abbrev rmX9_isPartPossible : Room := { frames := 12, cells := 0, slots := 0, locals := 364 }
set_option maxHeartbeats 4000000 in
set_option maxRecDepth 100000 in
theorem zX9_isPartPossible {l : Launch} {D : va_G} {cI cJ cC cG : ClassId} {sz : Nat} {h9 hn h0 : Nat} {ap q ht pa pb pc : Nat → Nat} {jk : JT} {hasS : Bool} {cnt : Int32} {snp : GT} {G : Nat → GT} {c_mover : Int32} {c_phase : Int32} {c_dice : Int32} {c_stake : Int32} {c_cube : Int32} {c_pieces0 : Int64} {c_pieces1 : Int64} {c_score0 : Int32} {c_score1 : Int32} {c_hits0 : Int32} {c_hits1 : Int32} {c_stopped : Bool} {c_stopPart : Int32} {t_signs : Nat → Int32} {t_length : Int32} {a1 : Int32} {a2 : Int32} {r : Bool} (hm : mX9_isPartPossible c_mover c_phase c_dice c_stake c_cube c_pieces0 c_pieces1 t_signs t_length a1 a2 = some (r)) : k_MiE l yX9_isPartPossible wsX9_isPartPossible rmX9_isPartPossible D (kT cI cJ cC cG) sz ([.ref h9, .int a1, .int a2] : List Value) (wX cI cJ cC cG h9 hn ap q ht h0 pa pb pc jk hasS cnt snp G c_mover c_phase c_dice c_stake c_cube c_pieces0 c_pieces1 c_score0 c_score1 c_hits0 c_hits1 c_stopped c_stopPart t_signs t_length) (fun u : (Nat → Nat) × (Nat → Nat) × (Nat → Nat) × (JT) => (wX cI cJ cC cG h9 hn ap (u.1) ht h0 (u.2.1) (u.2.2.1) pc (u.2.2.2) hasS cnt snp G c_mover c_phase c_dice c_stake c_cube c_pieces0 c_pieces1 c_score0 c_score1 c_hits0 c_hits1 c_stopped c_stopPart t_signs t_length)) (k_b r) := by
  refine k_st_iE (cc := cX9_isPartPossible) (maxL := 3) (by decide) rfl (Nat.le_of_ble_eq_true rfl) ?_
  intro p e z m below meth c A hx hb hr hml hts hown hlocks hsz hN hA hK hP hD hS ls hl
  have hown : z.vm.findClass RX9 = some m.cls := hown
  have hinX9 : ∀ w ∈ wsX90, w ∈ wsX9_isPartPossible := by decide +kernel
  have fl10 := hts (.fieldLink RX9 10 "MagpieRuns" "now" "LMagpieRuns$Game;") (by decide +kernel)
  have fl26 := hts (.fieldLink RX9 26 "MagpieRuns" "text" "LMagpieRuns$Text;") (by decide +kernel)
  have hl : lv_has ls 3 [(0, .ref h9), (1, .int a1), (2, .int a2)] := hl
  unfold mX9_isPartPossible at hm
  refine lv_aload_n hx hb dX9_isPartPossible_0 rfl (lv_at hl 0 rfl) ?_
  refine va_get (D := D) (ci := 5) (v := .ref (ht 0)) (C := RX9) (T := TX9) (N := 4) hx hb hts hinX9 hown hK hP 0 rfl rfl 2 (by decide) fl26 (fun _ h9 => h9) rfl dX9_isPartPossible_1 ?_
  refine lv_iload_n hx hb dX9_isPartPossible_4 rfl (lv_at hl 1 rfl) ?_
  obtain ⟨r1, hc5, hm⟩ := k_bds hm
  have hPc : va_P D vwCl (wT cC ht t_signs t_length) _ := k_Psub hP [10, 11] rfl
  have hDc : va_D A (wT cC ht t_signs t_length) := hD.sub [10, 11] (by decide) rfl
  refine k_i_c (Wf := (wX cI cJ cC cG h9 hn ap q ht h0 pa pb pc jk hasS cnt snp G c_mover c_phase c_dice c_stake c_cube c_pieces0 c_pieces1 c_score0 c_score1 c_hits0 c_hits1 c_stopped c_stopPart t_signs t_length)) [10, 11] [0, 1, 2, 3, 4, 5, 6, 7, 8, 9, 12, 13, 14, 15, 16, 17, 18, 19, 20, 21, 22, 23, 24] [0, 1, 2, 3, 4, 5, 6, 7, 8, 9, 23, 24, 10, 11, 12, 13, 14, 15, 16, 17, 18, 19, 20, 21, 22] (k_rV (As := [.int a1]) (rest := []) ⟨hx, hb, hml, hown, hts⟩ hK hN hPc hDc (zX8_at hc5) (cwV 1 hts gX9_isPartPossible_X8_at rfl rfl rfl (by decide +kernel) ⟨Nat.le_of_ble_eq_true rfl, Nat.le_of_ble_eq_true rfl⟩) rfl rfl rfl hl.1 rfl (Nat.le_of_ble_eq_true rfl) dX9_isPartPossible_5 ⟨Nat.zero_le _, Nat.zero_le _⟩) hP hD hS hA rfl rfl (by decide) (by decide) rfl (by decide) (fun H locs hP hD hS => ?_)
  by_cases cs8_98 : r1 = 98
  · have hm := k_ip cs8_98 hm
    refine lv_tableIn (off := 152) (tgt := 160) hx hb dX9_isPartPossible_8 (by rw [cs8_98]; decide +kernel) (by rw [cs8_98]; decide +kernel) (by rw [cs8_98]; decide +kernel) (by decide) ?_
    refine lv_aload_n hx hb dX9_isPartPossible_160 rfl (lv_at hl 0 rfl) ?_
    refine va_get (D := D) (ci := 5) (v := .ref hn) (C := RX9) (T := TX9) (N := 4) hx hb hts hinX9 hown hK hP 0 rfl rfl 0 (by decide) fl10 (fun _ h9 => h9) rfl dX9_isPartPossible_161 ?_
    refine lv_iconst (v := (-1)) hx hb dX9_isPartPossible_164 (by decide) ?_
    refine lv_aload_n hx hb dX9_isPartPossible_165 rfl (lv_at hl 0 rfl) ?_
    refine va_get (D := D) (ci := 5) (v := .ref (ht 0)) (C := RX9) (T := TX9) (N := 4) hx hb hts hinX9 hown hK hP 0 rfl rfl 2 (by decide) fl26 (fun _ h9 => h9) rfl dX9_isPartPossible_166 ?_
    refine lv_iload_n hx hb dX9_isPartPossible_169 rfl (lv_at hl 2 rfl) ?_
    refine lv_iconst (v := 1) hx hb dX9_isPartPossible_170 (by decide) ?_
    refine lv_isub hx hb dX9_isPartPossible_171 ?_
    obtain ⟨r2, hc172, hm⟩ := k_bds hm
    have hPc : va_P D vwCl (wT cC ht t_signs t_length) _ := k_Psub hP [10, 11] rfl
    have hDc : va_D A (wT cC ht t_signs t_length) := hD.sub [10, 11] (by decide) rfl
    refine k_i_c (Wf := (wX cI cJ cC cG h9 hn ap q ht h0 pa pb pc jk hasS cnt snp G c_mover c_phase c_dice c_stake c_cube c_pieces0 c_pieces1 c_score0 c_score1 c_hits0 c_hits1 c_stopped c_stopPart t_signs t_length)) [10, 11] [0, 1, 2, 3, 4, 5, 6, 7, 8, 9, 12, 13, 14, 15, 16, 17, 18, 19, 20, 21, 22, 23, 24] [0, 1, 2, 3, 4, 5, 6, 7, 8, 9, 23, 24, 10, 11, 12, 13, 14, 15, 16, 17, 18, 19, 20, 21, 22] (k_rV (As := [.int (a2 - 1)]) (rest := [.int (-1), .ref hn]) ⟨hx, hb, hml, hown, hts⟩ hK hN hPc hDc (zX8_digitAt hc172) (cwV 1 hts gX9_isPartPossible_X8_digitAt rfl rfl rfl (by decide +kernel) ⟨Nat.le_of_ble_eq_true rfl, Nat.le_of_ble_eq_true rfl⟩) rfl rfl rfl hl.1 rfl (Nat.le_of_ble_eq_true rfl) dX9_isPartPossible_172 ⟨Nat.zero_le _, Nat.zero_le _⟩) hP hD hS hA rfl rfl (by decide) (by decide) rfl (by decide) (fun H locs hP hD hS => ?_)
    obtain ⟨r3, hc175, hm⟩ := k_bds hm
    have hPc : va_P D vwCl (wG hn c_mover c_phase c_dice c_stake c_cube c_pieces0 c_pieces1 c_score0 c_score1 c_hits0 c_hits1 c_stopped c_stopPart) _ := k_Psub hP [1] rfl
    have hDc : va_D A (wG hn c_mover c_phase c_dice c_stake c_cube c_pieces0 c_pieces1 c_score0 c_score1 c_hits0 c_hits1 c_stopped c_stopPart) := hD.sub [1] (by decide) rfl
    refine k_i_c (Wf := (wX cI cJ cC cG h9 hn ap q ht h0 pa pb pc jk hasS cnt snp G c_mover c_phase c_dice c_stake c_cube c_pieces0 c_pieces1 c_score0 c_score1 c_hits0 c_hits1 c_stopped c_stopPart t_signs t_length)) [1] [0, 2, 3, 4, 5, 6, 7, 8, 9, 10, 11, 12, 13, 14, 15, 16, 17, 18, 19, 20, 21, 22, 23, 24] [0, 24, 1, 2, 3, 4, 5, 6, 7, 8, 9, 10, 11, 12, 13, 14, 15, 16, 17, 18, 19, 20, 21, 22, 23] (k_rV (As := [.int (-1), .int r2]) (rest := []) ⟨hx, hb, hml, hown, hts⟩ hK hN hPc hDc (zX1_reasonAgainst hc175) (cwV 2 hts gX9_isPartPossible_X1_reasonAgainst rfl rfl rfl (by decide +kernel) ⟨Nat.le_of_ble_eq_true rfl, Nat.le_of_ble_eq_true rfl⟩) rfl rfl rfl hl.1 rfl (Nat.le_of_ble_eq_true rfl) dX9_isPartPossible_175 ⟨Nat.zero_le _, Nat.zero_le _⟩) hP hD hS hA rfl rfl (by decide) (by decide) rfl (by decide) (fun H locs hP hD hS => ?_)
    refine lv_if_ne (tgt := 185) hx hb dX9_isPartPossible_178 (by decide) (fun cc178 => ?_) (fun cc178 => ?_)
    · have hm := k_in cc178 hm
      refine lv_iconst (v := 0) hx hb dX9_isPartPossible_185 (by decide) ?_
      cases hm
      exact k_end_zE (q, pa, pb, jk) false hx hb hr hlocks hK hP hD hS dX9_isPartPossible_186
    · have hm := k_ip cc178 hm
      refine lv_iconst (v := 1) hx hb dX9_isPartPossible_181 (by decide) ?_
      refine lv_goto (tgt := 186) hx hb dX9_isPartPossible_182 (by decide) ?_
      cases hm
      exact k_end_zE (q, pa, pb, jk) true hx hb hr hlocks hK hP hD hS dX9_isPartPossible_186
  · have hm := k_in cs8_98 hm
    by_cases cs8_100 : r1 = 100
    · have hm := k_ip cs8_100 hm
      refine lv_tableIn (off := 195) (tgt := 203) hx hb dX9_isPartPossible_8 (by rw [cs8_100]; decide +kernel) (by rw [cs8_100]; decide +kernel) (by rw [cs8_100]; decide +kernel) (by decide) ?_
      refine lv_aload_n hx hb dX9_isPartPossible_203 rfl (lv_at hl 0 rfl) ?_
      refine va_get (D := D) (ci := 5) (v := .ref hn) (C := RX9) (T := TX9) (N := 4) hx hb hts hinX9 hown hK hP 0 rfl rfl 0 (by decide) fl10 (fun _ h9 => h9) rfl dX9_isPartPossible_204 ?_
      obtain ⟨r4, hc207, hm⟩ := k_bds hm
      have hPc : va_P D vwCl (wG hn c_mover c_phase c_dice c_stake c_cube c_pieces0 c_pieces1 c_score0 c_score1 c_hits0 c_hits1 c_stopped c_stopPart) _ := k_Psub hP [1] rfl
      have hDc : va_D A (wG hn c_mover c_phase c_dice c_stake c_cube c_pieces0 c_pieces1 c_score0 c_score1 c_hits0 c_hits1 c_stopped c_stopPart) := hD.sub [1] (by decide) rfl
      refine k_i_c (Wf := (wX cI cJ cC cG h9 hn ap q ht h0 pa pb pc jk hasS cnt snp G c_mover c_phase c_dice c_stake c_cube c_pieces0 c_pieces1 c_score0 c_score1 c_hits0 c_hits1 c_stopped c_stopPart t_signs t_length)) [1] [0, 2, 3, 4, 5, 6, 7, 8, 9, 10, 11, 12, 13, 14, 15, 16, 17, 18, 19, 20, 21, 22, 23, 24] [0, 24, 1, 2, 3, 4, 5, 6, 7, 8, 9, 10, 11, 12, 13, 14, 15, 16, 17, 18, 19, 20, 21, 22, 23] (k_rV (As := []) (rest := []) ⟨hx, hb, hml, hown, hts⟩ hK hN hPc hDc (zX1_isOffered hc207) (cwV 0 hts gX9_isPartPossible_X1_isOffered rfl rfl rfl (by decide +kernel) ⟨Nat.le_of_ble_eq_true rfl, Nat.le_of_ble_eq_true rfl⟩) rfl rfl rfl hl.1 rfl (Nat.le_of_ble_eq_true rfl) dX9_isPartPossible_207 ⟨Nat.zero_le _, Nat.zero_le _⟩) hP hD hS hA rfl rfl (by decide) (by decide) rfl (by decide) (fun H locs hP hD hS => ?_)
      cases hm
      exact k_end_zE (q, pa, pb, jk) _ hx hb hr hlocks hK hP hD hS dX9_isPartPossible_210
    · have hm := k_in cs8_100 hm
      by_cases cs8_101 : r1 = 101
      · have hm := k_ip cs8_101 hm
        refine lv_tableIn (off := 179) (tgt := 187) hx hb dX9_isPartPossible_8 (by rw [cs8_101]; decide +kernel) (by rw [cs8_101]; decide +kernel) (by rw [cs8_101]; decide +kernel) (by decide) ?_
        refine lv_aload_n hx hb dX9_isPartPossible_187 rfl (lv_at hl 0 rfl) ?_
        refine va_get (D := D) (ci := 5) (v := .ref hn) (C := RX9) (T := TX9) (N := 4) hx hb hts hinX9 hown hK hP 0 rfl rfl 0 (by decide) fl10 (fun _ h9 => h9) rfl dX9_isPartPossible_188 ?_
        obtain ⟨r5, hc191, hm⟩ := k_bds hm
        have hPc : va_P D vwCl (wG hn c_mover c_phase c_dice c_stake c_cube c_pieces0 c_pieces1 c_score0 c_score1 c_hits0 c_hits1 c_stopped c_stopPart) _ := k_Psub hP [1] rfl
        have hDc : va_D A (wG hn c_mover c_phase c_dice c_stake c_cube c_pieces0 c_pieces1 c_score0 c_score1 c_hits0 c_hits1 c_stopped c_stopPart) := hD.sub [1] (by decide) rfl
        refine k_i_c (Wf := (wX cI cJ cC cG h9 hn ap q ht h0 pa pb pc jk hasS cnt snp G c_mover c_phase c_dice c_stake c_cube c_pieces0 c_pieces1 c_score0 c_score1 c_hits0 c_hits1 c_stopped c_stopPart t_signs t_length)) [1] [0, 2, 3, 4, 5, 6, 7, 8, 9, 10, 11, 12, 13, 14, 15, 16, 17, 18, 19, 20, 21, 22, 23, 24] [0, 24, 1, 2, 3, 4, 5, 6, 7, 8, 9, 10, 11, 12, 13, 14, 15, 16, 17, 18, 19, 20, 21, 22, 23] (k_rV (As := []) (rest := []) ⟨hx, hb, hml, hown, hts⟩ hK hN hPc hDc (zX1_canEndTurn hc191) (cwV 0 hts gX9_isPartPossible_X1_canEndTurn rfl rfl rfl (by decide +kernel) ⟨Nat.le_of_ble_eq_true rfl, Nat.le_of_ble_eq_true rfl⟩) rfl rfl rfl hl.1 rfl (Nat.le_of_ble_eq_true rfl) dX9_isPartPossible_191 ⟨Nat.zero_le _, Nat.zero_le _⟩) hP hD hS hA rfl rfl (by decide) (by decide) rfl (by decide) (fun H locs hP hD hS => ?_)
        cases hm
        exact k_end_zE (q, pa, pb, jk) _ hx hb hr hlocks hK hP hD hS dX9_isPartPossible_194
      · have hm := k_in cs8_101 hm
        by_cases cs8_109 : r1 = 109
        · have hm := k_ip cs8_109 hm
          refine lv_tableIn (off := 116) (tgt := 124) hx hb dX9_isPartPossible_8 (by rw [cs8_109]; decide +kernel) (by rw [cs8_109]; decide +kernel) (by rw [cs8_109]; decide +kernel) (by decide) ?_
          refine lv_aload_n hx hb dX9_isPartPossible_124 rfl (lv_at hl 0 rfl) ?_
          refine va_get (D := D) (ci := 5) (v := .ref hn) (C := RX9) (T := TX9) (N := 4) hx hb hts hinX9 hown hK hP 0 rfl rfl 0 (by decide) fl10 (fun _ h9 => h9) rfl dX9_isPartPossible_125 ?_
          refine lv_aload_n hx hb dX9_isPartPossible_128 rfl (lv_at hl 0 rfl) ?_
          refine va_get (D := D) (ci := 5) (v := .ref (ht 0)) (C := RX9) (T := TX9) (N := 4) hx hb hts hinX9 hown hK hP 0 rfl rfl 2 (by decide) fl26 (fun _ h9 => h9) rfl dX9_isPartPossible_129 ?_
          refine lv_iload_n hx hb dX9_isPartPossible_132 rfl (lv_at hl 1 rfl) ?_
          refine lv_iconst (v := 1) hx hb dX9_isPartPossible_133 (by decide) ?_
          refine lv_iadd hx hb dX9_isPartPossible_134 ?_
          obtain ⟨r6, hc135, hm⟩ := k_bds hm
          have hPc : va_P D vwCl (wT cC ht t_signs t_length) _ := k_Psub hP [10, 11] rfl
          have hDc : va_D A (wT cC ht t_signs t_length) := hD.sub [10, 11] (by decide) rfl
          refine k_i_c (Wf := (wX cI cJ cC cG h9 hn ap q ht h0 pa pb pc jk hasS cnt snp G c_mover c_phase c_dice c_stake c_cube c_pieces0 c_pieces1 c_score0 c_score1 c_hits0 c_hits1 c_stopped c_stopPart t_signs t_length)) [10, 11] [0, 1, 2, 3, 4, 5, 6, 7, 8, 9, 12, 13, 14, 15, 16, 17, 18, 19, 20, 21, 22, 23, 24] [0, 1, 2, 3, 4, 5, 6, 7, 8, 9, 23, 24, 10, 11, 12, 13, 14, 15, 16, 17, 18, 19, 20, 21, 22] (k_rV (As := [.int (a1 + 1)]) (rest := [.ref hn]) ⟨hx, hb, hml, hown, hts⟩ hK hN hPc hDc (zX8_numberAt hc135) (cwV 1 hts gX9_isPartPossible_X8_numberAt rfl rfl rfl (by decide +kernel) ⟨Nat.le_of_ble_eq_true rfl, Nat.le_of_ble_eq_true rfl⟩) rfl rfl rfl hl.1 rfl (Nat.le_of_ble_eq_true rfl) dX9_isPartPossible_135 ⟨Nat.zero_le _, Nat.zero_le _⟩) hP hD hS hA rfl rfl (by decide) (by decide) rfl (by decide) (fun H locs hP hD hS => ?_)
          refine lv_aload_n hx hb dX9_isPartPossible_138 rfl (lv_at hl 0 rfl) ?_
          refine va_get (D := D) (ci := 5) (v := .ref (ht 0)) (C := RX9) (T := TX9) (N := 4) hx hb hts hinX9 hown hK hP 0 rfl rfl 2 (by decide) fl26 (fun _ h9 => h9) rfl dX9_isPartPossible_139 ?_
          refine lv_iload_n hx hb dX9_isPartPossible_142 rfl (lv_at hl 2 rfl) ?_
          refine lv_iconst (v := 1) hx hb dX9_isPartPossible_143 (by decide) ?_
          refine lv_isub hx hb dX9_isPartPossible_144 ?_
          obtain ⟨r7, hc145, hm⟩ := k_bds hm
          have hPc : va_P D vwCl (wT cC ht t_signs t_length) _ := k_Psub hP [10, 11] rfl
          have hDc : va_D A (wT cC ht t_signs t_length) := hD.sub [10, 11] (by decide) rfl
          refine k_i_c (Wf := (wX cI cJ cC cG h9 hn ap q ht h0 pa pb pc jk hasS cnt snp G c_mover c_phase c_dice c_stake c_cube c_pieces0 c_pieces1 c_score0 c_score1 c_hits0 c_hits1 c_stopped c_stopPart t_signs t_length)) [10, 11] [0, 1, 2, 3, 4, 5, 6, 7, 8, 9, 12, 13, 14, 15, 16, 17, 18, 19, 20, 21, 22, 23, 24] [0, 1, 2, 3, 4, 5, 6, 7, 8, 9, 23, 24, 10, 11, 12, 13, 14, 15, 16, 17, 18, 19, 20, 21, 22] (k_rV (As := [.int (a2 - 1)]) (rest := [.int r6, .ref hn]) ⟨hx, hb, hml, hown, hts⟩ hK hN hPc hDc (zX8_digitAt hc145) (cwV 1 hts gX9_isPartPossible_X8_digitAt rfl rfl rfl (by decide +kernel) ⟨Nat.le_of_ble_eq_true rfl, Nat.le_of_ble_eq_true rfl⟩) rfl rfl rfl hl.1 rfl (Nat.le_of_ble_eq_true rfl) dX9_isPartPossible_145 ⟨Nat.zero_le _, Nat.zero_le _⟩) hP hD hS hA rfl rfl (by decide) (by decide) rfl (by decide) (fun H locs hP hD hS => ?_)
          obtain ⟨r8, hc148, hm⟩ := k_bds hm
          have hPc : va_P D vwCl (wG hn c_mover c_phase c_dice c_stake c_cube c_pieces0 c_pieces1 c_score0 c_score1 c_hits0 c_hits1 c_stopped c_stopPart) _ := k_Psub hP [1] rfl
          have hDc : va_D A (wG hn c_mover c_phase c_dice c_stake c_cube c_pieces0 c_pieces1 c_score0 c_score1 c_hits0 c_hits1 c_stopped c_stopPart) := hD.sub [1] (by decide) rfl
          refine k_i_c (Wf := (wX cI cJ cC cG h9 hn ap q ht h0 pa pb pc jk hasS cnt snp G c_mover c_phase c_dice c_stake c_cube c_pieces0 c_pieces1 c_score0 c_score1 c_hits0 c_hits1 c_stopped c_stopPart t_signs t_length)) [1] [0, 2, 3, 4, 5, 6, 7, 8, 9, 10, 11, 12, 13, 14, 15, 16, 17, 18, 19, 20, 21, 22, 23, 24] [0, 24, 1, 2, 3, 4, 5, 6, 7, 8, 9, 10, 11, 12, 13, 14, 15, 16, 17, 18, 19, 20, 21, 22, 23] (k_rV (As := [.int r6, .int r7]) (rest := []) ⟨hx, hb, hml, hown, hts⟩ hK hN hPc hDc (zX1_reasonAgainst hc148) (cwV 2 hts gX9_isPartPossible_X1_reasonAgainst rfl rfl rfl (by decide +kernel) ⟨Nat.le_of_ble_eq_true rfl, Nat.le_of_ble_eq_true rfl⟩) rfl rfl rfl hl.1 rfl (Nat.le_of_ble_eq_true rfl) dX9_isPartPossible_148 ⟨Nat.zero_le _, Nat.zero_le _⟩) hP hD hS hA rfl rfl (by decide) (by decide) rfl (by decide) (fun H locs hP hD hS => ?_)
          refine lv_if_ne (tgt := 158) hx hb dX9_isPartPossible_151 (by decide) (fun cc151 => ?_) (fun cc151 => ?_)
          · have hm := k_in cc151 hm
            refine lv_iconst (v := 0) hx hb dX9_isPartPossible_158 (by decide) ?_
            cases hm
            exact k_end_zE (q, pa, pb, jk) false hx hb hr hlocks hK hP hD hS dX9_isPartPossible_159
          · have hm := k_ip cc151 hm
            refine lv_iconst (v := 1) hx hb dX9_isPartPossible_154 (by decide) ?_
            refine lv_goto (tgt := 159) hx hb dX9_isPartPossible_155 (by decide) ?_
            cases hm
            exact k_end_zE (q, pa, pb, jk) true hx hb hr hlocks hK hP hD hS dX9_isPartPossible_159
        · have hm := k_in cs8_109 hm
          by_cases cs8_114 : r1 = 114
          · have hm := k_ip cs8_114 hm
            refine lv_tableIn (off := 108) (tgt := 116) hx hb dX9_isPartPossible_8 (by rw [cs8_114]; decide +kernel) (by rw [cs8_114]; decide +kernel) (by rw [cs8_114]; decide +kernel) (by decide) ?_
            refine lv_aload_n hx hb dX9_isPartPossible_116 rfl (lv_at hl 0 rfl) ?_
            refine va_get (D := D) (ci := 5) (v := .ref hn) (C := RX9) (T := TX9) (N := 4) hx hb hts hinX9 hown hK hP 0 rfl rfl 0 (by decide) fl10 (fun _ h9 => h9) rfl dX9_isPartPossible_117 ?_
            obtain ⟨r9, hc120, hm⟩ := k_bds hm
            have hPc : va_P D vwCl (wG hn c_mover c_phase c_dice c_stake c_cube c_pieces0 c_pieces1 c_score0 c_score1 c_hits0 c_hits1 c_stopped c_stopPart) _ := k_Psub hP [1] rfl
            have hDc : va_D A (wG hn c_mover c_phase c_dice c_stake c_cube c_pieces0 c_pieces1 c_score0 c_score1 c_hits0 c_hits1 c_stopped c_stopPart) := hD.sub [1] (by decide) rfl
            refine k_i_c (Wf := (wX cI cJ cC cG h9 hn ap q ht h0 pa pb pc jk hasS cnt snp G c_mover c_phase c_dice c_stake c_cube c_pieces0 c_pieces1 c_score0 c_score1 c_hits0 c_hits1 c_stopped c_stopPart t_signs t_length)) [1] [0, 2, 3, 4, 5, 6, 7, 8, 9, 10, 11, 12, 13, 14, 15, 16, 17, 18, 19, 20, 21, 22, 23, 24] [0, 24, 1, 2, 3, 4, 5, 6, 7, 8, 9, 10, 11, 12, 13, 14, 15, 16, 17, 18, 19, 20, 21, 22, 23] (k_rV (As := []) (rest := []) ⟨hx, hb, hml, hown, hts⟩ hK hN hPc hDc (zX1_awaitsRoll hc120) (cwV 0 hts gX9_isPartPossible_X1_awaitsRoll rfl rfl rfl (by decide +kernel) ⟨Nat.le_of_ble_eq_true rfl, Nat.le_of_ble_eq_true rfl⟩) rfl rfl rfl hl.1 rfl (Nat.le_of_ble_eq_true rfl) dX9_isPartPossible_120 ⟨Nat.zero_le _, Nat.zero_le _⟩) hP hD hS hA rfl rfl (by decide) (by decide) rfl (by decide) (fun H locs hP hD hS => ?_)
            cases hm
            exact k_end_zE (q, pa, pb, jk) _ hx hb hr hlocks hK hP hD hS dX9_isPartPossible_123
          · have hm := k_in cs8_114 hm
            by_cases cs8_116 : r1 = 116
            · have hm := k_ip cs8_116 hm
              refine lv_tableIn (off := 195) (tgt := 203) hx hb dX9_isPartPossible_8 (by rw [cs8_116]; decide +kernel) (by rw [cs8_116]; decide +kernel) (by rw [cs8_116]; decide +kernel) (by decide) ?_
              refine lv_aload_n hx hb dX9_isPartPossible_203 rfl (lv_at hl 0 rfl) ?_
              refine va_get (D := D) (ci := 5) (v := .ref hn) (C := RX9) (T := TX9) (N := 4) hx hb hts hinX9 hown hK hP 0 rfl rfl 0 (by decide) fl10 (fun _ h9 => h9) rfl dX9_isPartPossible_204 ?_
              obtain ⟨r10, hc207, hm⟩ := k_bds hm
              have hPc : va_P D vwCl (wG hn c_mover c_phase c_dice c_stake c_cube c_pieces0 c_pieces1 c_score0 c_score1 c_hits0 c_hits1 c_stopped c_stopPart) _ := k_Psub hP [1] rfl
              have hDc : va_D A (wG hn c_mover c_phase c_dice c_stake c_cube c_pieces0 c_pieces1 c_score0 c_score1 c_hits0 c_hits1 c_stopped c_stopPart) := hD.sub [1] (by decide) rfl
              refine k_i_c (Wf := (wX cI cJ cC cG h9 hn ap q ht h0 pa pb pc jk hasS cnt snp G c_mover c_phase c_dice c_stake c_cube c_pieces0 c_pieces1 c_score0 c_score1 c_hits0 c_hits1 c_stopped c_stopPart t_signs t_length)) [1] [0, 2, 3, 4, 5, 6, 7, 8, 9, 10, 11, 12, 13, 14, 15, 16, 17, 18, 19, 20, 21, 22, 23, 24] [0, 24, 1, 2, 3, 4, 5, 6, 7, 8, 9, 10, 11, 12, 13, 14, 15, 16, 17, 18, 19, 20, 21, 22, 23] (k_rV (As := []) (rest := []) ⟨hx, hb, hml, hown, hts⟩ hK hN hPc hDc (zX1_isOffered hc207) (cwV 0 hts gX9_isPartPossible_X1_isOffered rfl rfl rfl (by decide +kernel) ⟨Nat.le_of_ble_eq_true rfl, Nat.le_of_ble_eq_true rfl⟩) rfl rfl rfl hl.1 rfl (Nat.le_of_ble_eq_true rfl) dX9_isPartPossible_207 ⟨Nat.zero_le _, Nat.zero_le _⟩) hP hD hS hA rfl rfl (by decide) (by decide) rfl (by decide) (fun H locs hP hD hS => ?_)
              cases hm
              exact k_end_zE (q, pa, pb, jk) _ hx hb hr hlocks hK hP hD hS dX9_isPartPossible_210
            · have hm := k_in cs8_116 hm
              by_cases cs8_120 : r1 = 120
              · have hm := k_ip cs8_120 hm
                refine lv_tableIn (off := 187) (tgt := 195) hx hb dX9_isPartPossible_8 (by rw [cs8_120]; decide +kernel) (by rw [cs8_120]; decide +kernel) (by rw [cs8_120]; decide +kernel) (by decide) ?_
                refine lv_aload_n hx hb dX9_isPartPossible_195 rfl (lv_at hl 0 rfl) ?_
                refine va_get (D := D) (ci := 5) (v := .ref hn) (C := RX9) (T := TX9) (N := 4) hx hb hts hinX9 hown hK hP 0 rfl rfl 0 (by decide) fl10 (fun _ h9 => h9) rfl dX9_isPartPossible_196 ?_
                obtain ⟨r11, hc199, hm⟩ := k_bds hm
                have hPc : va_P D vwCl (wG hn c_mover c_phase c_dice c_stake c_cube c_pieces0 c_pieces1 c_score0 c_score1 c_hits0 c_hits1 c_stopped c_stopPart) _ := k_Psub hP [1] rfl
                have hDc : va_D A (wG hn c_mover c_phase c_dice c_stake c_cube c_pieces0 c_pieces1 c_score0 c_score1 c_hits0 c_hits1 c_stopped c_stopPart) := hD.sub [1] (by decide) rfl
                refine k_i_c (Wf := (wX cI cJ cC cG h9 hn ap q ht h0 pa pb pc jk hasS cnt snp G c_mover c_phase c_dice c_stake c_cube c_pieces0 c_pieces1 c_score0 c_score1 c_hits0 c_hits1 c_stopped c_stopPart t_signs t_length)) [1] [0, 2, 3, 4, 5, 6, 7, 8, 9, 10, 11, 12, 13, 14, 15, 16, 17, 18, 19, 20, 21, 22, 23, 24] [0, 24, 1, 2, 3, 4, 5, 6, 7, 8, 9, 10, 11, 12, 13, 14, 15, 16, 17, 18, 19, 20, 21, 22, 23] (k_rV (As := []) (rest := []) ⟨hx, hb, hml, hown, hts⟩ hK hN hPc hDc (zX1_canOffer hc199) (cwV 0 hts gX9_isPartPossible_X1_canOffer rfl rfl rfl (by decide +kernel) ⟨Nat.le_of_ble_eq_true rfl, Nat.le_of_ble_eq_true rfl⟩) rfl rfl rfl hl.1 rfl (Nat.le_of_ble_eq_true rfl) dX9_isPartPossible_199 ⟨Nat.zero_le _, Nat.zero_le _⟩) hP hD hS hA rfl rfl (by decide) (by decide) rfl (by decide) (fun H locs hP hD hS => ?_)
                cases hm
                exact k_end_zE (q, pa, pb, jk) _ hx hb hr hlocks hK hP hD hS dX9_isPartPossible_202
              · have hm := k_in cs8_120 hm
                refine k_tabD (tgt := 211) [98, 100, 101, 109, 114, 116, 120] hx hb dX9_isPartPossible_8 (by decide) (by decide +kernel) (by decide +kernel) (by intro k hk; simp only [List.mem_cons, List.not_mem_nil, or_false] at hk; rcases hk with rfl | rfl | rfl | rfl | rfl | rfl | rfl <;> assumption) ?_
                refine lv_aload_n hx hb dX9_isPartPossible_211 rfl (lv_at hl 0 rfl) ?_
                refine va_get (D := D) (ci := 5) (v := .ref hn) (C := RX9) (T := TX9) (N := 4) hx hb hts hinX9 hown hK hP 0 rfl rfl 0 (by decide) fl10 (fun _ h9 => h9) rfl dX9_isPartPossible_212 ?_
                obtain ⟨r12, hc215, hm⟩ := k_bds hm
                have hPc : va_P D vwCl (wG hn c_mover c_phase c_dice c_stake c_cube c_pieces0 c_pieces1 c_score0 c_score1 c_hits0 c_hits1 c_stopped c_stopPart) _ := k_Psub hP [1] rfl
                have hDc : va_D A (wG hn c_mover c_phase c_dice c_stake c_cube c_pieces0 c_pieces1 c_score0 c_score1 c_hits0 c_hits1 c_stopped c_stopPart) := hD.sub [1] (by decide) rfl
                refine k_i_c (Wf := (wX cI cJ cC cG h9 hn ap q ht h0 pa pb pc jk hasS cnt snp G c_mover c_phase c_dice c_stake c_cube c_pieces0 c_pieces1 c_score0 c_score1 c_hits0 c_hits1 c_stopped c_stopPart t_signs t_length)) [1] [0, 2, 3, 4, 5, 6, 7, 8, 9, 10, 11, 12, 13, 14, 15, 16, 17, 18, 19, 20, 21, 22, 23, 24] [0, 24, 1, 2, 3, 4, 5, 6, 7, 8, 9, 10, 11, 12, 13, 14, 15, 16, 17, 18, 19, 20, 21, 22, 23] (k_rV (As := []) (rest := []) ⟨hx, hb, hml, hown, hts⟩ hK hN hPc hDc (zX1_isOver hc215) (cwV 0 hts gX9_isPartPossible_X1_isOver rfl rfl rfl (by decide +kernel) ⟨Nat.le_of_ble_eq_true rfl, Nat.le_of_ble_eq_true rfl⟩) rfl rfl rfl hl.1 rfl (Nat.le_of_ble_eq_true rfl) dX9_isPartPossible_215 ⟨Nat.zero_le _, Nat.zero_le _⟩) hP hD hS hA rfl rfl (by decide) (by decide) rfl (by decide) (fun H locs hP hD hS => ?_)
                cases hm
                exact k_end_zE (q, pa, pb, jk) _ hx hb hr hlocks hK hP hD hS dX9_isPartPossible_218

abbrev rmX9_doPart : Room := { frames := 3, cells := 0, slots := 0, locals := 73 }
set_option maxHeartbeats 4000000 in
set_option maxRecDepth 100000 in
theorem zX9_doPart {l : Launch} {D : va_G} {cI cJ cC cG : ClassId} {sz : Nat} {h9 hn h0 : Nat} {ap q ht pa pb pc : Nat → Nat} {jk : JT} {hasS : Bool} {cnt : Int32} {snp : GT} {G : Nat → GT} {c_mover : Int32} {c_phase : Int32} {c_dice : Int32} {c_stake : Int32} {c_cube : Int32} {c_pieces0 : Int64} {c_pieces1 : Int64} {c_score0 : Int32} {c_score1 : Int32} {c_hits0 : Int32} {c_hits1 : Int32} {c_stopped : Bool} {c_stopPart : Int32} {t_signs : Nat → Int32} {t_length : Int32} {a1 : Int32} {a2 : Int32} {c_mover' : Int32} {c_phase' : Int32} {c_dice' : Int32} {c_stake' : Int32} {c_cube' : Int32} {c_pieces0' : Int64} {c_pieces1' : Int64} {c_score0' : Int32} {c_score1' : Int32} {c_hits0' : Int32} {c_hits1' : Int32} (hm : mX9_doPart c_mover c_phase c_dice c_stake c_cube c_pieces0 c_pieces1 c_score0 c_score1 c_hits0 c_hits1 t_signs t_length a1 a2 = some (c_mover', c_phase', c_dice', c_stake', c_cube', c_pieces0', c_pieces1', c_score0', c_score1', c_hits0', c_hits1')) : k_MvE l yX9_doPart wsX9_doPart rmX9_doPart D (kT cI cJ cC cG) sz ([.ref h9, .int a1, .int a2] : List Value) (wX cI cJ cC cG h9 hn ap q ht h0 pa pb pc jk hasS cnt snp G c_mover c_phase c_dice c_stake c_cube c_pieces0 c_pieces1 c_score0 c_score1 c_hits0 c_hits1 c_stopped c_stopPart t_signs t_length) (fun u : (Nat → Nat) × (Nat → Nat) × (Nat → Nat) × (JT) => (wX cI cJ cC cG h9 hn ap (u.1) ht h0 (u.2.1) (u.2.2.1) pc (u.2.2.2) hasS cnt snp G c_mover' c_phase' c_dice' c_stake' c_cube' c_pieces0' c_pieces1' c_score0' c_score1' c_hits0' c_hits1' c_stopped c_stopPart t_signs t_length)) := by
  refine k_st_vE (cc := cX9_doPart) (maxL := 3) (by decide) rfl (Nat.le_of_ble_eq_true rfl) ?_
  intro p e z m below meth c A hx hb hr hml hts hown hlocks hsz hN hA hK hP hD hS ls hl
  have hown : z.vm.findClass RX9 = some m.cls := hown
  have hinX9 : ∀ w ∈ wsX90, w ∈ wsX9_doPart := by decide +kernel
  have fl10 := hts (.fieldLink RX9 10 "MagpieRuns" "now" "LMagpieRuns$Game;") (by decide +kernel)
  have fl26 := hts (.fieldLink RX9 26 "MagpieRuns" "text" "LMagpieRuns$Text;") (by decide +kernel)
  have hl : lv_has ls 3 [(0, .ref h9), (1, .int a1), (2, .int a2)] := hl
  unfold mX9_doPart at hm
  refine lv_aload_n hx hb dX9_doPart_0 rfl (lv_at hl 0 rfl) ?_
  refine va_get (D := D) (ci := 5) (v := .ref (ht 0)) (C := RX9) (T := TX9) (N := 4) hx hb hts hinX9 hown hK hP 0 rfl rfl 2 (by decide) fl26 (fun _ h9 => h9) rfl dX9_doPart_1 ?_
  refine lv_iload_n hx hb dX9_doPart_4 rfl (lv_at hl 1 rfl) ?_
  obtain ⟨r1, hc5, hm⟩ := k_bds hm
  have hPc : va_P D vwCl (wT cC ht t_signs t_length) _ := k_Psub hP [10, 11] rfl
  have hDc : va_D A (wT cC ht t_signs t_length) := hD.sub [10, 11] (by decide) rfl
  refine k_i_c (Wf := (wX cI cJ cC cG h9 hn ap q ht h0 pa pb pc jk hasS cnt snp G c_mover c_phase c_dice c_stake c_cube c_pieces0 c_pieces1 c_score0 c_score1 c_hits0 c_hits1 c_stopped c_stopPart t_signs t_length)) [10, 11] [0, 1, 2, 3, 4, 5, 6, 7, 8, 9, 12, 13, 14, 15, 16, 17, 18, 19, 20, 21, 22, 23, 24] [0, 1, 2, 3, 4, 5, 6, 7, 8, 9, 23, 24, 10, 11, 12, 13, 14, 15, 16, 17, 18, 19, 20, 21, 22] (k_rV (As := [.int a1]) (rest := []) ⟨hx, hb, hml, hown, hts⟩ hK hN hPc hDc (zX8_at hc5) (cwV 1 hts gX9_doPart_X8_at rfl rfl rfl (by decide +kernel) ⟨Nat.le_of_ble_eq_true rfl, Nat.le_of_ble_eq_true rfl⟩) rfl rfl rfl hl.1 rfl (Nat.le_of_ble_eq_true rfl) dX9_doPart_5 ⟨Nat.zero_le _, Nat.zero_le _⟩) hP hD hS hA rfl rfl (by decide) (by decide) rfl (by decide) (fun H locs hP hD hS => ?_)
  by_cases cs8_98 : r1 = 98
  · have hm := k_ip cs8_98 hm
    refine lv_tableIn (off := 169) (tgt := 177) hx hb dX9_doPart_8 (by rw [cs8_98]; decide +kernel) (by rw [cs8_98]; decide +kernel) (by rw [cs8_98]; decide +kernel) (by decide) ?_
    refine lv_aload_n hx hb dX9_doPart_177 rfl (lv_at hl 0 rfl) ?_
    refine va_get (D := D) (ci := 5) (v := .ref hn) (C := RX9) (T := TX9) (N := 4) hx hb hts hinX9 hown hK hP 0 rfl rfl 0 (by decide) fl10 (fun _ h9 => h9) rfl dX9_doPart_178 ?_
    refine lv_iconst (v := (-1)) hx hb dX9_doPart_181 (by decide) ?_
    refine lv_aload_n hx hb dX9_doPart_182 rfl (lv_at hl 0 rfl) ?_
    refine va_get (D := D) (ci := 5) (v := .ref (ht 0)) (C := RX9) (T := TX9) (N := 4) hx hb hts hinX9 hown hK hP 0 rfl rfl 2 (by decide) fl26 (fun _ h9 => h9) rfl dX9_doPart_183 ?_
    refine lv_iload_n hx hb dX9_doPart_186 rfl (lv_at hl 2 rfl) ?_
    refine lv_iconst (v := 1) hx hb dX9_doPart_187 (by decide) ?_
    refine lv_isub hx hb dX9_doPart_188 ?_
    obtain ⟨r2, hc189, hm⟩ := k_bds hm
    have hPc : va_P D vwCl (wT cC ht t_signs t_length) _ := k_Psub hP [10, 11] rfl
    have hDc : va_D A (wT cC ht t_signs t_length) := hD.sub [10, 11] (by decide) rfl
    refine k_i_c (Wf := (wX cI cJ cC cG h9 hn ap q ht h0 pa pb pc jk hasS cnt snp G c_mover c_phase c_dice c_stake c_cube c_pieces0 c_pieces1 c_score0 c_score1 c_hits0 c_hits1 c_stopped c_stopPart t_signs t_length)) [10, 11] [0, 1, 2, 3, 4, 5, 6, 7, 8, 9, 12, 13, 14, 15, 16, 17, 18, 19, 20, 21, 22, 23, 24] [0, 1, 2, 3, 4, 5, 6, 7, 8, 9, 23, 24, 10, 11, 12, 13, 14, 15, 16, 17, 18, 19, 20, 21, 22] (k_rV (As := [.int (a2 - 1)]) (rest := [.int (-1), .ref hn]) ⟨hx, hb, hml, hown, hts⟩ hK hN hPc hDc (zX8_digitAt hc189) (cwV 1 hts gX9_doPart_X8_digitAt rfl rfl rfl (by decide +kernel) ⟨Nat.le_of_ble_eq_true rfl, Nat.le_of_ble_eq_true rfl⟩) rfl rfl rfl hl.1 rfl (Nat.le_of_ble_eq_true rfl) dX9_doPart_189 ⟨Nat.zero_le _, Nat.zero_le _⟩) hP hD hS hA rfl rfl (by decide) (by decide) rfl (by decide) (fun H locs hP hD hS => ?_)
    obtain ⟨r3, w4, w5, w6, w7, w8, w9, w10, w11, hc192, hm⟩ := k_bd9s hm
    have hPc : va_P D vwCl (wG hn c_mover c_phase c_dice c_stake c_cube c_pieces0 c_pieces1 c_score0 c_score1 c_hits0 c_hits1 c_stopped c_stopPart) _ := k_Psub hP [1] rfl
    have hDc : va_D A (wG hn c_mover c_phase c_dice c_stake c_cube c_pieces0 c_pieces1 c_score0 c_score1 c_hits0 c_hits1 c_stopped c_stopPart) := hD.sub [1] (by decide) rfl
    refine k_i_c (Wf := (wX cI cJ cC cG h9 hn ap q ht h0 pa pb pc jk hasS cnt snp G c_mover w4 w5 c_stake c_cube w6 w7 w8 w9 w10 w11 c_stopped c_stopPart t_signs t_length)) [1] [0, 2, 3, 4, 5, 6, 7, 8, 9, 10, 11, 12, 13, 14, 15, 16, 17, 18, 19, 20, 21, 22, 23, 24] [0, 24, 1, 2, 3, 4, 5, 6, 7, 8, 9, 10, 11, 12, 13, 14, 15, 16, 17, 18, 19, 20, 21, 22, 23] (k_rV (As := [.int (-1), .int r2]) (rest := []) ⟨hx, hb, hml, hown, hts⟩ hK hN hPc hDc (zX1_doStep hc192) (cwV 2 hts gX9_doPart_X1_doStep rfl rfl rfl (by decide +kernel) ⟨Nat.le_of_ble_eq_true rfl, Nat.le_of_ble_eq_true rfl⟩) rfl rfl rfl hl.1 rfl (Nat.le_of_ble_eq_true rfl) dX9_doPart_192 ⟨Nat.zero_le _, Nat.zero_le _⟩) hP hD hS hA rfl rfl (by decide) (by decide) rfl (by decide) (fun H locs hP hD hS => ?_)
    refine lv_pop hx hb dX9_doPart_195 rfl ?_
    refine lv_goto (tgt := 246) hx hb dX9_doPart_196 (by decide) ?_
    cases hm
    exact k_end_vE (q, pa, pb, jk) hx hb hr hlocks hK hP hD hS dX9_doPart_246
  · have hm := k_in cs8_98 hm
    by_cases cs8_100 : r1 = 100
    · have hm := k_ip cs8_100 hm
      refine lv_tableIn (off := 221) (tgt := 229) hx hb dX9_doPart_8 (by rw [cs8_100]; decide +kernel) (by rw [cs8_100]; decide +kernel) (by rw [cs8_100]; decide +kernel) (by decide) ?_
      refine lv_aload_n hx hb dX9_doPart_229 rfl (lv_at hl 0 rfl) ?_
      refine va_get (D := D) (ci := 5) (v := .ref hn) (C := RX9) (T := TX9) (N := 4) hx hb hts hinX9 hown hK hP 0 rfl rfl 0 (by decide) fl10 (fun _ h9 => h9) rfl dX9_doPart_230 ?_
      obtain ⟨w12, w13, w14, w15, hc233, hm⟩ := k_bd4s hm
      have hPc : va_P D vwCl (wG hn c_mover c_phase c_dice c_stake c_cube c_pieces0 c_pieces1 c_score0 c_score1 c_hits0 c_hits1 c_stopped c_stopPart) _ := k_Psub hP [1] rfl
      have hDc : va_D A (wG hn c_mover c_phase c_dice c_stake c_cube c_pieces0 c_pieces1 c_score0 c_score1 c_hits0 c_hits1 c_stopped c_stopPart) := hD.sub [1] (by decide) rfl
      refine k_v_c (Wf := (wX cI cJ cC cG h9 hn ap q ht h0 pa pb pc jk hasS cnt snp G c_mover w12 w13 c_stake c_cube c_pieces0 c_pieces1 w14 w15 c_hits0 c_hits1 c_stopped c_stopPart t_signs t_length)) [1] [0, 2, 3, 4, 5, 6, 7, 8, 9, 10, 11, 12, 13, 14, 15, 16, 17, 18, 19, 20, 21, 22, 23, 24] [0, 24, 1, 2, 3, 4, 5, 6, 7, 8, 9, 10, 11, 12, 13, 14, 15, 16, 17, 18, 19, 20, 21, 22, 23] (k_rV (As := []) (rest := []) ⟨hx, hb, hml, hown, hts⟩ hK hN hPc hDc (zX1_doDrop hc233) (cwV 0 hts gX9_doPart_X1_doDrop rfl rfl rfl (by decide +kernel) ⟨Nat.le_of_ble_eq_true rfl, Nat.le_of_ble_eq_true rfl⟩) rfl rfl rfl hl.1 rfl (Nat.le_of_ble_eq_true rfl) dX9_doPart_233 ⟨Nat.zero_le _, Nat.zero_le _⟩) hP hD hS hA rfl rfl (by decide) (by decide) rfl (by decide) (fun H locs hP hD hS => ?_)
      refine lv_goto (tgt := 246) hx hb dX9_doPart_236 (by decide) ?_
      cases hm
      exact k_end_vE (q, pa, pb, jk) hx hb hr hlocks hK hP hD hS dX9_doPart_246
    · have hm := k_in cs8_100 hm
      by_cases cs8_101 : r1 = 101
      · have hm := k_ip cs8_101 hm
        refine lv_tableIn (off := 191) (tgt := 199) hx hb dX9_doPart_8 (by rw [cs8_101]; decide +kernel) (by rw [cs8_101]; decide +kernel) (by rw [cs8_101]; decide +kernel) (by decide) ?_
        refine lv_aload_n hx hb dX9_doPart_199 rfl (lv_at hl 0 rfl) ?_
        refine va_get (D := D) (ci := 5) (v := .ref hn) (C := RX9) (T := TX9) (N := 4) hx hb hts hinX9 hown hK hP 0 rfl rfl 0 (by decide) fl10 (fun _ h9 => h9) rfl dX9_doPart_200 ?_
        obtain ⟨w16, w17, w18, hc203, hm⟩ := k_bd3s hm
        have hPc : va_P D vwCl (wG hn c_mover c_phase c_dice c_stake c_cube c_pieces0 c_pieces1 c_score0 c_score1 c_hits0 c_hits1 c_stopped c_stopPart) _ := k_Psub hP [1] rfl
        have hDc : va_D A (wG hn c_mover c_phase c_dice c_stake c_cube c_pieces0 c_pieces1 c_score0 c_score1 c_hits0 c_hits1 c_stopped c_stopPart) := hD.sub [1] (by decide) rfl
        refine k_v_c (Wf := (wX cI cJ cC cG h9 hn ap q ht h0 pa pb pc jk hasS cnt snp G w16 w17 w18 c_stake c_cube c_pieces0 c_pieces1 c_score0 c_score1 c_hits0 c_hits1 c_stopped c_stopPart t_signs t_length)) [1] [0, 2, 3, 4, 5, 6, 7, 8, 9, 10, 11, 12, 13, 14, 15, 16, 17, 18, 19, 20, 21, 22, 23, 24] [0, 24, 1, 2, 3, 4, 5, 6, 7, 8, 9, 10, 11, 12, 13, 14, 15, 16, 17, 18, 19, 20, 21, 22, 23] (k_rV (As := []) (rest := []) ⟨hx, hb, hml, hown, hts⟩ hK hN hPc hDc (zX1_doEndTurn hc203) (cwV 0 hts gX9_doPart_X1_doEndTurn rfl rfl rfl (by decide +kernel) ⟨Nat.le_of_ble_eq_true rfl, Nat.le_of_ble_eq_true rfl⟩) rfl rfl rfl hl.1 rfl (Nat.le_of_ble_eq_true rfl) dX9_doPart_203 ⟨Nat.zero_le _, Nat.zero_le _⟩) hP hD hS hA rfl rfl (by decide) (by decide) rfl (by decide) (fun H locs hP hD hS => ?_)
        refine lv_goto (tgt := 246) hx hb dX9_doPart_206 (by decide) ?_
        cases hm
        exact k_end_vE (q, pa, pb, jk) hx hb hr hlocks hK hP hD hS dX9_doPart_246
      · have hm := k_in cs8_101 hm
        by_cases cs8_109 : r1 = 109
        · have hm := k_ip cs8_109 hm
          refine lv_tableIn (off := 138) (tgt := 146) hx hb dX9_doPart_8 (by rw [cs8_109]; decide +kernel) (by rw [cs8_109]; decide +kernel) (by rw [cs8_109]; decide +kernel) (by decide) ?_
          refine lv_aload_n hx hb dX9_doPart_146 rfl (lv_at hl 0 rfl) ?_
          refine va_get (D := D) (ci := 5) (v := .ref hn) (C := RX9) (T := TX9) (N := 4) hx hb hts hinX9 hown hK hP 0 rfl rfl 0 (by decide) fl10 (fun _ h9 => h9) rfl dX9_doPart_147 ?_
          refine lv_aload_n hx hb dX9_doPart_150 rfl (lv_at hl 0 rfl) ?_
          refine va_get (D := D) (ci := 5) (v := .ref (ht 0)) (C := RX9) (T := TX9) (N := 4) hx hb hts hinX9 hown hK hP 0 rfl rfl 2 (by decide) fl26 (fun _ h9 => h9) rfl dX9_doPart_151 ?_
          refine lv_iload_n hx hb dX9_doPart_154 rfl (lv_at hl 1 rfl) ?_
          refine lv_iconst (v := 1) hx hb dX9_doPart_155 (by decide) ?_
          refine lv_iadd hx hb dX9_doPart_156 ?_
          obtain ⟨r19, hc157, hm⟩ := k_bds hm
          have hPc : va_P D vwCl (wT cC ht t_signs t_length) _ := k_Psub hP [10, 11] rfl
          have hDc : va_D A (wT cC ht t_signs t_length) := hD.sub [10, 11] (by decide) rfl
          refine k_i_c (Wf := (wX cI cJ cC cG h9 hn ap q ht h0 pa pb pc jk hasS cnt snp G c_mover c_phase c_dice c_stake c_cube c_pieces0 c_pieces1 c_score0 c_score1 c_hits0 c_hits1 c_stopped c_stopPart t_signs t_length)) [10, 11] [0, 1, 2, 3, 4, 5, 6, 7, 8, 9, 12, 13, 14, 15, 16, 17, 18, 19, 20, 21, 22, 23, 24] [0, 1, 2, 3, 4, 5, 6, 7, 8, 9, 23, 24, 10, 11, 12, 13, 14, 15, 16, 17, 18, 19, 20, 21, 22] (k_rV (As := [.int (a1 + 1)]) (rest := [.ref hn]) ⟨hx, hb, hml, hown, hts⟩ hK hN hPc hDc (zX8_numberAt hc157) (cwV 1 hts gX9_doPart_X8_numberAt rfl rfl rfl (by decide +kernel) ⟨Nat.le_of_ble_eq_true rfl, Nat.le_of_ble_eq_true rfl⟩) rfl rfl rfl hl.1 rfl (Nat.le_of_ble_eq_true rfl) dX9_doPart_157 ⟨Nat.zero_le _, Nat.zero_le _⟩) hP hD hS hA rfl rfl (by decide) (by decide) rfl (by decide) (fun H locs hP hD hS => ?_)
          refine lv_aload_n hx hb dX9_doPart_160 rfl (lv_at hl 0 rfl) ?_
          refine va_get (D := D) (ci := 5) (v := .ref (ht 0)) (C := RX9) (T := TX9) (N := 4) hx hb hts hinX9 hown hK hP 0 rfl rfl 2 (by decide) fl26 (fun _ h9 => h9) rfl dX9_doPart_161 ?_
          refine lv_iload_n hx hb dX9_doPart_164 rfl (lv_at hl 2 rfl) ?_
          refine lv_iconst (v := 1) hx hb dX9_doPart_165 (by decide) ?_
          refine lv_isub hx hb dX9_doPart_166 ?_
          obtain ⟨r20, hc167, hm⟩ := k_bds hm
          have hPc : va_P D vwCl (wT cC ht t_signs t_length) _ := k_Psub hP [10, 11] rfl
          have hDc : va_D A (wT cC ht t_signs t_length) := hD.sub [10, 11] (by decide) rfl
          refine k_i_c (Wf := (wX cI cJ cC cG h9 hn ap q ht h0 pa pb pc jk hasS cnt snp G c_mover c_phase c_dice c_stake c_cube c_pieces0 c_pieces1 c_score0 c_score1 c_hits0 c_hits1 c_stopped c_stopPart t_signs t_length)) [10, 11] [0, 1, 2, 3, 4, 5, 6, 7, 8, 9, 12, 13, 14, 15, 16, 17, 18, 19, 20, 21, 22, 23, 24] [0, 1, 2, 3, 4, 5, 6, 7, 8, 9, 23, 24, 10, 11, 12, 13, 14, 15, 16, 17, 18, 19, 20, 21, 22] (k_rV (As := [.int (a2 - 1)]) (rest := [.int r19, .ref hn]) ⟨hx, hb, hml, hown, hts⟩ hK hN hPc hDc (zX8_digitAt hc167) (cwV 1 hts gX9_doPart_X8_digitAt rfl rfl rfl (by decide +kernel) ⟨Nat.le_of_ble_eq_true rfl, Nat.le_of_ble_eq_true rfl⟩) rfl rfl rfl hl.1 rfl (Nat.le_of_ble_eq_true rfl) dX9_doPart_167 ⟨Nat.zero_le _, Nat.zero_le _⟩) hP hD hS hA rfl rfl (by decide) (by decide) rfl (by decide) (fun H locs hP hD hS => ?_)
          obtain ⟨r21, w22, w23, w24, w25, w26, w27, w28, w29, hc170, hm⟩ := k_bd9s hm
          have hPc : va_P D vwCl (wG hn c_mover c_phase c_dice c_stake c_cube c_pieces0 c_pieces1 c_score0 c_score1 c_hits0 c_hits1 c_stopped c_stopPart) _ := k_Psub hP [1] rfl
          have hDc : va_D A (wG hn c_mover c_phase c_dice c_stake c_cube c_pieces0 c_pieces1 c_score0 c_score1 c_hits0 c_hits1 c_stopped c_stopPart) := hD.sub [1] (by decide) rfl
          refine k_i_c (Wf := (wX cI cJ cC cG h9 hn ap q ht h0 pa pb pc jk hasS cnt snp G c_mover w22 w23 c_stake c_cube w24 w25 w26 w27 w28 w29 c_stopped c_stopPart t_signs t_length)) [1] [0, 2, 3, 4, 5, 6, 7, 8, 9, 10, 11, 12, 13, 14, 15, 16, 17, 18, 19, 20, 21, 22, 23, 24] [0, 24, 1, 2, 3, 4, 5, 6, 7, 8, 9, 10, 11, 12, 13, 14, 15, 16, 17, 18, 19, 20, 21, 22, 23] (k_rV (As := [.int r19, .int r20]) (rest := []) ⟨hx, hb, hml, hown, hts⟩ hK hN hPc hDc (zX1_doStep hc170) (cwV 2 hts gX9_doPart_X1_doStep rfl rfl rfl (by decide +kernel) ⟨Nat.le_of_ble_eq_true rfl, Nat.le_of_ble_eq_true rfl⟩) rfl rfl rfl hl.1 rfl (Nat.le_of_ble_eq_true rfl) dX9_doPart_170 ⟨Nat.zero_le _, Nat.zero_le _⟩) hP hD hS hA rfl rfl (by decide) (by decide) rfl (by decide) (fun H locs hP hD hS => ?_)
          refine lv_pop hx hb dX9_doPart_173 rfl ?_
          refine lv_goto (tgt := 246) hx hb dX9_doPart_174 (by decide) ?_
          cases hm
          exact k_end_vE (q, pa, pb, jk) hx hb hr hlocks hK hP hD hS dX9_doPart_246
        · have hm := k_in cs8_109 hm
          by_cases cs8_114 : r1 = 114
          · have hm := k_ip cs8_114 hm
            refine lv_tableIn (off := 108) (tgt := 116) hx hb dX9_doPart_8 (by rw [cs8_114]; decide +kernel) (by rw [cs8_114]; decide +kernel) (by rw [cs8_114]; decide +kernel) (by decide) ?_
            refine lv_aload_n hx hb dX9_doPart_116 rfl (lv_at hl 0 rfl) ?_
            refine va_get (D := D) (ci := 5) (v := .ref hn) (C := RX9) (T := TX9) (N := 4) hx hb hts hinX9 hown hK hP 0 rfl rfl 0 (by decide) fl10 (fun _ h9 => h9) rfl dX9_doPart_117 ?_
            refine lv_aload_n hx hb dX9_doPart_120 rfl (lv_at hl 0 rfl) ?_
            refine va_get (D := D) (ci := 5) (v := .ref (ht 0)) (C := RX9) (T := TX9) (N := 4) hx hb hts hinX9 hown hK hP 0 rfl rfl 2 (by decide) fl26 (fun _ h9 => h9) rfl dX9_doPart_121 ?_
            refine lv_iload_n hx hb dX9_doPart_124 rfl (lv_at hl 1 rfl) ?_
            refine lv_iconst (v := 1) hx hb dX9_doPart_125 (by decide) ?_
            refine lv_iadd hx hb dX9_doPart_126 ?_
            obtain ⟨r30, hc127, hm⟩ := k_bds hm
            have hPc : va_P D vwCl (wT cC ht t_signs t_length) _ := k_Psub hP [10, 11] rfl
            have hDc : va_D A (wT cC ht t_signs t_length) := hD.sub [10, 11] (by decide) rfl
            refine k_i_c (Wf := (wX cI cJ cC cG h9 hn ap q ht h0 pa pb pc jk hasS cnt snp G c_mover c_phase c_dice c_stake c_cube c_pieces0 c_pieces1 c_score0 c_score1 c_hits0 c_hits1 c_stopped c_stopPart t_signs t_length)) [10, 11] [0, 1, 2, 3, 4, 5, 6, 7, 8, 9, 12, 13, 14, 15, 16, 17, 18, 19, 20, 21, 22, 23, 24] [0, 1, 2, 3, 4, 5, 6, 7, 8, 9, 23, 24, 10, 11, 12, 13, 14, 15, 16, 17, 18, 19, 20, 21, 22] (k_rV (As := [.int (a1 + 1)]) (rest := [.ref hn]) ⟨hx, hb, hml, hown, hts⟩ hK hN hPc hDc (zX8_digitAt hc127) (cwV 1 hts gX9_doPart_X8_digitAt rfl rfl rfl (by decide +kernel) ⟨Nat.le_of_ble_eq_true rfl, Nat.le_of_ble_eq_true rfl⟩) rfl rfl rfl hl.1 rfl (Nat.le_of_ble_eq_true rfl) dX9_doPart_127 ⟨Nat.zero_le _, Nat.zero_le _⟩) hP hD hS hA rfl rfl (by decide) (by decide) rfl (by decide) (fun H locs hP hD hS => ?_)
            refine lv_aload_n hx hb dX9_doPart_130 rfl (lv_at hl 0 rfl) ?_
            refine va_get (D := D) (ci := 5) (v := .ref (ht 0)) (C := RX9) (T := TX9) (N := 4) hx hb hts hinX9 hown hK hP 0 rfl rfl 2 (by decide) fl26 (fun _ h9 => h9) rfl dX9_doPart_131 ?_
            refine lv_iload_n hx hb dX9_doPart_134 rfl (lv_at hl 1 rfl) ?_
            refine lv_iconst (v := 2) hx hb dX9_doPart_135 (by decide) ?_
            refine lv_iadd hx hb dX9_doPart_136 ?_
            obtain ⟨r31, hc137, hm⟩ := k_bds hm
            have hPc : va_P D vwCl (wT cC ht t_signs t_length) _ := k_Psub hP [10, 11] rfl
            have hDc : va_D A (wT cC ht t_signs t_length) := hD.sub [10, 11] (by decide) rfl
            refine k_i_c (Wf := (wX cI cJ cC cG h9 hn ap q ht h0 pa pb pc jk hasS cnt snp G c_mover c_phase c_dice c_stake c_cube c_pieces0 c_pieces1 c_score0 c_score1 c_hits0 c_hits1 c_stopped c_stopPart t_signs t_length)) [10, 11] [0, 1, 2, 3, 4, 5, 6, 7, 8, 9, 12, 13, 14, 15, 16, 17, 18, 19, 20, 21, 22, 23, 24] [0, 1, 2, 3, 4, 5, 6, 7, 8, 9, 23, 24, 10, 11, 12, 13, 14, 15, 16, 17, 18, 19, 20, 21, 22] (k_rV (As := [.int (a1 + 2)]) (rest := [.int r30, .ref hn]) ⟨hx, hb, hml, hown, hts⟩ hK hN hPc hDc (zX8_digitAt hc137) (cwV 1 hts gX9_doPart_X8_digitAt rfl rfl rfl (by decide +kernel) ⟨Nat.le_of_ble_eq_true rfl, Nat.le_of_ble_eq_true rfl⟩) rfl rfl rfl hl.1 rfl (Nat.le_of_ble_eq_true rfl) dX9_doPart_137 ⟨Nat.zero_le _, Nat.zero_le _⟩) hP hD hS hA rfl rfl (by decide) (by decide) rfl (by decide) (fun H locs hP hD hS => ?_)
            obtain ⟨w32, w33, hc140, hm⟩ := k_bd2s hm
            have hPc : va_P D vwCl (wG hn c_mover c_phase c_dice c_stake c_cube c_pieces0 c_pieces1 c_score0 c_score1 c_hits0 c_hits1 c_stopped c_stopPart) _ := k_Psub hP [1] rfl
            have hDc : va_D A (wG hn c_mover c_phase c_dice c_stake c_cube c_pieces0 c_pieces1 c_score0 c_score1 c_hits0 c_hits1 c_stopped c_stopPart) := hD.sub [1] (by decide) rfl
            refine k_v_c (Wf := (wX cI cJ cC cG h9 hn ap q ht h0 pa pb pc jk hasS cnt snp G c_mover w32 w33 c_stake c_cube c_pieces0 c_pieces1 c_score0 c_score1 c_hits0 c_hits1 c_stopped c_stopPart t_signs t_length)) [1] [0, 2, 3, 4, 5, 6, 7, 8, 9, 10, 11, 12, 13, 14, 15, 16, 17, 18, 19, 20, 21, 22, 23, 24] [0, 24, 1, 2, 3, 4, 5, 6, 7, 8, 9, 10, 11, 12, 13, 14, 15, 16, 17, 18, 19, 20, 21, 22, 23] (k_rV (As := [.int r30, .int r31]) (rest := []) ⟨hx, hb, hml, hown, hts⟩ hK hN hPc hDc (zX1_doRoll hc140) (cwV 2 hts gX9_doPart_X1_doRoll rfl rfl rfl (by decide +kernel) ⟨Nat.le_of_ble_eq_true rfl, Nat.le_of_ble_eq_true rfl⟩) rfl rfl rfl hl.1 rfl (Nat.le_of_ble_eq_true rfl) dX9_doPart_140 ⟨Nat.zero_le _, Nat.zero_le _⟩) hP hD hS hA rfl rfl (by decide) (by decide) rfl (by decide) (fun H locs hP hD hS => ?_)
            refine lv_goto (tgt := 246) hx hb dX9_doPart_143 (by decide) ?_
            cases hm
            exact k_end_vE (q, pa, pb, jk) hx hb hr hlocks hK hP hD hS dX9_doPart_246
          · have hm := k_in cs8_114 hm
            by_cases cs8_116 : r1 = 116
            · have hm := k_ip cs8_116 hm
              refine lv_tableIn (off := 211) (tgt := 219) hx hb dX9_doPart_8 (by rw [cs8_116]; decide +kernel) (by rw [cs8_116]; decide +kernel) (by rw [cs8_116]; decide +kernel) (by decide) ?_
              refine lv_aload_n hx hb dX9_doPart_219 rfl (lv_at hl 0 rfl) ?_
              refine va_get (D := D) (ci := 5) (v := .ref hn) (C := RX9) (T := TX9) (N := 4) hx hb hts hinX9 hown hK hP 0 rfl rfl 0 (by decide) fl10 (fun _ h9 => h9) rfl dX9_doPart_220 ?_
              obtain ⟨w34, w35, w36, hc223, hm⟩ := k_bd3s hm
              have hPc : va_P D vwCl (wG hn c_mover c_phase c_dice c_stake c_cube c_pieces0 c_pieces1 c_score0 c_score1 c_hits0 c_hits1 c_stopped c_stopPart) _ := k_Psub hP [1] rfl
              have hDc : va_D A (wG hn c_mover c_phase c_dice c_stake c_cube c_pieces0 c_pieces1 c_score0 c_score1 c_hits0 c_hits1 c_stopped c_stopPart) := hD.sub [1] (by decide) rfl
              refine k_v_c (Wf := (wX cI cJ cC cG h9 hn ap q ht h0 pa pb pc jk hasS cnt snp G c_mover w34 c_dice w35 w36 c_pieces0 c_pieces1 c_score0 c_score1 c_hits0 c_hits1 c_stopped c_stopPart t_signs t_length)) [1] [0, 2, 3, 4, 5, 6, 7, 8, 9, 10, 11, 12, 13, 14, 15, 16, 17, 18, 19, 20, 21, 22, 23, 24] [0, 24, 1, 2, 3, 4, 5, 6, 7, 8, 9, 10, 11, 12, 13, 14, 15, 16, 17, 18, 19, 20, 21, 22, 23] (k_rV (As := []) (rest := []) ⟨hx, hb, hml, hown, hts⟩ hK hN hPc hDc (zX1_doTake hc223) (cwV 0 hts gX9_doPart_X1_doTake rfl rfl rfl (by decide +kernel) ⟨Nat.le_of_ble_eq_true rfl, Nat.le_of_ble_eq_true rfl⟩) rfl rfl rfl hl.1 rfl (Nat.le_of_ble_eq_true rfl) dX9_doPart_223 ⟨Nat.zero_le _, Nat.zero_le _⟩) hP hD hS hA rfl rfl (by decide) (by decide) rfl (by decide) (fun H locs hP hD hS => ?_)
              refine lv_goto (tgt := 246) hx hb dX9_doPart_226 (by decide) ?_
              cases hm
              exact k_end_vE (q, pa, pb, jk) hx hb hr hlocks hK hP hD hS dX9_doPart_246
            · have hm := k_in cs8_116 hm
              by_cases cs8_120 : r1 = 120
              · have hm := k_ip cs8_120 hm
                refine lv_tableIn (off := 201) (tgt := 209) hx hb dX9_doPart_8 (by rw [cs8_120]; decide +kernel) (by rw [cs8_120]; decide +kernel) (by rw [cs8_120]; decide +kernel) (by decide) ?_
                refine lv_aload_n hx hb dX9_doPart_209 rfl (lv_at hl 0 rfl) ?_
                refine va_get (D := D) (ci := 5) (v := .ref hn) (C := RX9) (T := TX9) (N := 4) hx hb hts hinX9 hown hK hP 0 rfl rfl 0 (by decide) fl10 (fun _ h9 => h9) rfl dX9_doPart_210 ?_
                obtain ⟨w37, hc213, hm⟩ := k_bds hm
                have hPc : va_P D vwCl (wG hn c_mover c_phase c_dice c_stake c_cube c_pieces0 c_pieces1 c_score0 c_score1 c_hits0 c_hits1 c_stopped c_stopPart) _ := k_Psub hP [1] rfl
                have hDc : va_D A (wG hn c_mover c_phase c_dice c_stake c_cube c_pieces0 c_pieces1 c_score0 c_score1 c_hits0 c_hits1 c_stopped c_stopPart) := hD.sub [1] (by decide) rfl
                refine k_v_c (Wf := (wX cI cJ cC cG h9 hn ap q ht h0 pa pb pc jk hasS cnt snp G c_mover w37 c_dice c_stake c_cube c_pieces0 c_pieces1 c_score0 c_score1 c_hits0 c_hits1 c_stopped c_stopPart t_signs t_length)) [1] [0, 2, 3, 4, 5, 6, 7, 8, 9, 10, 11, 12, 13, 14, 15, 16, 17, 18, 19, 20, 21, 22, 23, 24] [0, 24, 1, 2, 3, 4, 5, 6, 7, 8, 9, 10, 11, 12, 13, 14, 15, 16, 17, 18, 19, 20, 21, 22, 23] (k_rV (As := []) (rest := []) ⟨hx, hb, hml, hown, hts⟩ hK hN hPc hDc (zX1_doOffer hc213) (cwV 0 hts gX9_doPart_X1_doOffer rfl rfl rfl (by decide +kernel) ⟨Nat.le_of_ble_eq_true rfl, Nat.le_of_ble_eq_true rfl⟩) rfl rfl rfl hl.1 rfl (Nat.le_of_ble_eq_true rfl) dX9_doPart_213 ⟨Nat.zero_le _, Nat.zero_le _⟩) hP hD hS hA rfl rfl (by decide) (by decide) rfl (by decide) (fun H locs hP hD hS => ?_)
                refine lv_goto (tgt := 246) hx hb dX9_doPart_216 (by decide) ?_
                cases hm
                exact k_end_vE (q, pa, pb, jk) hx hb hr hlocks hK hP hD hS dX9_doPart_246
              · have hm := k_in cs8_120 hm
                refine k_tabD (tgt := 239) [98, 100, 101, 109, 114, 116, 120] hx hb dX9_doPart_8 (by decide) (by decide +kernel) (by decide +kernel) (by intro k hk; simp only [List.mem_cons, List.not_mem_nil, or_false] at hk; rcases hk with rfl | rfl | rfl | rfl | rfl | rfl | rfl <;> assumption) ?_
                refine lv_aload_n hx hb dX9_doPart_239 rfl (lv_at hl 0 rfl) ?_
                refine va_get (D := D) (ci := 5) (v := .ref hn) (C := RX9) (T := TX9) (N := 4) hx hb hts hinX9 hown hK hP 0 rfl rfl 0 (by decide) fl10 (fun _ h9 => h9) rfl dX9_doPart_240 ?_
                obtain ⟨w38, w39, w40, w41, w42, w43, hc243, hm⟩ := k_bd6s hm
                have hPc : va_P D vwCl (wG hn c_mover c_phase c_dice c_stake c_cube c_pieces0 c_pieces1 c_score0 c_score1 c_hits0 c_hits1 c_stopped c_stopPart) _ := k_Psub hP [1] rfl
                have hDc : va_D A (wG hn c_mover c_phase c_dice c_stake c_cube c_pieces0 c_pieces1 c_score0 c_score1 c_hits0 c_hits1 c_stopped c_stopPart) := hD.sub [1] (by decide) rfl
                refine k_v_c (Wf := (wX cI cJ cC cG h9 hn ap q ht h0 pa pb pc jk hasS cnt snp G w38 w39 c_dice w40 w41 w42 w43 c_score0 c_score1 c_hits0 c_hits1 c_stopped c_stopPart t_signs t_length)) [1] [0, 2, 3, 4, 5, 6, 7, 8, 9, 10, 11, 12, 13, 14, 15, 16, 17, 18, 19, 20, 21, 22, 23, 24] [0, 24, 1, 2, 3, 4, 5, 6, 7, 8, 9, 10, 11, 12, 13, 14, 15, 16, 17, 18, 19, 20, 21, 22, 23] (k_rV (As := []) (rest := []) ⟨hx, hb, hml, hown, hts⟩ hK hN hPc hDc (zX1_doNewGame hc243) (cwV 0 hts gX9_doPart_X1_doNewGame rfl rfl rfl (by decide +kernel) ⟨Nat.le_of_ble_eq_true rfl, Nat.le_of_ble_eq_true rfl⟩) rfl rfl rfl hl.1 rfl (Nat.le_of_ble_eq_true rfl) dX9_doPart_243 ⟨Nat.zero_le _, Nat.zero_le _⟩) hP hD hS hA rfl rfl (by decide) (by decide) rfl (by decide) (fun H locs hP hD hS => ?_)
                cases hm
                exact k_end_vE (q, pa, pb, jk) hx hb hr hlocks hK hP hD hS dX9_doPart_246

abbrev rmX9_play : Room := { frames := 13, cells := 0, slots := 0, locals := 386 }
set_option maxHeartbeats 4000000 in
set_option maxRecDepth 100000 in
theorem zX9_play {l : Launch} {D : va_G} {cI cJ cC cG : ClassId} {sz : Nat} {h9 hn h0 : Nat} {ap q ht pa pb pc : Nat → Nat} {jk : JT} {hasS : Bool} {cnt : Int32} {snp : GT} {G : Nat → GT} {c_mover : Int32} {c_phase : Int32} {c_dice : Int32} {c_stake : Int32} {c_cube : Int32} {c_pieces0 : Int64} {c_pieces1 : Int64} {c_score0 : Int32} {c_score1 : Int32} {c_hits0 : Int32} {c_hits1 : Int32} {c_stopped : Bool} {c_stopPart : Int32} {t_signs : Nat → Int32} {t_length : Int32} {r : Int32} {cnt' : Int32} {G' : Nat → GT} {c_mover' : Int32} {c_phase' : Int32} {c_dice' : Int32} {c_stake' : Int32} {c_cube' : Int32} {c_pieces0' : Int64} {c_pieces1' : Int64} {c_score0' : Int32} {c_score1' : Int32} {c_hits0' : Int32} {c_hits1' : Int32} {c_stopped' : Bool} {c_stopPart' : Int32} {t_length' : Int32} (hm : mX9_play cnt G c_mover c_phase c_dice c_stake c_cube c_pieces0 c_pieces1 c_score0 c_score1 c_hits0 c_hits1 c_stopped c_stopPart t_signs t_length = some (r, cnt', G', c_mover', c_phase', c_dice', c_stake', c_cube', c_pieces0', c_pieces1', c_score0', c_score1', c_hits0', c_hits1', c_stopped', c_stopPart', t_length')) : k_MiE l yX9_play wsX9_play rmX9_play D (kT cI cJ cC cG) sz ([.ref h9] : List Value) (wX cI cJ cC cG h9 hn ap q ht h0 pa pb pc jk hasS cnt snp G c_mover c_phase c_dice c_stake c_cube c_pieces0 c_pieces1 c_score0 c_score1 c_hits0 c_hits1 c_stopped c_stopPart t_signs t_length) (fun u : (Nat → Nat) × (Nat → Nat) × (Nat → Nat) × (JT) => (wX cI cJ cC cG h9 hn ap (u.1) ht h0 (u.2.1) (u.2.2.1) pc (u.2.2.2) hasS cnt' snp G' c_mover' c_phase' c_dice' c_stake' c_cube' c_pieces0' c_pieces1' c_score0' c_score1' c_hits0' c_hits1' c_stopped' c_stopPart' t_signs t_length')) r := by
  refine k_st_iE (cc := cX9_play) (maxL := 6) (by decide) rfl (Nat.le_of_ble_eq_true rfl) ?_
  intro p e z m below meth c A hx hb hr hml hts hown hlocks hsz hN hA hK hP hD hS ls hl
  have hown : z.vm.findClass RX9 = some m.cls := hown
  have hinX8 : ∀ w ∈ wsX80, w ∈ wsX9_play := by decide +kernel
  have hinX9 : ∀ w ∈ wsX90, w ∈ wsX9_play := by decide +kernel
  have fl10 := hts (.fieldLink RX9 10 "MagpieRuns" "now" "LMagpieRuns$Game;") (by decide +kernel)
  have fl19 := hts (.fieldLink RX9 19 "MagpieRuns" "past" "LMagpieRuns$Past;") (by decide +kernel)
  have fl26 := hts (.fieldLink RX9 26 "MagpieRuns" "text" "LMagpieRuns$Text;") (by decide +kernel)
  have fl150 := hts (.fieldLink RX9 150 "MagpieRuns$Text" "length" "I") (by decide +kernel)
  have hl : lv_has ls 6 [(0, .ref h9)] := hl
  have J_116 : ∀ (q : Nat → Nat) (pa : Nat → Nat) (pb : Nat → Nat) (jk : JT) (t0 : Bool) (l1 : Int32) (cnt : Int32) (G : Nat → GT) (c_mover : Int32) (c_phase : Int32) (c_dice : Int32) (c_stake : Int32) (c_cube : Int32) (c_pieces0 : Int64) (c_pieces1 : Int64) (c_score0 : Int32) (c_score1 : Int32) (c_hits0 : Int32) (c_hits1 : Int32) (c_stopped : Bool) (c_stopPart : Int32) (t_length : Int32) (H : Heap) (locs : List Loc), va_P D vwCl (wX cI cJ cC cG h9 hn ap q ht h0 pa pb pc jk hasS cnt snp G c_mover c_phase c_dice c_stake c_cube c_pieces0 c_pieces1 c_score0 c_score1 c_hits0 c_hits1 c_stopped c_stopPart t_signs t_length) H → va_D A (wX cI cJ cC cG h9 hn ap q ht h0 pa pb pc jk hasS cnt snp G c_mover c_phase c_dice c_stake c_cube c_pieces0 c_pieces1 c_score0 c_score1 c_hits0 c_hits1 c_stopped c_stopPart t_signs t_length) → va_S A z.heap H locs → ∀ ls : Array Slot, lv_has ls 6 [(0, .ref h9), (1, .int l1)] → mX9_play_116 t_signs t0 l1 cnt G c_mover c_phase c_dice c_stake c_cube c_pieces0 c_pieces1 c_score0 c_score1 c_hits0 c_hits1 c_stopped c_stopPart t_length = some (r, cnt', G', c_mover', c_phase', c_dice', c_stake', c_cube', c_pieces0', c_pieces1', c_score0', c_score1', c_hits0', c_hits1', c_stopped', c_stopPart', t_length') → W p l e rmX9_play z m ([.ref h9] : List Value).toArray below meth c H locs 0 0 (k_QiE below ([.ref h9] : List Value) D (kT cI cJ cC cG) z A (fun u : (Nat → Nat) × (Nat → Nat) × (Nat → Nat) × (JT) => (wX cI cJ cC cG h9 hn ap (u.1) ht h0 (u.2.1) (u.2.2.1) pc (u.2.2.2) hasS cnt' snp G' c_mover' c_phase' c_dice' c_stake' c_cube' c_pieces0' c_pieces1' c_score0' c_score1' c_hits0' c_hits1' c_stopped' c_stopPart' t_signs t_length')) r) (F0 m 116 ls [.int (k_b t0), .ref hn]) := by
    intro q pa pb jk t0 l1 cnt G c_mover c_phase c_dice c_stake c_cube c_pieces0 c_pieces1 c_score0 c_score1 c_hits0 c_hits1 c_stopped c_stopPart t_length H locs hP hD hS ls hl hm
    unfold mX9_play_116 at hm
    refine lv_iload_n hx hb dX9_play_116 rfl (lv_at hl 1 rfl) ?_
    obtain ⟨w1, w2, hc117, hm⟩ := k_bd2s hm
    have hPc : va_P D vwCl (wG hn c_mover c_phase c_dice c_stake c_cube c_pieces0 c_pieces1 c_score0 c_score1 c_hits0 c_hits1 c_stopped c_stopPart) _ := k_Psub hP [1] rfl
    have hDc : va_D A (wG hn c_mover c_phase c_dice c_stake c_cube c_pieces0 c_pieces1 c_score0 c_score1 c_hits0 c_hits1 c_stopped c_stopPart) := hD.sub [1] (by decide) rfl
    refine k_v_c (Wf := (wX cI cJ cC cG h9 hn ap q ht h0 pa pb pc jk hasS cnt snp G c_mover c_phase c_dice c_stake c_cube c_pieces0 c_pieces1 c_score0 c_score1 c_hits0 c_hits1 w1 w2 t_signs t_length)) [1] [0, 2, 3, 4, 5, 6, 7, 8, 9, 10, 11, 12, 13, 14, 15, 16, 17, 18, 19, 20, 21, 22, 23, 24] [0, 24, 1, 2, 3, 4, 5, 6, 7, 8, 9, 10, 11, 12, 13, 14, 15, 16, 17, 18, 19, 20, 21, 22, 23] (k_rV (As := [.int (k_b t0), .int l1]) (rest := []) ⟨hx, hb, hml, hown, hts⟩ hK hN hPc hDc (zX1_noteStop hc117) (cwV 2 hts gX9_play_X1_noteStop rfl rfl rfl (by decide +kernel) ⟨Nat.le_of_ble_eq_true rfl, Nat.le_of_ble_eq_true rfl⟩) rfl rfl rfl hl.1 rfl (Nat.le_of_ble_eq_true rfl) dX9_play_117 ⟨Nat.zero_le _, Nat.zero_le _⟩) hP hD hS hA rfl rfl (by decide) (by decide) rfl (by decide) (fun H locs hP hD hS => ?_)
    refine lv_aload_n hx hb dX9_play_120 rfl (lv_at hl 0 rfl) ?_
    refine va_get (D := D) (ci := 5) (v := .ref (ht 0)) (C := RX9) (T := TX9) (N := 4) hx hb hts hinX9 hown hK hP 0 rfl rfl 2 (by decide) fl26 (fun _ h9 => h9) rfl dX9_play_121 ?_
    obtain ⟨w3, hc124, hm⟩ := k_bds hm
    have hPc : va_P D vwCl (wT cC ht t_signs t_length) _ := k_Psub hP [10, 11] rfl
    have hDc : va_D A (wT cC ht t_signs t_length) := hD.sub [10, 11] (by decide) rfl
    refine k_v_c (Wf := (wX cI cJ cC cG h9 hn ap q ht h0 pa pb pc jk hasS cnt snp G c_mover c_phase c_dice c_stake c_cube c_pieces0 c_pieces1 c_score0 c_score1 c_hits0 c_hits1 w1 w2 t_signs w3)) [10, 11] [0, 1, 2, 3, 4, 5, 6, 7, 8, 9, 12, 13, 14, 15, 16, 17, 18, 19, 20, 21, 22, 23, 24] [0, 1, 2, 3, 4, 5, 6, 7, 8, 9, 23, 24, 10, 11, 12, 13, 14, 15, 16, 17, 18, 19, 20, 21, 22] (k_rV (As := []) (rest := []) ⟨hx, hb, hml, hown, hts⟩ hK hN hPc hDc (zX8_empty hc124) (cwV 0 hts gX9_play_X8_empty rfl rfl rfl (by decide +kernel) ⟨Nat.le_of_ble_eq_true rfl, Nat.le_of_ble_eq_true rfl⟩) rfl rfl rfl hl.1 rfl (Nat.le_of_ble_eq_true rfl) dX9_play_124 ⟨Nat.zero_le _, Nat.zero_le _⟩) hP hD hS hA rfl rfl (by decide) (by decide) rfl (by decide) (fun H locs hP hD hS => ?_)
    refine lv_iload_n hx hb dX9_play_127 rfl (lv_at hl 1 rfl) ?_
    cases hm
    exact k_end_iE (q, pa, pb, jk) hx hb hr hlocks hK hP hD hS dX9_play_128
  have J_103 : ∀ (q : Nat → Nat) (pa : Nat → Nat) (pb : Nat → Nat) (jk : JT) (l1 : Int32) (l3 : Bool) (cnt : Int32) (G : Nat → GT) (c_mover : Int32) (c_phase : Int32) (c_dice : Int32) (c_stake : Int32) (c_cube : Int32) (c_pieces0 : Int64) (c_pieces1 : Int64) (c_score0 : Int32) (c_score1 : Int32) (c_hits0 : Int32) (c_hits1 : Int32) (c_stopped : Bool) (c_stopPart : Int32) (t_length : Int32) (H : Heap) (locs : List Loc), va_P D vwCl (wX cI cJ cC cG h9 hn ap q ht h0 pa pb pc jk hasS cnt snp G c_mover c_phase c_dice c_stake c_cube c_pieces0 c_pieces1 c_score0 c_score1 c_hits0 c_hits1 c_stopped c_stopPart t_signs t_length) H → va_D A (wX cI cJ cC cG h9 hn ap q ht h0 pa pb pc jk hasS cnt snp G c_mover c_phase c_dice c_stake c_cube c_pieces0 c_pieces1 c_score0 c_score1 c_hits0 c_hits1 c_stopped c_stopPart t_signs t_length) → va_S A z.heap H locs → ∀ ls : Array Slot, lv_has ls 6 [(0, .ref h9), (1, .int l1), (3, .int (k_b l3))] → mX9_play_103 t_signs l1 l3 cnt G c_mover c_phase c_dice c_stake c_cube c_pieces0 c_pieces1 c_score0 c_score1 c_hits0 c_hits1 c_stopped c_stopPart t_length = some (r, cnt', G', c_mover', c_phase', c_dice', c_stake', c_cube', c_pieces0', c_pieces1', c_score0', c_score1', c_hits0', c_hits1', c_stopped', c_stopPart', t_length') → W p l e rmX9_play z m ([.ref h9] : List Value).toArray below meth c H locs 0 0 (k_QiE below ([.ref h9] : List Value) D (kT cI cJ cC cG) z A (fun u : (Nat → Nat) × (Nat → Nat) × (Nat → Nat) × (JT) => (wX cI cJ cC cG h9 hn ap (u.1) ht h0 (u.2.1) (u.2.2.1) pc (u.2.2.2) hasS cnt' snp G' c_mover' c_phase' c_dice' c_stake' c_cube' c_pieces0' c_pieces1' c_score0' c_score1' c_hits0' c_hits1' c_stopped' c_stopPart' t_signs t_length')) r) (F0 m 103 ls []) := by
    intro q pa pb jk l1 l3 cnt G c_mover c_phase c_dice c_stake c_cube c_pieces0 c_pieces1 c_score0 c_score1 c_hits0 c_hits1 c_stopped c_stopPart t_length H locs hP hD hS ls hl hm
    unfold mX9_play_103 at hm
    refine lv_aload_n hx hb dX9_play_103 rfl (lv_at hl 0 rfl) ?_
    refine va_get (D := D) (ci := 5) (v := .ref hn) (C := RX9) (T := TX9) (N := 4) hx hb hts hinX9 hown hK hP 0 rfl rfl 0 (by decide) fl10 (fun _ h9 => h9) rfl dX9_play_104 ?_
    refine lv_iload_n hx hb dX9_play_107 rfl (lv_at hl 2 rfl) ?_
    refine lv_if_ne (tgt := 115) hx hb dX9_play_108 (by decide) (fun cc108 => ?_) (fun cc108 => ?_)
    · have hm := k_in cc108 hm
      refine lv_iconst (v := 0) hx hb dX9_play_115 (by decide) ?_
      exact J_116 q pa pb jk false l1 cnt G c_mover c_phase c_dice c_stake c_cube c_pieces0 c_pieces1 c_score0 c_score1 c_hits0 c_hits1 c_stopped c_stopPart t_length _ _ hP hD hS _ (lv_sub hl [0, 1] rfl) hm
    · have hm := k_ip cc108 hm
      refine lv_iconst (v := 1) hx hb dX9_play_111 (by decide) ?_
      refine lv_goto (tgt := 116) hx hb dX9_play_112 (by decide) ?_
      exact J_116 q pa pb jk true l1 cnt G c_mover c_phase c_dice c_stake c_cube c_pieces0 c_pieces1 c_score0 c_score1 c_hits0 c_hits1 c_stopped c_stopPart t_length _ _ hP hD hS _ (lv_sub hl [0, 1] rfl) hm
  have J_38 := k_loop (z := fun _ _ _ _ _ _ _ _ _ _ _ _ _ _ _ _ _ _ _ _ => none) (st := mX9_play_38 t_signs) (fun k38 : (Int32) → (Int32) → (Bool) → (Int32) → (Int32) → (Nat → GT) → (Int32) → (Int32) → (Int32) → (Int32) → (Int32) → (Int64) → (Int64) → (Int32) → (Int32) → (Int32) → (Int32) → (Bool) → (Int32) → (Int32) → Option (Int32 × (Int32) × (Nat → GT) × (Int32) × (Int32) × (Int32) × (Int32) × (Int32) × (Int64) × (Int64) × (Int32) × (Int32) × (Int32) × (Int32) × (Bool) × (Int32) × (Int32)) => ∀ (q : Nat → Nat) (pa : Nat → Nat) (pb : Nat → Nat) (jk : JT) (l1 : Int32) (l2 : Int32) (l3 : Bool) (l4 : Int32) (cnt : Int32) (G : Nat → GT) (c_mover : Int32) (c_phase : Int32) (c_dice : Int32) (c_stake : Int32) (c_cube : Int32) (c_pieces0 : Int64) (c_pieces1 : Int64) (c_score0 : Int32) (c_score1 : Int32) (c_hits0 : Int32) (c_hits1 : Int32) (c_stopped : Bool) (c_stopPart : Int32) (t_length : Int32) (H : Heap) (locs : List Loc), va_P D vwCl (wX cI cJ cC cG h9 hn ap q ht h0 pa pb pc jk hasS cnt snp G c_mover c_phase c_dice c_stake c_cube c_pieces0 c_pieces1 c_score0 c_score1 c_hits0 c_hits1 c_stopped c_stopPart t_signs t_length) H → va_D A (wX cI cJ cC cG h9 hn ap q ht h0 pa pb pc jk hasS cnt snp G c_mover c_phase c_dice c_stake c_cube c_pieces0 c_pieces1 c_score0 c_score1 c_hits0 c_hits1 c_stopped c_stopPart t_signs t_length) → va_S A z.heap H locs → ∀ ls : Array Slot, lv_has ls 6 [(0, .ref h9), (1, .int l1), (2, .int l2), (3, .int (k_b l3)), (4, .int l4)] → k38 l1 l2 l3 l4 cnt G c_mover c_phase c_dice c_stake c_cube c_pieces0 c_pieces1 c_score0 c_score1 c_hits0 c_hits1 c_stopped c_stopPart t_length = some (r, cnt', G', c_mover', c_phase', c_dice', c_stake', c_cube', c_pieces0', c_pieces1', c_score0', c_score1', c_hits0', c_hits1', c_stopped', c_stopPart', t_length') → W p l e rmX9_play z m ([.ref h9] : List Value).toArray below meth c H locs 0 0 (k_QiE below ([.ref h9] : List Value) D (kT cI cJ cC cG) z A (fun u : (Nat → Nat) × (Nat → Nat) × (Nat → Nat) × (JT) => (wX cI cJ cC cG h9 hn ap (u.1) ht h0 (u.2.1) (u.2.2.1) pc (u.2.2.2) hasS cnt' snp G' c_mover' c_phase' c_dice' c_stake' c_cube' c_pieces0' c_pieces1' c_score0' c_score1' c_hits0' c_hits1' c_stopped' c_stopPart' t_signs t_length')) r) (F0 m 38 ls [])) (by intros; contradiction) (by
    intro k38 ih38
    have J_92 : ∀ (q : Nat → Nat) (pa : Nat → Nat) (pb : Nat → Nat) (jk : JT) (l1 : Int32) (l3 : Bool) (l4 : Int32) (l5 : Int32) (cnt : Int32) (G : Nat → GT) (c_mover : Int32) (c_phase : Int32) (c_dice : Int32) (c_stake : Int32) (c_cube : Int32) (c_pieces0 : Int64) (c_pieces1 : Int64) (c_score0 : Int32) (c_score1 : Int32) (c_hits0 : Int32) (c_hits1 : Int32) (c_stopped : Bool) (c_stopPart : Int32) (t_length : Int32) (H : Heap) (locs : List Loc), va_P D vwCl (wX cI cJ cC cG h9 hn ap q ht h0 pa pb pc jk hasS cnt snp G c_mover c_phase c_dice c_stake c_cube c_pieces0 c_pieces1 c_score0 c_score1 c_hits0 c_hits1 c_stopped c_stopPart t_signs t_length) H → va_D A (wX cI cJ cC cG h9 hn ap q ht h0 pa pb pc jk hasS cnt snp G c_mover c_phase c_dice c_stake c_cube c_pieces0 c_pieces1 c_score0 c_score1 c_hits0 c_hits1 c_stopped c_stopPart t_signs t_length) → va_S A z.heap H locs → ∀ ls : Array Slot, lv_has ls 6 [(0, .ref h9), (1, .int l1), (3, .int (k_b l3)), (4, .int l4), (5, .int l5)] → mX9_play_92 t_signs k38 l1 l3 l4 l5 cnt G c_mover c_phase c_dice c_stake c_cube c_pieces0 c_pieces1 c_score0 c_score1 c_hits0 c_hits1 c_stopped c_stopPart t_length = some (r, cnt', G', c_mover', c_phase', c_dice', c_stake', c_cube', c_pieces0', c_pieces1', c_score0', c_score1', c_hits0', c_hits1', c_stopped', c_stopPart', t_length') → W p l e rmX9_play z m ([.ref h9] : List Value).toArray below meth c H locs 0 0 (k_QiE below ([.ref h9] : List Value) D (kT cI cJ cC cG) z A (fun u : (Nat → Nat) × (Nat → Nat) × (Nat → Nat) × (JT) => (wX cI cJ cC cG h9 hn ap (u.1) ht h0 (u.2.1) (u.2.2.1) pc (u.2.2.2) hasS cnt' snp G' c_mover' c_phase' c_dice' c_stake' c_cube' c_pieces0' c_pieces1' c_score0' c_score1' c_hits0' c_hits1' c_stopped' c_stopPart' t_signs t_length')) r) (F0 m 92 ls []) := by
      intro q pa pb jk l1 l3 l4 l5 cnt G c_mover c_phase c_dice c_stake c_cube c_pieces0 c_pieces1 c_score0 c_score1 c_hits0 c_hits1 c_stopped c_stopPart t_length H locs hP hD hS ls hl hm
      unfold mX9_play_92 at hm
      refine lv_iload hx hb dX9_play_92 (lv_at hl 4 rfl) ?_
      refine lv_iconst (v := 1) hx hb dX9_play_94 (by decide) ?_
      refine lv_iadd hx hb dX9_play_95 ?_
      refine lv_istore_n (lv' := [(2, .int (l5 + 1)), (0, .ref h9), (1, .int l1), (3, .int (k_b l3)), (4, .int l4), (5, .int l5)]) hx hb dX9_play_96 rfl hl (by decide) rfl (fun ls hl => ?_)
      refine lv_iinc (v := (l4 + 1)) (lv' := [(4, .int (l4 + 1)), (2, .int (l5 + 1)), (0, .ref h9), (1, .int l1), (3, .int (k_b l3)), (5, .int l5)]) hx hb dX9_play_97 hl (k := 4) rfl rfl (by decide) rfl (fun ls hl => ?_)
      refine lv_goto (tgt := 38) hx hb dX9_play_100 (by decide) ?_
      exact ih38 q pa pb jk l1 (l5 + 1) l3 (l4 + 1) cnt G c_mover c_phase c_dice c_stake c_cube c_pieces0 c_pieces1 c_score0 c_score1 c_hits0 c_hits1 c_stopped c_stopPart t_length _ _ hP hD hS _ (lv_sub hl [2, 3, 1, 4, 0] rfl) hm
    intro q pa pb jk l1 l2 l3 l4 cnt G c_mover c_phase c_dice c_stake c_cube c_pieces0 c_pieces1 c_score0 c_score1 c_hits0 c_hits1 c_stopped c_stopPart t_length H locs hP hD hS ls hl hm
    unfold mX9_play_38 at hm
    refine lv_iload hx hb dX9_play_38 (lv_at hl 4 rfl) ?_
    refine lv_bipush (v := 60) hx hb dX9_play_40 (by decide) ?_
    refine lv_icmp_ge (tgt := 103) hx hb dX9_play_42 (by decide) (fun cc42 => ?_) (fun cc42 => ?_)
    · have hm := k_ip cc42 hm
      exact J_103 q pa pb jk l1 l3 cnt G c_mover c_phase c_dice c_stake c_cube c_pieces0 c_pieces1 c_score0 c_score1 c_hits0 c_hits1 c_stopped c_stopPart t_length _ _ hP hD hS _ (lv_sub hl [0, 1, 3] rfl) hm
    · have hm := k_in cc42 hm
      refine lv_iload_n hx hb dX9_play_45 rfl (lv_at hl 3 rfl) ?_
      refine lv_if_eq (tgt := 103) hx hb dX9_play_46 (by decide) (fun cc46 => ?_) (fun cc46 => ?_)
      · have hm := k_ip cc46 hm
        exact J_103 q pa pb jk l1 l3 cnt G c_mover c_phase c_dice c_stake c_cube c_pieces0 c_pieces1 c_score0 c_score1 c_hits0 c_hits1 c_stopped c_stopPart t_length _ _ hP hD hS _ (lv_sub hl [0, 1, 3] rfl) hm
      · have hm := k_in cc46 hm
        refine lv_iload_n hx hb dX9_play_49 rfl (lv_at hl 2 rfl) ?_
        refine lv_aload_n hx hb dX9_play_50 rfl (lv_at hl 0 rfl) ?_
        refine va_get (D := D) (ci := 5) (v := .ref (ht 0)) (C := RX9) (T := TX9) (N := 4) hx hb hts hinX9 hown hK hP 0 rfl rfl 2 (by decide) fl26 (fun _ h9 => h9) rfl dX9_play_51 ?_
        refine va_get (D := D) (ci := 4) (v := .int t_length) (C := RX8) (T := TX8) (N := 2) hx hb hts hinX8 hown hK hP 10 rfl rfl 1 (by decide) fl150 (fun _ h9 => h9) rfl dX9_play_54 ?_
        refine lv_icmp_ge (tgt := 103) hx hb dX9_play_57 (by decide) (fun cc57 => ?_) (fun cc57 => ?_)
        · have hm := k_ip cc57 hm
          exact J_103 q pa pb jk l1 l3 cnt G c_mover c_phase c_dice c_stake c_cube c_pieces0 c_pieces1 c_score0 c_score1 c_hits0 c_hits1 c_stopped c_stopPart t_length _ _ hP hD hS _ (lv_sub hl [0, 1, 3] rfl) hm
        · have hm := k_in cc57 hm
          refine lv_aload_n hx hb dX9_play_60 rfl (lv_at hl 0 rfl) ?_
          refine va_get (D := D) (ci := 5) (v := .ref (ht 0)) (C := RX9) (T := TX9) (N := 4) hx hb hts hinX9 hown hK hP 0 rfl rfl 2 (by decide) fl26 (fun _ h9 => h9) rfl dX9_play_61 ?_
          refine lv_iload_n hx hb dX9_play_64 rfl (lv_at hl 2 rfl) ?_
          obtain ⟨r4, hc65, hm⟩ := k_bds hm
          have hPc : va_P D vwCl (wT cC ht t_signs t_length) _ := k_Psub hP [10, 11] rfl
          have hDc : va_D A (wT cC ht t_signs t_length) := hD.sub [10, 11] (by decide) rfl
          refine k_i_c (Wf := (wX cI cJ cC cG h9 hn ap q ht h0 pa pb pc jk hasS cnt snp G c_mover c_phase c_dice c_stake c_cube c_pieces0 c_pieces1 c_score0 c_score1 c_hits0 c_hits1 c_stopped c_stopPart t_signs t_length)) [10, 11] [0, 1, 2, 3, 4, 5, 6, 7, 8, 9, 12, 13, 14, 15, 16, 17, 18, 19, 20, 21, 22, 23, 24] [0, 1, 2, 3, 4, 5, 6, 7, 8, 9, 23, 24, 10, 11, 12, 13, 14, 15, 16, 17, 18, 19, 20, 21, 22] (k_rV (As := [.int l2]) (rest := []) ⟨hx, hb, hml, hown, hts⟩ hK hN hPc hDc (zX8_endOfPart hc65) (cwV 1 hts gX9_play_X8_endOfPart rfl rfl rfl (by decide +kernel) ⟨Nat.le_of_ble_eq_true rfl, Nat.le_of_ble_eq_true rfl⟩) rfl rfl rfl hl.1 rfl (Nat.le_of_ble_eq_true rfl) dX9_play_65 ⟨Nat.zero_le _, Nat.zero_le _⟩) hP hD hS hA rfl rfl (by decide) (by decide) rfl (by decide) (fun H locs hP hD hS => ?_)
          refine lv_istore (lv' := [(5, .int r4), (0, .ref h9), (1, .int l1), (2, .int l2), (3, .int (k_b l3)), (4, .int l4)]) hx hb dX9_play_68 hl (by decide) rfl (fun ls hl => ?_)
          refine lv_aload_n hx hb dX9_play_70 rfl (lv_at hl 1 rfl) ?_
          refine lv_iload_n hx hb dX9_play_71 rfl (lv_at hl 3 rfl) ?_
          refine lv_iload hx hb dX9_play_72 (lv_at hl 0 rfl) ?_
          obtain ⟨r5, hc74, hm⟩ := k_bds hm
          refine k_i_sE (k_rV (As := [.int l2, .int r4]) (rest := []) ⟨hx, hb, hml, hown, hts⟩ hK hN hP hD (zX9_isPartPossible hc74) (cwV 2 hts gX9_play_X9_isPartPossible rfl rfl rfl (by decide +kernel) ⟨Nat.le_of_ble_eq_true rfl, Nat.le_of_ble_eq_true rfl⟩) rfl rfl rfl hl.1 rfl (Nat.le_of_ble_eq_true rfl) dX9_play_74 ⟨Nat.zero_le _, Nat.zero_le _⟩) hD hS hA (fun u9 H locs hP hD hS => ?_)
          obtain ⟨u6, u7, u8, u9⟩ := u9
          have hP : va_P D vwCl (wX cI cJ cC cG h9 hn ap u6 ht h0 u7 u8 pc u9 hasS cnt snp G c_mover c_phase c_dice c_stake c_cube c_pieces0 c_pieces1 c_score0 c_score1 c_hits0 c_hits1 c_stopped c_stopPart t_signs t_length) H := hP
          have hD : va_D A (wX cI cJ cC cG h9 hn ap u6 ht h0 u7 u8 pc u9 hasS cnt snp G c_mover c_phase c_dice c_stake c_cube c_pieces0 c_pieces1 c_score0 c_score1 c_hits0 c_hits1 c_stopped c_stopPart t_signs t_length) := hD
          refine lv_istore_n (lv' := [(3, .int (k_b r5)), (5, .int r4), (0, .ref h9), (1, .int l1), (2, .int l2), (4, .int l4)]) hx hb dX9_play_77 rfl hl (by decide) rfl (fun ls hl => ?_)
          refine lv_iload_n hx hb dX9_play_78 rfl (lv_at hl 0 rfl) ?_
          refine lv_if_eq (tgt := 92) hx hb dX9_play_79 (by decide) (fun cc79 => ?_) (fun cc79 => ?_)
          · have hm := k_ip cc79 hm
            exact J_92 u6 u7 u8 u9 l1 r5 l4 r4 cnt G c_mover c_phase c_dice c_stake c_cube c_pieces0 c_pieces1 c_score0 c_score1 c_hits0 c_hits1 c_stopped c_stopPart t_length _ _ hP hD hS _ (lv_sub hl [2, 3, 0, 5, 1] rfl) hm
          · have hm := k_in cc79 hm
            refine lv_aload_n hx hb dX9_play_82 rfl (lv_at hl 2 rfl) ?_
            refine lv_iload_n hx hb dX9_play_83 rfl (lv_at hl 4 rfl) ?_
            refine lv_iload hx hb dX9_play_84 (lv_at hl 1 rfl) ?_
            obtain ⟨w10, w11, w12, w13, w14, w15, w16, w17, w18, w19, w20, hc86, hm⟩ := k_bd11s hm
            refine k_v_sE (k_rV (As := [.int l2, .int r4]) (rest := []) ⟨hx, hb, hml, hown, hts⟩ hK hN hP hD (zX9_doPart hc86) (cwV 2 hts gX9_play_X9_doPart rfl rfl rfl (by decide +kernel) ⟨Nat.le_of_ble_eq_true rfl, Nat.le_of_ble_eq_true rfl⟩) rfl rfl rfl hl.1 rfl (Nat.le_of_ble_eq_true rfl) dX9_play_86 ⟨Nat.zero_le _, Nat.zero_le _⟩) hD hS hA (fun u9 H locs hP hD hS => ?_)
            obtain ⟨u21, u22, u23, u24⟩ := u9
            have hP : va_P D vwCl (wX cI cJ cC cG h9 hn ap u21 ht h0 u22 u23 pc u24 hasS cnt snp G w10 w11 w12 w13 w14 w15 w16 w17 w18 w19 w20 c_stopped c_stopPart t_signs t_length) H := hP
            have hD : va_D A (wX cI cJ cC cG h9 hn ap u21 ht h0 u22 u23 pc u24 hasS cnt snp G w10 w11 w12 w13 w14 w15 w16 w17 w18 w19 w20 c_stopped c_stopPart t_signs t_length) := hD
            refine lv_iinc (v := (l1 + 1)) (lv' := [(1, .int (l1 + 1)), (3, .int (k_b r5)), (5, .int r4), (0, .ref h9), (2, .int l2), (4, .int l4)]) hx hb dX9_play_89 hl (k := 3) rfl rfl (by decide) rfl (fun ls hl => ?_)
            exact J_92 u21 u22 u23 u24 (l1 + 1) r5 l4 r4 cnt G w10 w11 w12 w13 w14 w15 w16 w17 w18 w19 w20 c_stopped c_stopPart t_length _ _ hP hD hS _ (lv_sub hl [3, 0, 1, 5, 2] rfl) hm) k_F
  unfold mX9_play at hm
  refine lv_aload_n hx hb dX9_play_0 rfl (lv_at hl 0 rfl) ?_
  refine va_get (D := D) (ci := 5) (v := .ref (ht 0)) (C := RX9) (T := TX9) (N := 4) hx hb hts hinX9 hown hK hP 0 rfl rfl 2 (by decide) fl26 (fun _ h9 => h9) rfl dX9_play_1 ?_
  obtain ⟨r25, hc4, hm⟩ := k_bds hm
  have hPc : va_P D vwCl (wT cC ht t_signs t_length) _ := k_Psub hP [10, 11] rfl
  have hDc : va_D A (wT cC ht t_signs t_length) := hD.sub [10, 11] (by decide) rfl
  refine k_i_c (Wf := (wX cI cJ cC cG h9 hn ap q ht h0 pa pb pc jk hasS cnt snp G c_mover c_phase c_dice c_stake c_cube c_pieces0 c_pieces1 c_score0 c_score1 c_hits0 c_hits1 c_stopped c_stopPart t_signs t_length)) [10, 11] [0, 1, 2, 3, 4, 5, 6, 7, 8, 9, 12, 13, 14, 15, 16, 17, 18, 19, 20, 21, 22, 23, 24] [0, 1, 2, 3, 4, 5, 6, 7, 8, 9, 23, 24, 10, 11, 12, 13, 14, 15, 16, 17, 18, 19, 20, 21, 22] (k_rV (As := []) (rest := []) ⟨hx, hb, hml, hown, hts⟩ hK hN hPc hDc (zX8_isGame hc4) (cwV 0 hts gX9_play_X8_isGame rfl rfl rfl (by decide +kernel) ⟨Nat.le_of_ble_eq_true rfl, Nat.le_of_ble_eq_true rfl⟩) rfl rfl rfl hl.1 rfl (Nat.le_of_ble_eq_true rfl) dX9_play_4 ⟨Nat.zero_le _, Nat.zero_le _⟩) hP hD hS hA rfl rfl (by decide) (by decide) rfl (by decide) (fun H locs hP hD hS => ?_)
  refine lv_if_ne (tgt := 18) hx hb dX9_play_7 (by decide) (fun cc7 => ?_) (fun cc7 => ?_)
  · have hm := k_in cc7 hm
    refine lv_aload_n hx hb dX9_play_18 rfl (lv_at hl 0 rfl) ?_
    refine va_get (D := D) (ci := 5) (v := .ref (ap 0)) (C := RX9) (T := TX9) (N := 4) hx hb hts hinX9 hown hK hP 0 rfl rfl 1 (by decide) fl19 (fun _ h9 => h9) rfl dX9_play_19 ?_
    refine lv_aload_n hx hb dX9_play_22 rfl (lv_at hl 0 rfl) ?_
    refine va_get (D := D) (ci := 5) (v := .ref hn) (C := RX9) (T := TX9) (N := 4) hx hb hts hinX9 hown hK hP 0 rfl rfl 0 (by decide) fl10 (fun _ h9 => h9) rfl dX9_play_23 ?_
    obtain ⟨w26, w27, hc26, hm⟩ := k_bd2s hm
    have hPc : va_P D vwCl (wPa cG ap q hn hasS cnt snp G c_mover c_phase c_dice c_stake c_cube c_pieces0 c_pieces1 c_score0 c_score1 c_hits0 c_hits1 c_stopped c_stopPart) _ := k_Psub hP [2, 3, 4, 5, 6, 7, 8, 9, 1] rfl
    have hDc : va_D A (wPa cG ap q hn hasS cnt snp G c_mover c_phase c_dice c_stake c_cube c_pieces0 c_pieces1 c_score0 c_score1 c_hits0 c_hits1 c_stopped c_stopPart) := hD.sub [2, 3, 4, 5, 6, 7, 8, 9, 1] (by decide) rfl
    refine k_v_cE (fun u : (Nat → Nat) => (wX cI cJ cC cG h9 hn ap u ht h0 pa pb pc jk hasS w26 snp w27 c_mover c_phase c_dice c_stake c_cube c_pieces0 c_pieces1 c_score0 c_score1 c_hits0 c_hits1 c_stopped c_stopPart t_signs t_length)) [2, 3, 4, 5, 6, 7, 8, 9, 1] [0, 10, 11, 12, 13, 14, 15, 16, 17, 18, 19, 20, 21, 22, 23, 24] [0, 24, 16, 17, 18, 19, 20, 21, 22, 23, 1, 2, 3, 4, 5, 6, 7, 8, 9, 10, 11, 12, 13, 14, 15] (k_rV (As := [.ref hn]) (rest := []) ⟨hx, hb, hml, hown, hts⟩ hK hN hPc hDc (zX2_save hc26) (cwV 1 hts gX9_play_X2_save rfl rfl rfl (by decide +kernel) ⟨Nat.le_of_ble_eq_true rfl, Nat.le_of_ble_eq_true rfl⟩) rfl rfl rfl hl.1 rfl (Nat.le_of_ble_eq_true rfl) dX9_play_26 ⟨Nat.zero_le _, Nat.zero_le _⟩) hP hD hS hA rfl rfl (by decide) (by decide) (fun u => rfl) (by decide) (fun u9 H locs hP hD hS => ?_)
    generalize u9 = u28 at hP hD
    have hP : va_P D vwCl (wX cI cJ cC cG h9 hn ap u28 ht h0 pa pb pc jk hasS w26 snp w27 c_mover c_phase c_dice c_stake c_cube c_pieces0 c_pieces1 c_score0 c_score1 c_hits0 c_hits1 c_stopped c_stopPart t_signs t_length) H := hP
    have hD : va_D A (wX cI cJ cC cG h9 hn ap u28 ht h0 pa pb pc jk hasS w26 snp w27 c_mover c_phase c_dice c_stake c_cube c_pieces0 c_pieces1 c_score0 c_score1 c_hits0 c_hits1 c_stopped c_stopPart t_signs t_length) := hD
    refine lv_iconst (v := 0) hx hb dX9_play_29 (by decide) ?_
    refine lv_istore_n (lv' := [(1, .int 0), (0, .ref h9)]) hx hb dX9_play_30 rfl hl (by decide) rfl (fun ls hl => ?_)
    refine lv_iconst (v := 0) hx hb dX9_play_31 (by decide) ?_
    refine lv_istore_n (lv' := [(2, .int 0), (1, .int 0), (0, .ref h9)]) hx hb dX9_play_32 rfl hl (by decide) rfl (fun ls hl => ?_)
    refine lv_iconst (v := 1) hx hb dX9_play_33 (by decide) ?_
    refine lv_istore_n (lv' := [(3, .int 1), (2, .int 0), (1, .int 0), (0, .ref h9)]) hx hb dX9_play_34 rfl hl (by decide) rfl (fun ls hl => ?_)
    refine lv_iconst (v := 0) hx hb dX9_play_35 (by decide) ?_
    refine lv_istore (lv' := [(4, .int 0), (3, .int 1), (2, .int 0), (1, .int 0), (0, .ref h9)]) hx hb dX9_play_36 hl (by decide) rfl (fun ls hl => ?_)
    exact J_38 u28 pa pb jk 0 0 true 0 w26 w27 c_mover c_phase c_dice c_stake c_cube c_pieces0 c_pieces1 c_score0 c_score1 c_hits0 c_hits1 c_stopped c_stopPart t_length _ _ hP hD hS _ (lv_sub hl [4, 3, 2, 1, 0] rfl) hm
  · have hm := k_ip cc7 hm
    cases hm

