abbrev rmX9_shotsRollByRoll : Room := { frames := 5, cells := 0, slots := 0, locals := 130 }
set_option maxHeartbeats 4000000 in
set_option maxRecDepth 100000 in
theorem zX9_shotsRollByRoll {l : Launch} {D : va_G} {cI cJ cC cG : ClassId} {sz : Nat} {h9 hn h0 : Nat} {ap q ht pa pb pc : Nat → Nat} {jk : JT} {hasS : Bool} {cnt : Int32} {snp : GT} {G : Nat → GT} {c_mover : Int32} {c_phase : Int32} {c_dice : Int32} {c_stake : Int32} {c_cube : Int32} {c_pieces0 : Int64} {c_pieces1 : Int64} {c_score0 : Int32} {c_score1 : Int32} {c_hits0 : Int32} {c_hits1 : Int32} {c_stopped : Bool} {c_stopPart : Int32} {t_signs : Nat → Int32} {t_length : Int32} {a1 : Int32} {r : Int32} (hm : mX9_shotsRollByRoll c_pieces0 c_pieces1 a1 = some (r)) : k_MiE l yX9_shotsRollByRoll wsX9_shotsRollByRoll rmX9_shotsRollByRoll D (kT cI cJ cC cG) sz ([.ref h9, .int a1] : List Value) (wX cI cJ cC cG h9 hn ap q ht h0 pa pb pc jk hasS cnt snp G c_mover c_phase c_dice c_stake c_cube c_pieces0 c_pieces1 c_score0 c_score1 c_hits0 c_hits1 c_stopped c_stopPart t_signs t_length) (fun u : (Nat → Nat) × (Nat → Nat) × (Nat → Nat) × (JT) => (wX cI cJ cC cG h9 hn ap (u.1) ht h0 (u.2.1) (u.2.2.1) pc (u.2.2.2) hasS cnt snp G c_mover c_phase c_dice c_stake c_cube c_pieces0 c_pieces1 c_score0 c_score1 c_hits0 c_hits1 c_stopped c_stopPart t_signs t_length)) r := by
  refine k_st_iE (cc := cX9_shotsRollByRoll) (maxL := 4) (by decide) rfl (Nat.le_of_ble_eq_true rfl) ?_
  intro p e z m below meth c A hx hb hr hml hts hown hlocks hsz hN hA hK hP hD hS ls hl
  have hown : z.vm.findClass RX9 = some m.cls := hown
  have hinX9 : ∀ w ∈ wsX90, w ∈ wsX9_shotsRollByRoll := by decide +kernel
  have fl10 := hts (.fieldLink RX9 10 "MagpieRuns" "now" "LMagpieRuns$Game;") (by decide +kernel)
  have hl : lv_has ls 4 [(0, .ref h9), (1, .int a1)] := hl
  unfold mX9_shotsRollByRoll at hm
  refine lv_aload_n hx hb dX9_shotsRollByRoll_0 rfl (lv_at hl 0 rfl) ?_
  refine va_get (D := D) (ci := 5) (v := .ref hn) (C := RX9) (T := TX9) (N := 4) hx hb hts hinX9 hown hK hP 0 rfl rfl 0 (by decide) fl10 (fun _ h9 => h9) rfl dX9_shotsRollByRoll_1 ?_
  refine lv_iload_n hx hb dX9_shotsRollByRoll_4 rfl (lv_at hl 1 rfl) ?_
  obtain ⟨r1, hc5, hm⟩ := k_bds hm
  have hPc : va_P D vwCl (wG hn c_mover c_phase c_dice c_stake c_cube c_pieces0 c_pieces1 c_score0 c_score1 c_hits0 c_hits1 c_stopped c_stopPart) _ := k_Psub hP [1] rfl
  have hDc : va_D A (wG hn c_mover c_phase c_dice c_stake c_cube c_pieces0 c_pieces1 c_score0 c_score1 c_hits0 c_hits1 c_stopped c_stopPart) := hD.sub [1] (by decide) rfl
  refine k_i_c (Wf := (wX cI cJ cC cG h9 hn ap q ht h0 pa pb pc jk hasS cnt snp G c_mover c_phase c_dice c_stake c_cube c_pieces0 c_pieces1 c_score0 c_score1 c_hits0 c_hits1 c_stopped c_stopPart t_signs t_length)) [1] [0, 2, 3, 4, 5, 6, 7, 8, 9, 10, 11, 12, 13, 14, 15, 16, 17, 18, 19, 20, 21, 22, 23, 24] [0, 24, 1, 2, 3, 4, 5, 6, 7, 8, 9, 10, 11, 12, 13, 14, 15, 16, 17, 18, 19, 20, 21, 22, 23] (k_rV (As := [.int a1]) (rest := []) ⟨hx, hb, hml, hown, hts⟩ hK hN hPc hDc (zX1_ownerOfBlot hc5) (cwV 1 hts gX9_shotsRollByRoll_X1_ownerOfBlot rfl rfl rfl (by decide +kernel) ⟨Nat.le_of_ble_eq_true rfl, Nat.le_of_ble_eq_true rfl⟩) rfl rfl rfl hl.1 rfl (Nat.le_of_ble_eq_true rfl) dX9_shotsRollByRoll_5 ⟨Nat.zero_le _, Nat.zero_le _⟩) hP hD hS hA rfl rfl (by decide) (by decide) rfl (by decide) (fun H locs hP hD hS => ?_)
  refine lv_istore_n (lv' := [(2, .int r1), (0, .ref h9), (1, .int a1)]) hx hb dX9_shotsRollByRoll_8 rfl hl (by decide) rfl (fun ls hl => ?_)
  refine lv_iload_n hx hb dX9_shotsRollByRoll_9 rfl (lv_at hl 0 rfl) ?_
  refine lv_if_ge (tgt := 15) hx hb dX9_shotsRollByRoll_10 (by decide) (fun cc10 => ?_) (fun cc10 => ?_)
  · have hm := k_ip cc10 hm
    refine lv_iconst (v := 1) hx hb dX9_shotsRollByRoll_15 (by decide) ?_
    refine lv_iload_n hx hb dX9_shotsRollByRoll_16 rfl (lv_at hl 0 rfl) ?_
    refine lv_isub hx hb dX9_shotsRollByRoll_17 ?_
    refine lv_iload_n hx hb dX9_shotsRollByRoll_18 rfl (lv_at hl 2 rfl) ?_
    obtain ⟨r2, hc19, hm⟩ := k_bds hm
    refine k_i_0 (k_rS (As := [.int (1 - r1), .int a1]) (rest := []) ⟨hx, hb, hml, hown, hts⟩ hK hN k_P0 (k_D0 (A := A)) (zX1_wayOf hc19) (va_cwS 2 hts gX9_shotsRollByRoll_X1_wayOf rfl rfl rfl (by decide +kernel) ⟨Nat.le_of_ble_eq_true rfl, Nat.le_of_ble_eq_true rfl⟩) rfl hl.1 rfl (Nat.le_of_ble_eq_true rfl) dX9_shotsRollByRoll_19 ⟨Nat.zero_le _, Nat.zero_le _⟩) hP hS hA (fun H locs hP hS => ?_)
    refine lv_istore_n (lv' := [(3, .int r2), (2, .int r1), (0, .ref h9), (1, .int a1)]) hx hb dX9_shotsRollByRoll_22 rfl hl (by decide) rfl (fun ls hl => ?_)
    refine lv_aload_n hx hb dX9_shotsRollByRoll_23 rfl (lv_at hl 2 rfl) ?_
    refine va_get (D := D) (ci := 5) (v := .ref hn) (C := RX9) (T := TX9) (N := 4) hx hb hts hinX9 hown hK hP 0 rfl rfl 0 (by decide) fl10 (fun _ h9 => h9) rfl dX9_shotsRollByRoll_24 ?_
    refine lv_iconst (v := 1) hx hb dX9_shotsRollByRoll_27 (by decide) ?_
    refine lv_iload_n hx hb dX9_shotsRollByRoll_28 rfl (lv_at hl 1 rfl) ?_
    refine lv_isub hx hb dX9_shotsRollByRoll_29 ?_
    obtain ⟨r3, hc30, hm⟩ := k_bds hm
    have hPc : va_P D vwCl (wG hn c_mover c_phase c_dice c_stake c_cube c_pieces0 c_pieces1 c_score0 c_score1 c_hits0 c_hits1 c_stopped c_stopPart) _ := k_Psub hP [1] rfl
    have hDc : va_D A (wG hn c_mover c_phase c_dice c_stake c_cube c_pieces0 c_pieces1 c_score0 c_score1 c_hits0 c_hits1 c_stopped c_stopPart) := hD.sub [1] (by decide) rfl
    refine k_l_c (Wf := (wX cI cJ cC cG h9 hn ap q ht h0 pa pb pc jk hasS cnt snp G c_mover c_phase c_dice c_stake c_cube c_pieces0 c_pieces1 c_score0 c_score1 c_hits0 c_hits1 c_stopped c_stopPart t_signs t_length)) [1] [0, 2, 3, 4, 5, 6, 7, 8, 9, 10, 11, 12, 13, 14, 15, 16, 17, 18, 19, 20, 21, 22, 23, 24] [0, 24, 1, 2, 3, 4, 5, 6, 7, 8, 9, 10, 11, 12, 13, 14, 15, 16, 17, 18, 19, 20, 21, 22, 23] (k_rV (As := [.int (1 - r1)]) (rest := []) ⟨hx, hb, hml, hown, hts⟩ hK hN hPc hDc (zX1_piecesOf hc30) (cwV 1 hts gX9_shotsRollByRoll_X1_piecesOf rfl rfl rfl (by decide +kernel) ⟨Nat.le_of_ble_eq_true rfl, Nat.le_of_ble_eq_true rfl⟩) rfl rfl rfl hl.1 rfl (Nat.le_of_ble_eq_true rfl) dX9_shotsRollByRoll_30 ⟨Nat.zero_le _, Nat.zero_le _⟩) hP hD hS hA rfl rfl (by decide) (by decide) rfl (by decide) (fun H locs hP hD hS => ?_)
    refine lv_aload_n hx hb dX9_shotsRollByRoll_33 rfl (lv_at hl 2 rfl) ?_
    refine va_get (D := D) (ci := 5) (v := .ref hn) (C := RX9) (T := TX9) (N := 4) hx hb hts hinX9 hown hK hP 0 rfl rfl 0 (by decide) fl10 (fun _ h9 => h9) rfl dX9_shotsRollByRoll_34 ?_
    refine lv_iload_n hx hb dX9_shotsRollByRoll_37 rfl (lv_at hl 1 rfl) ?_
    obtain ⟨r4, hc38, hm⟩ := k_bds hm
    have hPc : va_P D vwCl (wG hn c_mover c_phase c_dice c_stake c_cube c_pieces0 c_pieces1 c_score0 c_score1 c_hits0 c_hits1 c_stopped c_stopPart) _ := k_Psub hP [1] rfl
    have hDc : va_D A (wG hn c_mover c_phase c_dice c_stake c_cube c_pieces0 c_pieces1 c_score0 c_score1 c_hits0 c_hits1 c_stopped c_stopPart) := hD.sub [1] (by decide) rfl
    refine k_l_c (Wf := (wX cI cJ cC cG h9 hn ap q ht h0 pa pb pc jk hasS cnt snp G c_mover c_phase c_dice c_stake c_cube c_pieces0 c_pieces1 c_score0 c_score1 c_hits0 c_hits1 c_stopped c_stopPart t_signs t_length)) [1] [0, 2, 3, 4, 5, 6, 7, 8, 9, 10, 11, 12, 13, 14, 15, 16, 17, 18, 19, 20, 21, 22, 23, 24] [0, 24, 1, 2, 3, 4, 5, 6, 7, 8, 9, 10, 11, 12, 13, 14, 15, 16, 17, 18, 19, 20, 21, 22, 23] (k_rV (As := [.int r1]) (rest := [.long r3]) ⟨hx, hb, hml, hown, hts⟩ hK hN hPc hDc (zX1_piecesOf hc38) (cwV 1 hts gX9_shotsRollByRoll_X1_piecesOf rfl rfl rfl (by decide +kernel) ⟨Nat.le_of_ble_eq_true rfl, Nat.le_of_ble_eq_true rfl⟩) rfl rfl rfl hl.1 rfl (Nat.le_of_ble_eq_true rfl) dX9_shotsRollByRoll_38 ⟨Nat.zero_le _, Nat.zero_le _⟩) hP hD hS hA rfl rfl (by decide) (by decide) rfl (by decide) (fun H locs hP hD hS => ?_)
    refine lv_iload_n hx hb dX9_shotsRollByRoll_41 rfl (lv_at hl 0 rfl) ?_
    obtain ⟨r5, hc42, hm⟩ := k_bds hm
    refine k_i_0 (k_rS (As := [.long r3, .long r4, .int r2]) (rest := []) ⟨hx, hb, hml, hown, hts⟩ hK hN k_P0 (k_D0 (A := A)) (zX6_rollByRoll hc42) (va_cwS 3 hts gX9_shotsRollByRoll_X6_rollByRoll rfl rfl rfl (by decide +kernel) ⟨Nat.le_of_ble_eq_true rfl, Nat.le_of_ble_eq_true rfl⟩) rfl hl.1 rfl (Nat.le_of_ble_eq_true rfl) dX9_shotsRollByRoll_42 ⟨Nat.zero_le _, Nat.zero_le _⟩) hP hS hA (fun H locs hP hS => ?_)
    cases hm
    exact k_end_iE (q, pa, pb, jk) hx hb hr hlocks hK hP hD hS dX9_shotsRollByRoll_45
  · have hm := k_in cc10 hm
    refine lv_iconst (v := 0) hx hb dX9_shotsRollByRoll_13 (by decide) ?_
    cases hm
    exact k_end_iE (q, pa, pb, jk) hx hb hr hlocks hK hP hD hS dX9_shotsRollByRoll_14

abbrev rmX9_shots : Room := { frames := 6, cells := 0, slots := 0, locals := 153 }
set_option maxHeartbeats 4000000 in
set_option maxRecDepth 100000 in
theorem zX9_shots {l : Launch} {D : va_G} {cI cJ cC cG : ClassId} {sz : Nat} {h9 hn h0 : Nat} {ap q ht pa pb pc : Nat → Nat} {jk : JT} {hasS : Bool} {cnt : Int32} {snp : GT} {G : Nat → GT} {c_mover : Int32} {c_phase : Int32} {c_dice : Int32} {c_stake : Int32} {c_cube : Int32} {c_pieces0 : Int64} {c_pieces1 : Int64} {c_score0 : Int32} {c_score1 : Int32} {c_hits0 : Int32} {c_hits1 : Int32} {c_stopped : Bool} {c_stopPart : Int32} {t_signs : Nat → Int32} {t_length : Int32} {a1 : Int32} {r : Int32} (hm : mX9_shots c_pieces0 c_pieces1 a1 = some (r)) : k_MiE l yX9_shots wsX9_shots rmX9_shots D (kT cI cJ cC cG) sz ([.ref h9, .int a1] : List Value) (wX cI cJ cC cG h9 hn ap q ht h0 pa pb pc jk hasS cnt snp G c_mover c_phase c_dice c_stake c_cube c_pieces0 c_pieces1 c_score0 c_score1 c_hits0 c_hits1 c_stopped c_stopPart t_signs t_length) (fun u : (Nat → Nat) × (Nat → Nat) × (Nat → Nat) × (JT) => (wX cI cJ cC cG h9 hn ap (u.1) ht h0 (u.2.1) (u.2.2.1) pc (u.2.2.2) hasS cnt snp G c_mover c_phase c_dice c_stake c_cube c_pieces0 c_pieces1 c_score0 c_score1 c_hits0 c_hits1 c_stopped c_stopPart t_signs t_length)) r := by
  refine k_st_iE (cc := cX9_shots) (maxL := 2) (by decide) rfl (Nat.le_of_ble_eq_true rfl) ?_
  intro p e z m below meth c A hx hb hr hml hts hown hlocks hsz hN hA hK hP hD hS ls hl
  have hown : z.vm.findClass RX9 = some m.cls := hown
  have hl : lv_has ls 2 [(0, .ref h9), (1, .int a1)] := hl
  unfold mX9_shots at hm
  refine lv_iload_n hx hb dX9_shots_0 rfl (lv_at hl 1 rfl) ?_
  obtain ⟨r1, hc1, hm⟩ := k_bds hm
  refine k_i_0 (k_rS (As := [.int a1]) (rest := []) ⟨hx, hb, hml, hown, hts⟩ hK hN k_P0 (k_D0 (A := A)) (zX9_isPoint hc1) (va_cwS 1 hts gX9_shots_X9_isPoint rfl rfl rfl (by decide +kernel) ⟨Nat.le_of_ble_eq_true rfl, Nat.le_of_ble_eq_true rfl⟩) rfl hl.1 rfl (Nat.le_of_ble_eq_true rfl) dX9_shots_1 ⟨Nat.zero_le _, Nat.zero_le _⟩) hP hS hA (fun H locs hP hS => ?_)
  refine lv_if_ne (tgt := 15) hx hb dX9_shots_4 (by decide) (fun cc4 => ?_) (fun cc4 => ?_)
  · have hm := k_in cc4 hm
    refine lv_aload_n hx hb dX9_shots_15 rfl (lv_at hl 0 rfl) ?_
    refine lv_iload_n hx hb dX9_shots_16 rfl (lv_at hl 1 rfl) ?_
    obtain ⟨r2, hc17, hm⟩ := k_bds hm
    refine k_i_sE (k_rV (As := [.int a1]) (rest := []) ⟨hx, hb, hml, hown, hts⟩ hK hN hP hD (zX9_shotsRollByRoll hc17) (cwV 1 hts gX9_shots_X9_shotsRollByRoll rfl rfl rfl (by decide +kernel) ⟨Nat.le_of_ble_eq_true rfl, Nat.le_of_ble_eq_true rfl⟩) rfl rfl rfl hl.1 rfl (Nat.le_of_ble_eq_true rfl) dX9_shots_17 ⟨Nat.zero_le _, Nat.zero_le _⟩) hD hS hA (fun u9 H locs hP hD hS => ?_)
    obtain ⟨u3, u4, u5, u6⟩ := u9
    have hP : va_P D vwCl (wX cI cJ cC cG h9 hn ap u3 ht h0 u4 u5 pc u6 hasS cnt snp G c_mover c_phase c_dice c_stake c_cube c_pieces0 c_pieces1 c_score0 c_score1 c_hits0 c_hits1 c_stopped c_stopPart t_signs t_length) H := hP
    have hD : va_D A (wX cI cJ cC cG h9 hn ap u3 ht h0 u4 u5 pc u6 hasS cnt snp G c_mover c_phase c_dice c_stake c_cube c_pieces0 c_pieces1 c_score0 c_score1 c_hits0 c_hits1 c_stopped c_stopPart t_signs t_length) := hD
    cases hm
    exact k_end_iE (u3, u4, u5, u6) hx hb hr hlocks hK hP hD hS dX9_shots_20
  · have hm := k_ip cc4 hm
    cases hm

abbrev rmX9_shotsKindByKind : Room := { frames := 5, cells := 0, slots := 0, locals := 131 }
set_option maxHeartbeats 4000000 in
set_option maxRecDepth 100000 in
theorem zX9_shotsKindByKind {l : Launch} {D : va_G} {cI cJ cC cG : ClassId} {sz : Nat} {h9 hn h0 : Nat} {ap q ht pa pb pc : Nat → Nat} {jk : JT} {hasS : Bool} {cnt : Int32} {snp : GT} {G : Nat → GT} {c_mover : Int32} {c_phase : Int32} {c_dice : Int32} {c_stake : Int32} {c_cube : Int32} {c_pieces0 : Int64} {c_pieces1 : Int64} {c_score0 : Int32} {c_score1 : Int32} {c_hits0 : Int32} {c_hits1 : Int32} {c_stopped : Bool} {c_stopPart : Int32} {t_signs : Nat → Int32} {t_length : Int32} {a1 : Int32} {r : Int32} (hm : mX9_shotsKindByKind c_pieces0 c_pieces1 a1 = some (r)) : k_MiE l yX9_shotsKindByKind wsX9_shotsKindByKind rmX9_shotsKindByKind D (kT cI cJ cC cG) sz ([.ref h9, .int a1] : List Value) (wX cI cJ cC cG h9 hn ap q ht h0 pa pb pc jk hasS cnt snp G c_mover c_phase c_dice c_stake c_cube c_pieces0 c_pieces1 c_score0 c_score1 c_hits0 c_hits1 c_stopped c_stopPart t_signs t_length) (fun u : (Nat → Nat) × (Nat → Nat) × (Nat → Nat) × (JT) => (wX cI cJ cC cG h9 hn ap (u.1) ht h0 (u.2.1) (u.2.2.1) pc (u.2.2.2) hasS cnt snp G c_mover c_phase c_dice c_stake c_cube c_pieces0 c_pieces1 c_score0 c_score1 c_hits0 c_hits1 c_stopped c_stopPart t_signs t_length)) r := by
  refine k_st_iE (cc := cX9_shotsKindByKind) (maxL := 4) (by decide) rfl (Nat.le_of_ble_eq_true rfl) ?_
  intro p e z m below meth c A hx hb hr hml hts hown hlocks hsz hN hA hK hP hD hS ls hl
  have hown : z.vm.findClass RX9 = some m.cls := hown
  have hinX9 : ∀ w ∈ wsX90, w ∈ wsX9_shotsKindByKind := by decide +kernel
  have fl10 := hts (.fieldLink RX9 10 "MagpieRuns" "now" "LMagpieRuns$Game;") (by decide +kernel)
  have hl : lv_has ls 4 [(0, .ref h9), (1, .int a1)] := hl
  unfold mX9_shotsKindByKind at hm
  refine lv_aload_n hx hb dX9_shotsKindByKind_0 rfl (lv_at hl 0 rfl) ?_
  refine va_get (D := D) (ci := 5) (v := .ref hn) (C := RX9) (T := TX9) (N := 4) hx hb hts hinX9 hown hK hP 0 rfl rfl 0 (by decide) fl10 (fun _ h9 => h9) rfl dX9_shotsKindByKind_1 ?_
  refine lv_iload_n hx hb dX9_shotsKindByKind_4 rfl (lv_at hl 1 rfl) ?_
  obtain ⟨r1, hc5, hm⟩ := k_bds hm
  have hPc : va_P D vwCl (wG hn c_mover c_phase c_dice c_stake c_cube c_pieces0 c_pieces1 c_score0 c_score1 c_hits0 c_hits1 c_stopped c_stopPart) _ := k_Psub hP [1] rfl
  have hDc : va_D A (wG hn c_mover c_phase c_dice c_stake c_cube c_pieces0 c_pieces1 c_score0 c_score1 c_hits0 c_hits1 c_stopped c_stopPart) := hD.sub [1] (by decide) rfl
  refine k_i_c (Wf := (wX cI cJ cC cG h9 hn ap q ht h0 pa pb pc jk hasS cnt snp G c_mover c_phase c_dice c_stake c_cube c_pieces0 c_pieces1 c_score0 c_score1 c_hits0 c_hits1 c_stopped c_stopPart t_signs t_length)) [1] [0, 2, 3, 4, 5, 6, 7, 8, 9, 10, 11, 12, 13, 14, 15, 16, 17, 18, 19, 20, 21, 22, 23, 24] [0, 24, 1, 2, 3, 4, 5, 6, 7, 8, 9, 10, 11, 12, 13, 14, 15, 16, 17, 18, 19, 20, 21, 22, 23] (k_rV (As := [.int a1]) (rest := []) ⟨hx, hb, hml, hown, hts⟩ hK hN hPc hDc (zX1_ownerOfBlot hc5) (cwV 1 hts gX9_shotsKindByKind_X1_ownerOfBlot rfl rfl rfl (by decide +kernel) ⟨Nat.le_of_ble_eq_true rfl, Nat.le_of_ble_eq_true rfl⟩) rfl rfl rfl hl.1 rfl (Nat.le_of_ble_eq_true rfl) dX9_shotsKindByKind_5 ⟨Nat.zero_le _, Nat.zero_le _⟩) hP hD hS hA rfl rfl (by decide) (by decide) rfl (by decide) (fun H locs hP hD hS => ?_)
  refine lv_istore_n (lv' := [(2, .int r1), (0, .ref h9), (1, .int a1)]) hx hb dX9_shotsKindByKind_8 rfl hl (by decide) rfl (fun ls hl => ?_)
  refine lv_iload_n hx hb dX9_shotsKindByKind_9 rfl (lv_at hl 0 rfl) ?_
  refine lv_if_ge (tgt := 15) hx hb dX9_shotsKindByKind_10 (by decide) (fun cc10 => ?_) (fun cc10 => ?_)
  · have hm := k_ip cc10 hm
    refine lv_iconst (v := 1) hx hb dX9_shotsKindByKind_15 (by decide) ?_
    refine lv_iload_n hx hb dX9_shotsKindByKind_16 rfl (lv_at hl 0 rfl) ?_
    refine lv_isub hx hb dX9_shotsKindByKind_17 ?_
    refine lv_iload_n hx hb dX9_shotsKindByKind_18 rfl (lv_at hl 2 rfl) ?_
    obtain ⟨r2, hc19, hm⟩ := k_bds hm
    refine k_i_0 (k_rS (As := [.int (1 - r1), .int a1]) (rest := []) ⟨hx, hb, hml, hown, hts⟩ hK hN k_P0 (k_D0 (A := A)) (zX1_wayOf hc19) (va_cwS 2 hts gX9_shotsKindByKind_X1_wayOf rfl rfl rfl (by decide +kernel) ⟨Nat.le_of_ble_eq_true rfl, Nat.le_of_ble_eq_true rfl⟩) rfl hl.1 rfl (Nat.le_of_ble_eq_true rfl) dX9_shotsKindByKind_19 ⟨Nat.zero_le _, Nat.zero_le _⟩) hP hS hA (fun H locs hP hS => ?_)
    refine lv_istore_n (lv' := [(3, .int r2), (2, .int r1), (0, .ref h9), (1, .int a1)]) hx hb dX9_shotsKindByKind_22 rfl hl (by decide) rfl (fun ls hl => ?_)
    refine lv_aload_n hx hb dX9_shotsKindByKind_23 rfl (lv_at hl 2 rfl) ?_
    refine va_get (D := D) (ci := 5) (v := .ref hn) (C := RX9) (T := TX9) (N := 4) hx hb hts hinX9 hown hK hP 0 rfl rfl 0 (by decide) fl10 (fun _ h9 => h9) rfl dX9_shotsKindByKind_24 ?_
    refine lv_iconst (v := 1) hx hb dX9_shotsKindByKind_27 (by decide) ?_
    refine lv_iload_n hx hb dX9_shotsKindByKind_28 rfl (lv_at hl 1 rfl) ?_
    refine lv_isub hx hb dX9_shotsKindByKind_29 ?_
    obtain ⟨r3, hc30, hm⟩ := k_bds hm
    have hPc : va_P D vwCl (wG hn c_mover c_phase c_dice c_stake c_cube c_pieces0 c_pieces1 c_score0 c_score1 c_hits0 c_hits1 c_stopped c_stopPart) _ := k_Psub hP [1] rfl
    have hDc : va_D A (wG hn c_mover c_phase c_dice c_stake c_cube c_pieces0 c_pieces1 c_score0 c_score1 c_hits0 c_hits1 c_stopped c_stopPart) := hD.sub [1] (by decide) rfl
    refine k_l_c (Wf := (wX cI cJ cC cG h9 hn ap q ht h0 pa pb pc jk hasS cnt snp G c_mover c_phase c_dice c_stake c_cube c_pieces0 c_pieces1 c_score0 c_score1 c_hits0 c_hits1 c_stopped c_stopPart t_signs t_length)) [1] [0, 2, 3, 4, 5, 6, 7, 8, 9, 10, 11, 12, 13, 14, 15, 16, 17, 18, 19, 20, 21, 22, 23, 24] [0, 24, 1, 2, 3, 4, 5, 6, 7, 8, 9, 10, 11, 12, 13, 14, 15, 16, 17, 18, 19, 20, 21, 22, 23] (k_rV (As := [.int (1 - r1)]) (rest := []) ⟨hx, hb, hml, hown, hts⟩ hK hN hPc hDc (zX1_piecesOf hc30) (cwV 1 hts gX9_shotsKindByKind_X1_piecesOf rfl rfl rfl (by decide +kernel) ⟨Nat.le_of_ble_eq_true rfl, Nat.le_of_ble_eq_true rfl⟩) rfl rfl rfl hl.1 rfl (Nat.le_of_ble_eq_true rfl) dX9_shotsKindByKind_30 ⟨Nat.zero_le _, Nat.zero_le _⟩) hP hD hS hA rfl rfl (by decide) (by decide) rfl (by decide) (fun H locs hP hD hS => ?_)
    refine lv_aload_n hx hb dX9_shotsKindByKind_33 rfl (lv_at hl 2 rfl) ?_
    refine va_get (D := D) (ci := 5) (v := .ref hn) (C := RX9) (T := TX9) (N := 4) hx hb hts hinX9 hown hK hP 0 rfl rfl 0 (by decide) fl10 (fun _ h9 => h9) rfl dX9_shotsKindByKind_34 ?_
    refine lv_iload_n hx hb dX9_shotsKindByKind_37 rfl (lv_at hl 1 rfl) ?_
    obtain ⟨r4, hc38, hm⟩ := k_bds hm
    have hPc : va_P D vwCl (wG hn c_mover c_phase c_dice c_stake c_cube c_pieces0 c_pieces1 c_score0 c_score1 c_hits0 c_hits1 c_stopped c_stopPart) _ := k_Psub hP [1] rfl
    have hDc : va_D A (wG hn c_mover c_phase c_dice c_stake c_cube c_pieces0 c_pieces1 c_score0 c_score1 c_hits0 c_hits1 c_stopped c_stopPart) := hD.sub [1] (by decide) rfl
    refine k_l_c (Wf := (wX cI cJ cC cG h9 hn ap q ht h0 pa pb pc jk hasS cnt snp G c_mover c_phase c_dice c_stake c_cube c_pieces0 c_pieces1 c_score0 c_score1 c_hits0 c_hits1 c_stopped c_stopPart t_signs t_length)) [1] [0, 2, 3, 4, 5, 6, 7, 8, 9, 10, 11, 12, 13, 14, 15, 16, 17, 18, 19, 20, 21, 22, 23, 24] [0, 24, 1, 2, 3, 4, 5, 6, 7, 8, 9, 10, 11, 12, 13, 14, 15, 16, 17, 18, 19, 20, 21, 22, 23] (k_rV (As := [.int r1]) (rest := [.long r3]) ⟨hx, hb, hml, hown, hts⟩ hK hN hPc hDc (zX1_piecesOf hc38) (cwV 1 hts gX9_shotsKindByKind_X1_piecesOf rfl rfl rfl (by decide +kernel) ⟨Nat.le_of_ble_eq_true rfl, Nat.le_of_ble_eq_true rfl⟩) rfl rfl rfl hl.1 rfl (Nat.le_of_ble_eq_true rfl) dX9_shotsKindByKind_38 ⟨Nat.zero_le _, Nat.zero_le _⟩) hP hD hS hA rfl rfl (by decide) (by decide) rfl (by decide) (fun H locs hP hD hS => ?_)
    refine lv_iload_n hx hb dX9_shotsKindByKind_41 rfl (lv_at hl 0 rfl) ?_
    obtain ⟨r5, hc42, hm⟩ := k_bds hm
    refine k_i_0 (k_rS (As := [.long r3, .long r4, .int r2]) (rest := []) ⟨hx, hb, hml, hown, hts⟩ hK hN k_P0 (k_D0 (A := A)) (zX6_kindByKind hc42) (va_cwS 3 hts gX9_shotsKindByKind_X6_kindByKind rfl rfl rfl (by decide +kernel) ⟨Nat.le_of_ble_eq_true rfl, Nat.le_of_ble_eq_true rfl⟩) rfl hl.1 rfl (Nat.le_of_ble_eq_true rfl) dX9_shotsKindByKind_42 ⟨Nat.zero_le _, Nat.zero_le _⟩) hP hS hA (fun H locs hP hS => ?_)
    cases hm
    exact k_end_iE (q, pa, pb, jk) hx hb hr hlocks hK hP hD hS dX9_shotsKindByKind_45
  · have hm := k_in cc10 hm
    refine lv_iconst (v := 0) hx hb dX9_shotsKindByKind_13 (by decide) ?_
    cases hm
    exact k_end_iE (q, pa, pb, jk) hx hb hr hlocks hK hP hD hS dX9_shotsKindByKind_14

abbrev rmX9_shotsByKinds : Room := { frames := 6, cells := 0, slots := 0, locals := 154 }
set_option maxHeartbeats 4000000 in
set_option maxRecDepth 100000 in
theorem zX9_shotsByKinds {l : Launch} {D : va_G} {cI cJ cC cG : ClassId} {sz : Nat} {h9 hn h0 : Nat} {ap q ht pa pb pc : Nat → Nat} {jk : JT} {hasS : Bool} {cnt : Int32} {snp : GT} {G : Nat → GT} {c_mover : Int32} {c_phase : Int32} {c_dice : Int32} {c_stake : Int32} {c_cube : Int32} {c_pieces0 : Int64} {c_pieces1 : Int64} {c_score0 : Int32} {c_score1 : Int32} {c_hits0 : Int32} {c_hits1 : Int32} {c_stopped : Bool} {c_stopPart : Int32} {t_signs : Nat → Int32} {t_length : Int32} {a1 : Int32} {r : Int32} (hm : mX9_shotsByKinds c_pieces0 c_pieces1 a1 = some (r)) : k_MiE l yX9_shotsByKinds wsX9_shotsByKinds rmX9_shotsByKinds D (kT cI cJ cC cG) sz ([.ref h9, .int a1] : List Value) (wX cI cJ cC cG h9 hn ap q ht h0 pa pb pc jk hasS cnt snp G c_mover c_phase c_dice c_stake c_cube c_pieces0 c_pieces1 c_score0 c_score1 c_hits0 c_hits1 c_stopped c_stopPart t_signs t_length) (fun u : (Nat → Nat) × (Nat → Nat) × (Nat → Nat) × (JT) => (wX cI cJ cC cG h9 hn ap (u.1) ht h0 (u.2.1) (u.2.2.1) pc (u.2.2.2) hasS cnt snp G c_mover c_phase c_dice c_stake c_cube c_pieces0 c_pieces1 c_score0 c_score1 c_hits0 c_hits1 c_stopped c_stopPart t_signs t_length)) r := by
  refine k_st_iE (cc := cX9_shotsByKinds) (maxL := 2) (by decide) rfl (Nat.le_of_ble_eq_true rfl) ?_
  intro p e z m below meth c A hx hb hr hml hts hown hlocks hsz hN hA hK hP hD hS ls hl
  have hown : z.vm.findClass RX9 = some m.cls := hown
  have hl : lv_has ls 2 [(0, .ref h9), (1, .int a1)] := hl
  unfold mX9_shotsByKinds at hm
  refine lv_iload_n hx hb dX9_shotsByKinds_0 rfl (lv_at hl 1 rfl) ?_
  obtain ⟨r1, hc1, hm⟩ := k_bds hm
  refine k_i_0 (k_rS (As := [.int a1]) (rest := []) ⟨hx, hb, hml, hown, hts⟩ hK hN k_P0 (k_D0 (A := A)) (zX9_isPoint hc1) (va_cwS 1 hts gX9_shotsByKinds_X9_isPoint rfl rfl rfl (by decide +kernel) ⟨Nat.le_of_ble_eq_true rfl, Nat.le_of_ble_eq_true rfl⟩) rfl hl.1 rfl (Nat.le_of_ble_eq_true rfl) dX9_shotsByKinds_1 ⟨Nat.zero_le _, Nat.zero_le _⟩) hP hS hA (fun H locs hP hS => ?_)
  refine lv_if_ne (tgt := 15) hx hb dX9_shotsByKinds_4 (by decide) (fun cc4 => ?_) (fun cc4 => ?_)
  · have hm := k_in cc4 hm
    refine lv_aload_n hx hb dX9_shotsByKinds_15 rfl (lv_at hl 0 rfl) ?_
    refine lv_iload_n hx hb dX9_shotsByKinds_16 rfl (lv_at hl 1 rfl) ?_
    obtain ⟨r2, hc17, hm⟩ := k_bds hm
    refine k_i_sE (k_rV (As := [.int a1]) (rest := []) ⟨hx, hb, hml, hown, hts⟩ hK hN hP hD (zX9_shotsKindByKind hc17) (cwV 1 hts gX9_shotsByKinds_X9_shotsKindByKind rfl rfl rfl (by decide +kernel) ⟨Nat.le_of_ble_eq_true rfl, Nat.le_of_ble_eq_true rfl⟩) rfl rfl rfl hl.1 rfl (Nat.le_of_ble_eq_true rfl) dX9_shotsByKinds_17 ⟨Nat.zero_le _, Nat.zero_le _⟩) hD hS hA (fun u9 H locs hP hD hS => ?_)
    obtain ⟨u3, u4, u5, u6⟩ := u9
    have hP : va_P D vwCl (wX cI cJ cC cG h9 hn ap u3 ht h0 u4 u5 pc u6 hasS cnt snp G c_mover c_phase c_dice c_stake c_cube c_pieces0 c_pieces1 c_score0 c_score1 c_hits0 c_hits1 c_stopped c_stopPart t_signs t_length) H := hP
    have hD : va_D A (wX cI cJ cC cG h9 hn ap u3 ht h0 u4 u5 pc u6 hasS cnt snp G c_mover c_phase c_dice c_stake c_cube c_pieces0 c_pieces1 c_score0 c_score1 c_hits0 c_hits1 c_stopped c_stopPart t_signs t_length) := hD
    cases hm
    exact k_end_iE (u3, u4, u5, u6) hx hb hr hlocks hK hP hD hS dX9_shotsByKinds_20
  · have hm := k_ip cc4 hm
    cases hm

abbrev rmX9_entering : Room := { frames := 2, cells := 0, slots := 0, locals := 45 }
set_option maxHeartbeats 4000000 in
set_option maxRecDepth 100000 in
theorem zX9_entering {l : Launch} {D : va_G} {cI cJ cC cG : ClassId} {sz : Nat} {h9 hn h0 : Nat} {ap q ht pa pb pc : Nat → Nat} {jk : JT} {hasS : Bool} {cnt : Int32} {snp : GT} {G : Nat → GT} {c_mover : Int32} {c_phase : Int32} {c_dice : Int32} {c_stake : Int32} {c_cube : Int32} {c_pieces0 : Int64} {c_pieces1 : Int64} {c_score0 : Int32} {c_score1 : Int32} {c_hits0 : Int32} {c_hits1 : Int32} {c_stopped : Bool} {c_stopPart : Int32} {t_signs : Nat → Int32} {t_length : Int32} {a1 : Int32} {r : Int32} (hm : mX9_entering c_pieces0 c_pieces1 a1 = some (r)) : k_MiE l yX9_entering wsX9_entering rmX9_entering D (kT cI cJ cC cG) sz ([.ref h9, .int a1] : List Value) (wX cI cJ cC cG h9 hn ap q ht h0 pa pb pc jk hasS cnt snp G c_mover c_phase c_dice c_stake c_cube c_pieces0 c_pieces1 c_score0 c_score1 c_hits0 c_hits1 c_stopped c_stopPart t_signs t_length) (fun u : (Nat → Nat) × (Nat → Nat) × (Nat → Nat) × (JT) => (wX cI cJ cC cG h9 hn ap (u.1) ht h0 (u.2.1) (u.2.2.1) pc (u.2.2.2) hasS cnt snp G c_mover c_phase c_dice c_stake c_cube c_pieces0 c_pieces1 c_score0 c_score1 c_hits0 c_hits1 c_stopped c_stopPart t_signs t_length)) r := by
  refine k_st_iE (cc := cX9_entering) (maxL := 2) (by decide) rfl (Nat.le_of_ble_eq_true rfl) ?_
  intro p e z m below meth c A hx hb hr hml hts hown hlocks hsz hN hA hK hP hD hS ls hl
  have hown : z.vm.findClass RX9 = some m.cls := hown
  have hinX9 : ∀ w ∈ wsX90, w ∈ wsX9_entering := by decide +kernel
  have fl10 := hts (.fieldLink RX9 10 "MagpieRuns" "now" "LMagpieRuns$Game;") (by decide +kernel)
  have hl : lv_has ls 2 [(0, .ref h9), (1, .int a1)] := hl
  unfold mX9_entering at hm
  refine lv_iload_n hx hb dX9_entering_0 rfl (lv_at hl 1 rfl) ?_
  obtain ⟨r1, hc1, hm⟩ := k_bds hm
  refine k_i_0 (k_rS (As := [.int a1]) (rest := []) ⟨hx, hb, hml, hown, hts⟩ hK hN k_P0 (k_D0 (A := A)) (zX9_isPlayer hc1) (va_cwS 1 hts gX9_entering_X9_isPlayer rfl rfl rfl (by decide +kernel) ⟨Nat.le_of_ble_eq_true rfl, Nat.le_of_ble_eq_true rfl⟩) rfl hl.1 rfl (Nat.le_of_ble_eq_true rfl) dX9_entering_1 ⟨Nat.zero_le _, Nat.zero_le _⟩) hP hS hA (fun H locs hP hS => ?_)
  refine lv_if_ne (tgt := 15) hx hb dX9_entering_4 (by decide) (fun cc4 => ?_) (fun cc4 => ?_)
  · have hm := k_in cc4 hm
    refine lv_aload_n hx hb dX9_entering_15 rfl (lv_at hl 0 rfl) ?_
    refine va_get (D := D) (ci := 5) (v := .ref hn) (C := RX9) (T := TX9) (N := 4) hx hb hts hinX9 hown hK hP 0 rfl rfl 0 (by decide) fl10 (fun _ h9 => h9) rfl dX9_entering_16 ?_
    refine lv_iconst (v := 1) hx hb dX9_entering_19 (by decide) ?_
    refine lv_iload_n hx hb dX9_entering_20 rfl (lv_at hl 1 rfl) ?_
    refine lv_isub hx hb dX9_entering_21 ?_
    obtain ⟨r2, hc22, hm⟩ := k_bds hm
    have hPc : va_P D vwCl (wG hn c_mover c_phase c_dice c_stake c_cube c_pieces0 c_pieces1 c_score0 c_score1 c_hits0 c_hits1 c_stopped c_stopPart) _ := k_Psub hP [1] rfl
    have hDc : va_D A (wG hn c_mover c_phase c_dice c_stake c_cube c_pieces0 c_pieces1 c_score0 c_score1 c_hits0 c_hits1 c_stopped c_stopPart) := hD.sub [1] (by decide) rfl
    refine k_l_c (Wf := (wX cI cJ cC cG h9 hn ap q ht h0 pa pb pc jk hasS cnt snp G c_mover c_phase c_dice c_stake c_cube c_pieces0 c_pieces1 c_score0 c_score1 c_hits0 c_hits1 c_stopped c_stopPart t_signs t_length)) [1] [0, 2, 3, 4, 5, 6, 7, 8, 9, 10, 11, 12, 13, 14, 15, 16, 17, 18, 19, 20, 21, 22, 23, 24] [0, 24, 1, 2, 3, 4, 5, 6, 7, 8, 9, 10, 11, 12, 13, 14, 15, 16, 17, 18, 19, 20, 21, 22, 23] (k_rV (As := [.int (1 - a1)]) (rest := []) ⟨hx, hb, hml, hown, hts⟩ hK hN hPc hDc (zX1_piecesOf hc22) (cwV 1 hts gX9_entering_X1_piecesOf rfl rfl rfl (by decide +kernel) ⟨Nat.le_of_ble_eq_true rfl, Nat.le_of_ble_eq_true rfl⟩) rfl rfl rfl hl.1 rfl (Nat.le_of_ble_eq_true rfl) dX9_entering_22 ⟨Nat.zero_le _, Nat.zero_le _⟩) hP hD hS hA rfl rfl (by decide) (by decide) rfl (by decide) (fun H locs hP hD hS => ?_)
    obtain ⟨r3, hc25, hm⟩ := k_bds hm
    refine k_i_0 (k_rS (As := [.long r2]) (rest := []) ⟨hx, hb, hml, hown, hts⟩ hK hN k_P0 (k_D0 (A := A)) (zX6_rollsThatEnter hc25) (va_cwS 1 hts gX9_entering_X6_rollsThatEnter rfl rfl rfl (by decide +kernel) ⟨Nat.le_of_ble_eq_true rfl, Nat.le_of_ble_eq_true rfl⟩) rfl hl.1 rfl (Nat.le_of_ble_eq_true rfl) dX9_entering_25 ⟨Nat.zero_le _, Nat.zero_le _⟩) hP hS hA (fun H locs hP hS => ?_)
    cases hm
    exact k_end_iE (q, pa, pb, jk) hx hb hr hlocks hK hP hD hS dX9_entering_28
  · have hm := k_ip cc4 hm
    cases hm

abbrev rmX9_blotsBehind : Room := { frames := 12, cells := 0, slots := 0, locals := 364 }
set_option maxHeartbeats 4000000 in
set_option maxRecDepth 100000 in
theorem zX9_blotsBehind {l : Launch} {D : va_G} {cI cJ cC cG : ClassId} {sz : Nat} {h9 hn h0 : Nat} {ap q ht pa pb pc : Nat → Nat} {jk : JT} {hasS : Bool} {cnt : Int32} {snp : GT} {G : Nat → GT} {c_mover : Int32} {c_phase : Int32} {c_dice : Int32} {c_stake : Int32} {c_cube : Int32} {c_pieces0 : Int64} {c_pieces1 : Int64} {c_score0 : Int32} {c_score1 : Int32} {c_hits0 : Int32} {c_hits1 : Int32} {c_stopped : Bool} {c_stopPart : Int32} {t_signs : Nat → Int32} {t_length : Int32} {a1 : Int32} {a2 : Int32} {r : Int32} (hm : mX9_blotsBehind c_mover c_dice c_pieces0 c_pieces1 a1 a2 = some (r)) : k_MiE l yX9_blotsBehind wsX9_blotsBehind rmX9_blotsBehind D (kT cI cJ cC cG) sz ([.ref h9, .int a1, .int a2] : List Value) (wX cI cJ cC cG h9 hn ap q ht h0 pa pb pc jk hasS cnt snp G c_mover c_phase c_dice c_stake c_cube c_pieces0 c_pieces1 c_score0 c_score1 c_hits0 c_hits1 c_stopped c_stopPart t_signs t_length) (fun u : (Nat → Nat) × (Nat → Nat) × (Nat → Nat) × (JT) => (wX cI cJ cC cG h9 hn ap (u.1) ht h0 (u.2.1) (u.2.2.1) pc (u.2.2.2) hasS cnt snp G c_mover c_phase c_dice c_stake c_cube c_pieces0 c_pieces1 c_score0 c_score1 c_hits0 c_hits1 c_stopped c_stopPart t_signs t_length)) r := by
  refine k_st_iE (cc := cX9_blotsBehind) (maxL := 4) (by decide) rfl (Nat.le_of_ble_eq_true rfl) ?_
  intro p e z m below meth c A hx hb hr hml hts hown hlocks hsz hN hA hK hP hD hS ls hl
  have hown : z.vm.findClass RX9 = some m.cls := hown
  have hinX1 : ∀ w ∈ wsX10, w ∈ wsX9_blotsBehind := by decide +kernel
  have hinX9 : ∀ w ∈ wsX90, w ∈ wsX9_blotsBehind := by decide +kernel
  have fl10 := hts (.fieldLink RX9 10 "MagpieRuns" "now" "LMagpieRuns$Game;") (by decide +kernel)
  have fl89 := hts (.fieldLink RX9 89 "MagpieRuns$Game" "mover" "I") (by decide +kernel)
  have hl : lv_has ls 4 [(0, .ref h9), (1, .int a1), (2, .int a2)] := hl
  unfold mX9_blotsBehind at hm
  refine lv_iload_n hx hb dX9_blotsBehind_0 rfl (lv_at hl 1 rfl) ?_
  obtain ⟨r1, hc1, hm⟩ := k_bds hm
  refine k_i_0 (k_rS (As := [.int a1]) (rest := []) ⟨hx, hb, hml, hown, hts⟩ hK hN k_P0 (k_D0 (A := A)) (zX9_isPointOrBar hc1) (va_cwS 1 hts gX9_blotsBehind_X9_isPointOrBar rfl rfl rfl (by decide +kernel) ⟨Nat.le_of_ble_eq_true rfl, Nat.le_of_ble_eq_true rfl⟩) rfl hl.1 rfl (Nat.le_of_ble_eq_true rfl) dX9_blotsBehind_1 ⟨Nat.zero_le _, Nat.zero_le _⟩) hP hS hA (fun H locs hP hS => ?_)
  refine lv_if_ne (tgt := 15) hx hb dX9_blotsBehind_4 (by decide) (fun cc4 => ?_) (fun cc4 => ?_)
  · have hm := k_in cc4 hm
    refine lv_iload_n hx hb dX9_blotsBehind_15 rfl (lv_at hl 2 rfl) ?_
    obtain ⟨r2, hc16, hm⟩ := k_bds hm
    refine k_i_0 (k_rS (As := [.int a2]) (rest := []) ⟨hx, hb, hml, hown, hts⟩ hK hN k_P0 (k_D0 (A := A)) (zX0_isDie hc16) (va_cwS 1 hts gX9_blotsBehind_X0_isDie rfl rfl rfl (by decide +kernel) ⟨Nat.le_of_ble_eq_true rfl, Nat.le_of_ble_eq_true rfl⟩) rfl hl.1 rfl (Nat.le_of_ble_eq_true rfl) dX9_blotsBehind_16 ⟨Nat.zero_le _, Nat.zero_le _⟩) hP hS hA (fun H locs hP hS => ?_)
    refine lv_if_ne (tgt := 30) hx hb dX9_blotsBehind_19 (by decide) (fun cc19 => ?_) (fun cc19 => ?_)
    · have hm := k_in cc19 hm
      refine lv_aload_n hx hb dX9_blotsBehind_30 rfl (lv_at hl 0 rfl) ?_
      refine va_get (D := D) (ci := 5) (v := .ref hn) (C := RX9) (T := TX9) (N := 4) hx hb hts hinX9 hown hK hP 0 rfl rfl 0 (by decide) fl10 (fun _ h9 => h9) rfl dX9_blotsBehind_31 ?_
      refine lv_iload_n hx hb dX9_blotsBehind_34 rfl (lv_at hl 1 rfl) ?_
      refine lv_iload_n hx hb dX9_blotsBehind_35 rfl (lv_at hl 2 rfl) ?_
      obtain ⟨r3, hc36, hm⟩ := k_bds hm
      have hPc : va_P D vwCl (wG hn c_mover c_phase c_dice c_stake c_cube c_pieces0 c_pieces1 c_score0 c_score1 c_hits0 c_hits1 c_stopped c_stopPart) _ := k_Psub hP [1] rfl
      have hDc : va_D A (wG hn c_mover c_phase c_dice c_stake c_cube c_pieces0 c_pieces1 c_score0 c_score1 c_hits0 c_hits1 c_stopped c_stopPart) := hD.sub [1] (by decide) rfl
      refine k_i_c (Wf := (wX cI cJ cC cG h9 hn ap q ht h0 pa pb pc jk hasS cnt snp G c_mover c_phase c_dice c_stake c_cube c_pieces0 c_pieces1 c_score0 c_score1 c_hits0 c_hits1 c_stopped c_stopPart t_signs t_length)) [1] [0, 2, 3, 4, 5, 6, 7, 8, 9, 10, 11, 12, 13, 14, 15, 16, 17, 18, 19, 20, 21, 22, 23, 24] [0, 24, 1, 2, 3, 4, 5, 6, 7, 8, 9, 10, 11, 12, 13, 14, 15, 16, 17, 18, 19, 20, 21, 22, 23] (k_rV (As := [.int a1, .int a2]) (rest := []) ⟨hx, hb, hml, hown, hts⟩ hK hN hPc hDc (zX1_reasonAgainst hc36) (cwV 2 hts gX9_blotsBehind_X1_reasonAgainst rfl rfl rfl (by decide +kernel) ⟨Nat.le_of_ble_eq_true rfl, Nat.le_of_ble_eq_true rfl⟩) rfl rfl rfl hl.1 rfl (Nat.le_of_ble_eq_true rfl) dX9_blotsBehind_36 ⟨Nat.zero_le _, Nat.zero_le _⟩) hP hD hS hA rfl rfl (by decide) (by decide) rfl (by decide) (fun H locs hP hD hS => ?_)
      refine lv_if_eq (tgt := 50) hx hb dX9_blotsBehind_39 (by decide) (fun cc39 => ?_) (fun cc39 => ?_)
      · have hm := k_ip cc39 hm
        refine lv_aload_n hx hb dX9_blotsBehind_50 rfl (lv_at hl 0 rfl) ?_
        refine va_get (D := D) (ci := 5) (v := .ref hn) (C := RX9) (T := TX9) (N := 4) hx hb hts hinX9 hown hK hP 0 rfl rfl 0 (by decide) fl10 (fun _ h9 => h9) rfl dX9_blotsBehind_51 ?_
        refine va_get (D := D) (ci := 0) (v := .int c_mover) (C := RX1) (T := TX1) (N := 13) hx hb hts hinX1 hown hK hP 1 rfl rfl 0 (by decide) fl89 (fun _ h9 => h9) rfl dX9_blotsBehind_54 ?_
        refine lv_iload_n hx hb dX9_blotsBehind_57 rfl (lv_at hl 1 rfl) ?_
        obtain ⟨r4, hc58, hm⟩ := k_bds hm
        refine k_i_0 (k_rS (As := [.int c_mover, .int a1]) (rest := []) ⟨hx, hb, hml, hown, hts⟩ hK hN k_P0 (k_D0 (A := A)) (zX1_wayOf hc58) (va_cwS 2 hts gX9_blotsBehind_X1_wayOf rfl rfl rfl (by decide +kernel) ⟨Nat.le_of_ble_eq_true rfl, Nat.le_of_ble_eq_true rfl⟩) rfl hl.1 rfl (Nat.le_of_ble_eq_true rfl) dX9_blotsBehind_58 ⟨Nat.zero_le _, Nat.zero_le _⟩) hP hS hA (fun H locs hP hS => ?_)
        refine lv_istore_n (lv' := [(3, .int r4), (0, .ref h9), (1, .int a1), (2, .int a2)]) hx hb dX9_blotsBehind_61 rfl hl (by decide) rfl (fun ls hl => ?_)
        refine lv_aload_n hx hb dX9_blotsBehind_62 rfl (lv_at hl 1 rfl) ?_
        refine va_get (D := D) (ci := 5) (v := .ref hn) (C := RX9) (T := TX9) (N := 4) hx hb hts hinX9 hown hK hP 0 rfl rfl 0 (by decide) fl10 (fun _ h9 => h9) rfl dX9_blotsBehind_63 ?_
        obtain ⟨r5, hc66, hm⟩ := k_bds hm
        have hPc : va_P D vwCl (wG hn c_mover c_phase c_dice c_stake c_cube c_pieces0 c_pieces1 c_score0 c_score1 c_hits0 c_hits1 c_stopped c_stopPart) _ := k_Psub hP [1] rfl
        have hDc : va_D A (wG hn c_mover c_phase c_dice c_stake c_cube c_pieces0 c_pieces1 c_score0 c_score1 c_hits0 c_hits1 c_stopped c_stopPart) := hD.sub [1] (by decide) rfl
        refine k_l_c (Wf := (wX cI cJ cC cG h9 hn ap q ht h0 pa pb pc jk hasS cnt snp G c_mover c_phase c_dice c_stake c_cube c_pieces0 c_pieces1 c_score0 c_score1 c_hits0 c_hits1 c_stopped c_stopPart t_signs t_length)) [1] [0, 2, 3, 4, 5, 6, 7, 8, 9, 10, 11, 12, 13, 14, 15, 16, 17, 18, 19, 20, 21, 22, 23, 24] [0, 24, 1, 2, 3, 4, 5, 6, 7, 8, 9, 10, 11, 12, 13, 14, 15, 16, 17, 18, 19, 20, 21, 22, 23] (k_rV (As := []) (rest := []) ⟨hx, hb, hml, hown, hts⟩ hK hN hPc hDc (zX1_moversPieces hc66) (cwV 0 hts gX9_blotsBehind_X1_moversPieces rfl rfl rfl (by decide +kernel) ⟨Nat.le_of_ble_eq_true rfl, Nat.le_of_ble_eq_true rfl⟩) rfl rfl rfl hl.1 rfl (Nat.le_of_ble_eq_true rfl) dX9_blotsBehind_66 ⟨Nat.zero_le _, Nat.zero_le _⟩) hP hD hS hA rfl rfl (by decide) (by decide) rfl (by decide) (fun H locs hP hD hS => ?_)
        refine lv_iload_n hx hb dX9_blotsBehind_69 rfl (lv_at hl 0 rfl) ?_
        refine lv_iload_n hx hb dX9_blotsBehind_70 rfl (lv_at hl 3 rfl) ?_
        obtain ⟨r6, hc71, hm⟩ := k_bds hm
        refine k_l_0 (k_rS (As := [.long r5, .int r4, .int a2]) (rest := []) ⟨hx, hb, hml, hown, hts⟩ hK hN k_P0 (k_D0 (A := A)) (zX7_mineBehind hc71) (va_cwS 3 hts gX9_blotsBehind_X7_mineBehind rfl rfl rfl (by decide +kernel) ⟨Nat.le_of_ble_eq_true rfl, Nat.le_of_ble_eq_true rfl⟩) rfl hl.1 rfl (Nat.le_of_ble_eq_true rfl) dX9_blotsBehind_71 ⟨Nat.zero_le _, Nat.zero_le _⟩) hP hS hA (fun H locs hP hS => ?_)
        obtain ⟨r7, hc74, hm⟩ := k_bds hm
        refine k_i_0 (k_rS (As := [.long r6]) (rest := []) ⟨hx, hb, hml, hown, hts⟩ hK hN k_P0 (k_D0 (A := A)) (zX3_singles hc74) (va_cwS 1 hts gX9_blotsBehind_X3_singles rfl rfl rfl (by decide +kernel) ⟨Nat.le_of_ble_eq_true rfl, Nat.le_of_ble_eq_true rfl⟩) rfl hl.1 rfl (Nat.le_of_ble_eq_true rfl) dX9_blotsBehind_74 ⟨Nat.zero_le _, Nat.zero_le _⟩) hP hS hA (fun H locs hP hS => ?_)
        cases hm
        exact k_end_iE (q, pa, pb, jk) hx hb hr hlocks hK hP hD hS dX9_blotsBehind_77
      · have hm := k_in cc39 hm
        cases hm
    · have hm := k_ip cc19 hm
      cases hm
  · have hm := k_ip cc4 hm
    cases hm

abbrev rmX9_shareOfMover : Room := { frames := 2, cells := 0, slots := 0, locals := 45 }
set_option maxHeartbeats 4000000 in
set_option maxRecDepth 100000 in
theorem zX9_shareOfMover {l : Launch} {D : va_G} {cI cJ cC cG : ClassId} {sz : Nat} {h9 hn h0 : Nat} {ap q ht pa pb pc : Nat → Nat} {jk : JT} {hasS : Bool} {cnt : Int32} {snp : GT} {G : Nat → GT} {c_mover : Int32} {c_phase : Int32} {c_dice : Int32} {c_stake : Int32} {c_cube : Int32} {c_pieces0 : Int64} {c_pieces1 : Int64} {c_score0 : Int32} {c_score1 : Int32} {c_hits0 : Int32} {c_hits1 : Int32} {c_stopped : Bool} {c_stopPart : Int32} {t_signs : Nat → Int32} {t_length : Int32} {r : UInt64} (hm : mX9_shareOfMover c_mover c_pieces0 c_pieces1 = some (r)) : k_MdE l yX9_shareOfMover wsX9_shareOfMover rmX9_shareOfMover D (kT cI cJ cC cG) sz ([.ref h9] : List Value) (wX cI cJ cC cG h9 hn ap q ht h0 pa pb pc jk hasS cnt snp G c_mover c_phase c_dice c_stake c_cube c_pieces0 c_pieces1 c_score0 c_score1 c_hits0 c_hits1 c_stopped c_stopPart t_signs t_length) (fun u : (Nat → Nat) × (Nat → Nat) × (Nat → Nat) × (JT) => (wX cI cJ cC cG h9 hn ap (u.1) ht h0 (u.2.1) (u.2.2.1) pc (u.2.2.2) hasS cnt snp G c_mover c_phase c_dice c_stake c_cube c_pieces0 c_pieces1 c_score0 c_score1 c_hits0 c_hits1 c_stopped c_stopPart t_signs t_length)) r := by
  refine k_st_dE (cc := cX9_shareOfMover) (maxL := 3) (by decide) rfl (Nat.le_of_ble_eq_true rfl) ?_
  intro p e z m below meth c A hx hb hr hml hts hown hlocks hsz hN hA hK hP hD hS ls hl
  have hown : z.vm.findClass RX9 = some m.cls := hown
  have hinX9 : ∀ w ∈ wsX90, w ∈ wsX9_shareOfMover := by decide +kernel
  have fl10 := hts (.fieldLink RX9 10 "MagpieRuns" "now" "LMagpieRuns$Game;") (by decide +kernel)
  have hl : lv_has ls 3 [(0, .ref h9)] := hl
  unfold mX9_shareOfMover at hm
  refine lv_aload_n hx hb dX9_shareOfMover_0 rfl (lv_at hl 0 rfl) ?_
  refine va_get (D := D) (ci := 5) (v := .ref hn) (C := RX9) (T := TX9) (N := 4) hx hb hts hinX9 hown hK hP 0 rfl rfl 0 (by decide) fl10 (fun _ h9 => h9) rfl dX9_shareOfMover_1 ?_
  obtain ⟨r1, hc4, hm⟩ := k_bds hm
  have hPc : va_P D vwCl (wG hn c_mover c_phase c_dice c_stake c_cube c_pieces0 c_pieces1 c_score0 c_score1 c_hits0 c_hits1 c_stopped c_stopPart) _ := k_Psub hP [1] rfl
  have hDc : va_D A (wG hn c_mover c_phase c_dice c_stake c_cube c_pieces0 c_pieces1 c_score0 c_score1 c_hits0 c_hits1 c_stopped c_stopPart) := hD.sub [1] (by decide) rfl
  refine k_l_c (Wf := (wX cI cJ cC cG h9 hn ap q ht h0 pa pb pc jk hasS cnt snp G c_mover c_phase c_dice c_stake c_cube c_pieces0 c_pieces1 c_score0 c_score1 c_hits0 c_hits1 c_stopped c_stopPart t_signs t_length)) [1] [0, 2, 3, 4, 5, 6, 7, 8, 9, 10, 11, 12, 13, 14, 15, 16, 17, 18, 19, 20, 21, 22, 23, 24] [0, 24, 1, 2, 3, 4, 5, 6, 7, 8, 9, 10, 11, 12, 13, 14, 15, 16, 17, 18, 19, 20, 21, 22, 23] (k_rV (As := []) (rest := []) ⟨hx, hb, hml, hown, hts⟩ hK hN hPc hDc (zX1_moversPieces hc4) (cwV 0 hts gX9_shareOfMover_X1_moversPieces rfl rfl rfl (by decide +kernel) ⟨Nat.le_of_ble_eq_true rfl, Nat.le_of_ble_eq_true rfl⟩) rfl rfl rfl hl.1 rfl (Nat.le_of_ble_eq_true rfl) dX9_shareOfMover_4 ⟨Nat.zero_le _, Nat.zero_le _⟩) hP hD hS hA rfl rfl (by decide) (by decide) rfl (by decide) (fun H locs hP hD hS => ?_)
  obtain ⟨r2, hc7, hm⟩ := k_bds hm
  refine k_i_0 (k_rS (As := [.long r1]) (rest := []) ⟨hx, hb, hml, hown, hts⟩ hK hN k_P0 (k_D0 (A := A)) (zX3_sumOfWays hc7) (va_cwS 1 hts gX9_shareOfMover_X3_sumOfWays rfl rfl rfl (by decide +kernel) ⟨Nat.le_of_ble_eq_true rfl, Nat.le_of_ble_eq_true rfl⟩) rfl hl.1 rfl (Nat.le_of_ble_eq_true rfl) dX9_shareOfMover_7 ⟨Nat.zero_le _, Nat.zero_le _⟩) hP hS hA (fun H locs hP hS => ?_)
  refine lv_istore_n (lv' := [(1, .int r2), (0, .ref h9)]) hx hb dX9_shareOfMover_10 rfl hl (by decide) rfl (fun ls hl => ?_)
  refine lv_aload_n hx hb dX9_shareOfMover_11 rfl (lv_at hl 1 rfl) ?_
  refine va_get (D := D) (ci := 5) (v := .ref hn) (C := RX9) (T := TX9) (N := 4) hx hb hts hinX9 hown hK hP 0 rfl rfl 0 (by decide) fl10 (fun _ h9 => h9) rfl dX9_shareOfMover_12 ?_
  obtain ⟨r3, hc15, hm⟩ := k_bds hm
  have hPc : va_P D vwCl (wG hn c_mover c_phase c_dice c_stake c_cube c_pieces0 c_pieces1 c_score0 c_score1 c_hits0 c_hits1 c_stopped c_stopPart) _ := k_Psub hP [1] rfl
  have hDc : va_D A (wG hn c_mover c_phase c_dice c_stake c_cube c_pieces0 c_pieces1 c_score0 c_score1 c_hits0 c_hits1 c_stopped c_stopPart) := hD.sub [1] (by decide) rfl
  refine k_l_c (Wf := (wX cI cJ cC cG h9 hn ap q ht h0 pa pb pc jk hasS cnt snp G c_mover c_phase c_dice c_stake c_cube c_pieces0 c_pieces1 c_score0 c_score1 c_hits0 c_hits1 c_stopped c_stopPart t_signs t_length)) [1] [0, 2, 3, 4, 5, 6, 7, 8, 9, 10, 11, 12, 13, 14, 15, 16, 17, 18, 19, 20, 21, 22, 23, 24] [0, 24, 1, 2, 3, 4, 5, 6, 7, 8, 9, 10, 11, 12, 13, 14, 15, 16, 17, 18, 19, 20, 21, 22, 23] (k_rV (As := []) (rest := []) ⟨hx, hb, hml, hown, hts⟩ hK hN hPc hDc (zX1_othersPieces hc15) (cwV 0 hts gX9_shareOfMover_X1_othersPieces rfl rfl rfl (by decide +kernel) ⟨Nat.le_of_ble_eq_true rfl, Nat.le_of_ble_eq_true rfl⟩) rfl rfl rfl hl.1 rfl (Nat.le_of_ble_eq_true rfl) dX9_shareOfMover_15 ⟨Nat.zero_le _, Nat.zero_le _⟩) hP hD hS hA rfl rfl (by decide) (by decide) rfl (by decide) (fun H locs hP hD hS => ?_)
  obtain ⟨r4, hc18, hm⟩ := k_bds hm
  refine k_i_0 (k_rS (As := [.long r3]) (rest := []) ⟨hx, hb, hml, hown, hts⟩ hK hN k_P0 (k_D0 (A := A)) (zX3_sumOfWays hc18) (va_cwS 1 hts gX9_shareOfMover_X3_sumOfWays rfl rfl rfl (by decide +kernel) ⟨Nat.le_of_ble_eq_true rfl, Nat.le_of_ble_eq_true rfl⟩) rfl hl.1 rfl (Nat.le_of_ble_eq_true rfl) dX9_shareOfMover_18 ⟨Nat.zero_le _, Nat.zero_le _⟩) hP hS hA (fun H locs hP hS => ?_)
  refine lv_istore_n (lv' := [(2, .int r4), (1, .int r2), (0, .ref h9)]) hx hb dX9_shareOfMover_21 rfl hl (by decide) rfl (fun ls hl => ?_)
  refine lv_iload_n hx hb dX9_shareOfMover_22 rfl (lv_at hl 1 rfl) ?_
  refine lv_iload_n hx hb dX9_shareOfMover_23 rfl (lv_at hl 0 rfl) ?_
  refine lv_iadd hx hb dX9_shareOfMover_24 ?_
  refine lv_if_ne (tgt := 32) hx hb dX9_shareOfMover_25 (by decide) (fun cc25 => ?_) (fun cc25 => ?_)
  · have hm := k_in cc25 hm
    refine lv_iload_n hx hb dX9_shareOfMover_32 rfl (lv_at hl 0 rfl) ?_
    refine lv_i2d hx hb dX9_shareOfMover_33 ?_
    refine lv_iload_n hx hb dX9_shareOfMover_34 rfl (lv_at hl 1 rfl) ?_
    refine lv_iload_n hx hb dX9_shareOfMover_35 rfl (lv_at hl 0 rfl) ?_
    refine lv_iadd hx hb dX9_shareOfMover_36 ?_
    refine lv_i2d hx hb dX9_shareOfMover_37 ?_
    obtain ⟨gd38, hm⟩ := k_gns hm
    refine lv_ddiv hx hb dX9_shareOfMover_38 (k_nns gd38) ?_
    cases hm
    exact k_end_dE (q, pa, pb, jk) hx hb hr hlocks hK hP hD hS dX9_shareOfMover_39
  · have hm := k_ip cc25 hm
    refine lv_ldc2d hx hb hown (hts (.constantDouble RX9 300 4602678819172646912) (by decide +kernel)) dX9_shareOfMover_28 ?_
    cases hm
    exact k_end_dE (q, pa, pb, jk) hx hb hr hlocks hK hP hD hS dX9_shareOfMover_31

abbrev rmX9_lead : Room := { frames := 3, cells := 0, slots := 0, locals := 67 }
set_option maxHeartbeats 4000000 in
set_option maxRecDepth 100000 in
theorem zX9_lead {l : Launch} {D : va_G} {cI cJ cC cG : ClassId} {sz : Nat} {h9 hn h0 : Nat} {ap q ht pa pb pc : Nat → Nat} {jk : JT} {hasS : Bool} {cnt : Int32} {snp : GT} {G : Nat → GT} {c_mover : Int32} {c_phase : Int32} {c_dice : Int32} {c_stake : Int32} {c_cube : Int32} {c_pieces0 : Int64} {c_pieces1 : Int64} {c_score0 : Int32} {c_score1 : Int32} {c_hits0 : Int32} {c_hits1 : Int32} {c_stopped : Bool} {c_stopPart : Int32} {t_signs : Nat → Int32} {t_length : Int32} {r : UInt64} (hm : mX9_lead c_mover c_pieces0 c_pieces1 = some (r)) : k_MdE l yX9_lead wsX9_lead rmX9_lead D (kT cI cJ cC cG) sz ([.ref h9] : List Value) (wX cI cJ cC cG h9 hn ap q ht h0 pa pb pc jk hasS cnt snp G c_mover c_phase c_dice c_stake c_cube c_pieces0 c_pieces1 c_score0 c_score1 c_hits0 c_hits1 c_stopped c_stopPart t_signs t_length) (fun u : (Nat → Nat) × (Nat → Nat) × (Nat → Nat) × (JT) => (wX cI cJ cC cG h9 hn ap (u.1) ht h0 (u.2.1) (u.2.2.1) pc (u.2.2.2) hasS cnt snp G c_mover c_phase c_dice c_stake c_cube c_pieces0 c_pieces1 c_score0 c_score1 c_hits0 c_hits1 c_stopped c_stopPart t_signs t_length)) r := by
  refine k_st_dE (cc := cX9_lead) (maxL := 1) (by decide) rfl (Nat.le_of_ble_eq_true rfl) ?_
  intro p e z m below meth c A hx hb hr hml hts hown hlocks hsz hN hA hK hP hD hS ls hl
  have hown : z.vm.findClass RX9 = some m.cls := hown
  have hl : lv_has ls 1 [(0, .ref h9)] := hl
  unfold mX9_lead at hm
  refine lv_aload_n hx hb dX9_lead_0 rfl (lv_at hl 0 rfl) ?_
  obtain ⟨r1, hc1, hm⟩ := k_bds hm
  refine k_d_sE (k_rV (As := []) (rest := []) ⟨hx, hb, hml, hown, hts⟩ hK hN hP hD (zX9_shareOfMover hc1) (cwV 0 hts gX9_lead_X9_shareOfMover rfl rfl rfl (by decide +kernel) ⟨Nat.le_of_ble_eq_true rfl, Nat.le_of_ble_eq_true rfl⟩) rfl rfl rfl hl.1 rfl (Nat.le_of_ble_eq_true rfl) dX9_lead_1 ⟨Nat.zero_le _, Nat.zero_le _⟩) hD hS hA (fun u9 H locs hP hD hS => ?_)
  obtain ⟨u2, u3, u4, u5⟩ := u9
  have hP : va_P D vwCl (wX cI cJ cC cG h9 hn ap u2 ht h0 u3 u4 pc u5 hasS cnt snp G c_mover c_phase c_dice c_stake c_cube c_pieces0 c_pieces1 c_score0 c_score1 c_hits0 c_hits1 c_stopped c_stopPart t_signs t_length) H := hP
  have hD : va_D A (wX cI cJ cC cG h9 hn ap u2 ht h0 u3 u4 pc u5 hasS cnt snp G c_mover c_phase c_dice c_stake c_cube c_pieces0 c_pieces1 c_score0 c_score1 c_hits0 c_hits1 c_stopped c_stopPart t_signs t_length) := hD
  cases hm
  exact k_end_dE (u2, u3, u4, u5) hx hb hr hlocks hK hP hD hS dX9_lead_4

