abbrev rmX1_copyFrom : Room := { frames := 0, cells := 0, slots := 0, locals := 0 }
set_option maxHeartbeats 4000000 in
set_option maxRecDepth 100000 in
theorem zX1_copyFrom {l : Launch} {D : va_G} {cI cJ cC cG : ClassId} {sz : Nat} {h0 h1 : Nat} {c_mover : Int32} {c_phase : Int32} {c_dice : Int32} {c_stake : Int32} {c_cube : Int32} {c_pieces0 : Int64} {c_pieces1 : Int64} {c_score0 : Int32} {c_score1 : Int32} {c_hits0 : Int32} {c_hits1 : Int32} {c_stopped : Bool} {c_stopPart : Int32} {o_mover : Int32} {o_phase : Int32} {o_dice : Int32} {o_stake : Int32} {o_cube : Int32} {o_pieces0 : Int64} {o_pieces1 : Int64} {o_score0 : Int32} {o_score1 : Int32} {o_hits0 : Int32} {o_hits1 : Int32} {o_stopped : Bool} {o_stopPart : Int32} {c_mover' : Int32} {c_phase' : Int32} {c_dice' : Int32} {c_stake' : Int32} {c_cube' : Int32} {c_pieces0' : Int64} {c_pieces1' : Int64} {c_score0' : Int32} {c_score1' : Int32} {c_hits0' : Int32} {c_hits1' : Int32} {c_stopped' : Bool} {c_stopPart' : Int32} (hm : mX1_copyFrom c_mover c_phase c_dice c_stake c_cube c_pieces0 c_pieces1 c_score0 c_score1 c_hits0 c_hits1 c_stopped c_stopPart o_mover o_phase o_dice o_stake o_cube o_pieces0 o_pieces1 o_score0 o_score1 o_hits0 o_hits1 o_stopped o_stopPart = some (c_mover', c_phase', c_dice', c_stake', c_cube', c_pieces0', c_pieces1', c_score0', c_score1', c_hits0', c_hits1', c_stopped', c_stopPart')) : k_Mv l yX1_copyFrom wsX1_copyFrom rmX1_copyFrom D (kT cI cJ cC cG) sz ([.ref h0, .ref h1] : List Value) (wG2 h0 h1 c_mover c_phase c_dice c_stake c_cube c_pieces0 c_pieces1 c_score0 c_score1 c_hits0 c_hits1 c_stopped c_stopPart o_mover o_phase o_dice o_stake o_cube o_pieces0 o_pieces1 o_score0 o_score1 o_hits0 o_hits1 o_stopped o_stopPart) (wG2 h0 h1 c_mover' c_phase' c_dice' c_stake' c_cube' c_pieces0' c_pieces1' c_score0' c_score1' c_hits0' c_hits1' c_stopped' c_stopPart' o_mover o_phase o_dice o_stake o_cube o_pieces0 o_pieces1 o_score0 o_score1 o_hits0 o_hits1 o_stopped o_stopPart) := by
  refine k_st_v (cc := cX1_copyFrom) (maxL := 2) (by decide) rfl (Nat.le_of_ble_eq_true rfl) ?_
  intro p e z m below meth c A hx hb hr hml hts hown hlocks hsz hN hA hK hP hD hS ls hl
  have hown : z.vm.findClass RX1 = some m.cls := hown
  have hinX1 : ∀ w ∈ wsX10, w ∈ wsX1_copyFrom := by decide +kernel
  have fl9 := hts (.fieldLink RX1 9 "MagpieRuns$Game" "mover" "I") (by decide +kernel)
  have fl15 := hts (.fieldLink RX1 15 "MagpieRuns$Game" "phase" "I") (by decide +kernel)
  have fl18 := hts (.fieldLink RX1 18 "MagpieRuns$Game" "dice" "I") (by decide +kernel)
  have fl21 := hts (.fieldLink RX1 21 "MagpieRuns$Game" "stake" "I") (by decide +kernel)
  have fl24 := hts (.fieldLink RX1 24 "MagpieRuns$Game" "cube" "I") (by decide +kernel)
  have fl31 := hts (.fieldLink RX1 31 "MagpieRuns$Game" "pieces0" "J") (by decide +kernel)
  have fl35 := hts (.fieldLink RX1 35 "MagpieRuns$Game" "pieces1" "J") (by decide +kernel)
  have fl38 := hts (.fieldLink RX1 38 "MagpieRuns$Game" "score0" "I") (by decide +kernel)
  have fl41 := hts (.fieldLink RX1 41 "MagpieRuns$Game" "score1" "I") (by decide +kernel)
  have fl44 := hts (.fieldLink RX1 44 "MagpieRuns$Game" "hits0" "I") (by decide +kernel)
  have fl47 := hts (.fieldLink RX1 47 "MagpieRuns$Game" "hits1" "I") (by decide +kernel)
  have fl50 := hts (.fieldLink RX1 50 "MagpieRuns$Game" "stopped" "Z") (by decide +kernel)
  have fl54 := hts (.fieldLink RX1 54 "MagpieRuns$Game" "stopPart" "I") (by decide +kernel)
  have hl : lv_has ls 2 [(0, .ref h0), (1, .ref h1)] := hl
  unfold mX1_copyFrom at hm
  refine lv_aload_n hx hb dX1_copyFrom_0 rfl (lv_at hl 0 rfl) ?_
  refine lv_aload_n hx hb dX1_copyFrom_1 rfl (lv_at hl 1 rfl) ?_
  refine va_get (D := D) (ci := 0) (v := .int o_mover) (C := RX1) (T := TX1) (N := 13) hx hb hts hinX1 hown hK hP 1 rfl rfl 0 (by decide) fl9 (fun _ h9 => h9) rfl dX1_copyFrom_2 ?_
  refine va_put (D := D) (ci := 0) (v := .int o_mover) (ty := .int) (C := RX1) (T := TX1) (N := 13) hx hb hts hinX1 tyX1 tyX1_ok nmX1 hown hK hP hD hS 0 rfl rfl 0 (by decide) fl9 (fun _ h9 => h9) rfl (by decide +kernel) rfl rfl (Nat.le_of_ble_eq_true rfl) dX1_copyFrom_5 (fun H locs hP hD hS => ?_)
  have hP : va_P D vwCl (wG2 h0 h1 o_mover c_phase c_dice c_stake c_cube c_pieces0 c_pieces1 c_score0 c_score1 c_hits0 c_hits1 c_stopped c_stopPart o_mover o_phase o_dice o_stake o_cube o_pieces0 o_pieces1 o_score0 o_score1 o_hits0 o_hits1 o_stopped o_stopPart) H := hP
  have hD : va_D A (wG2 h0 h1 o_mover c_phase c_dice c_stake c_cube c_pieces0 c_pieces1 c_score0 c_score1 c_hits0 c_hits1 c_stopped c_stopPart o_mover o_phase o_dice o_stake o_cube o_pieces0 o_pieces1 o_score0 o_score1 o_hits0 o_hits1 o_stopped o_stopPart) := hD
  refine lv_aload_n hx hb dX1_copyFrom_8 rfl (lv_at hl 0 rfl) ?_
  refine lv_aload_n hx hb dX1_copyFrom_9 rfl (lv_at hl 1 rfl) ?_
  refine va_get (D := D) (ci := 0) (v := .int o_phase) (C := RX1) (T := TX1) (N := 13) hx hb hts hinX1 hown hK hP 1 rfl rfl 1 (by decide) fl15 (fun _ h9 => h9) rfl dX1_copyFrom_10 ?_
  refine va_put (D := D) (ci := 0) (v := .int o_phase) (ty := .int) (C := RX1) (T := TX1) (N := 13) hx hb hts hinX1 tyX1 tyX1_ok nmX1 hown hK hP hD hS 0 rfl rfl 1 (by decide) fl15 (fun _ h9 => h9) rfl (by decide +kernel) rfl rfl (Nat.le_of_ble_eq_true rfl) dX1_copyFrom_13 (fun H locs hP hD hS => ?_)
  have hP : va_P D vwCl (wG2 h0 h1 o_mover o_phase c_dice c_stake c_cube c_pieces0 c_pieces1 c_score0 c_score1 c_hits0 c_hits1 c_stopped c_stopPart o_mover o_phase o_dice o_stake o_cube o_pieces0 o_pieces1 o_score0 o_score1 o_hits0 o_hits1 o_stopped o_stopPart) H := hP
  have hD : va_D A (wG2 h0 h1 o_mover o_phase c_dice c_stake c_cube c_pieces0 c_pieces1 c_score0 c_score1 c_hits0 c_hits1 c_stopped c_stopPart o_mover o_phase o_dice o_stake o_cube o_pieces0 o_pieces1 o_score0 o_score1 o_hits0 o_hits1 o_stopped o_stopPart) := hD
  refine lv_aload_n hx hb dX1_copyFrom_16 rfl (lv_at hl 0 rfl) ?_
  refine lv_aload_n hx hb dX1_copyFrom_17 rfl (lv_at hl 1 rfl) ?_
  refine va_get (D := D) (ci := 0) (v := .int o_dice) (C := RX1) (T := TX1) (N := 13) hx hb hts hinX1 hown hK hP 1 rfl rfl 2 (by decide) fl18 (fun _ h9 => h9) rfl dX1_copyFrom_18 ?_
  refine va_put (D := D) (ci := 0) (v := .int o_dice) (ty := .int) (C := RX1) (T := TX1) (N := 13) hx hb hts hinX1 tyX1 tyX1_ok nmX1 hown hK hP hD hS 0 rfl rfl 2 (by decide) fl18 (fun _ h9 => h9) rfl (by decide +kernel) rfl rfl (Nat.le_of_ble_eq_true rfl) dX1_copyFrom_21 (fun H locs hP hD hS => ?_)
  have hP : va_P D vwCl (wG2 h0 h1 o_mover o_phase o_dice c_stake c_cube c_pieces0 c_pieces1 c_score0 c_score1 c_hits0 c_hits1 c_stopped c_stopPart o_mover o_phase o_dice o_stake o_cube o_pieces0 o_pieces1 o_score0 o_score1 o_hits0 o_hits1 o_stopped o_stopPart) H := hP
  have hD : va_D A (wG2 h0 h1 o_mover o_phase o_dice c_stake c_cube c_pieces0 c_pieces1 c_score0 c_score1 c_hits0 c_hits1 c_stopped c_stopPart o_mover o_phase o_dice o_stake o_cube o_pieces0 o_pieces1 o_score0 o_score1 o_hits0 o_hits1 o_stopped o_stopPart) := hD
  refine lv_aload_n hx hb dX1_copyFrom_24 rfl (lv_at hl 0 rfl) ?_
  refine lv_aload_n hx hb dX1_copyFrom_25 rfl (lv_at hl 1 rfl) ?_
  refine va_get (D := D) (ci := 0) (v := .int o_stake) (C := RX1) (T := TX1) (N := 13) hx hb hts hinX1 hown hK hP 1 rfl rfl 3 (by decide) fl21 (fun _ h9 => h9) rfl dX1_copyFrom_26 ?_
  refine va_put (D := D) (ci := 0) (v := .int o_stake) (ty := .int) (C := RX1) (T := TX1) (N := 13) hx hb hts hinX1 tyX1 tyX1_ok nmX1 hown hK hP hD hS 0 rfl rfl 3 (by decide) fl21 (fun _ h9 => h9) rfl (by decide +kernel) rfl rfl (Nat.le_of_ble_eq_true rfl) dX1_copyFrom_29 (fun H locs hP hD hS => ?_)
  have hP : va_P D vwCl (wG2 h0 h1 o_mover o_phase o_dice o_stake c_cube c_pieces0 c_pieces1 c_score0 c_score1 c_hits0 c_hits1 c_stopped c_stopPart o_mover o_phase o_dice o_stake o_cube o_pieces0 o_pieces1 o_score0 o_score1 o_hits0 o_hits1 o_stopped o_stopPart) H := hP
  have hD : va_D A (wG2 h0 h1 o_mover o_phase o_dice o_stake c_cube c_pieces0 c_pieces1 c_score0 c_score1 c_hits0 c_hits1 c_stopped c_stopPart o_mover o_phase o_dice o_stake o_cube o_pieces0 o_pieces1 o_score0 o_score1 o_hits0 o_hits1 o_stopped o_stopPart) := hD
  refine lv_aload_n hx hb dX1_copyFrom_32 rfl (lv_at hl 0 rfl) ?_
  refine lv_aload_n hx hb dX1_copyFrom_33 rfl (lv_at hl 1 rfl) ?_
  refine va_get (D := D) (ci := 0) (v := .int o_cube) (C := RX1) (T := TX1) (N := 13) hx hb hts hinX1 hown hK hP 1 rfl rfl 4 (by decide) fl24 (fun _ h9 => h9) rfl dX1_copyFrom_34 ?_
  refine va_put (D := D) (ci := 0) (v := .int o_cube) (ty := .int) (C := RX1) (T := TX1) (N := 13) hx hb hts hinX1 tyX1 tyX1_ok nmX1 hown hK hP hD hS 0 rfl rfl 4 (by decide) fl24 (fun _ h9 => h9) rfl (by decide +kernel) rfl rfl (Nat.le_of_ble_eq_true rfl) dX1_copyFrom_37 (fun H locs hP hD hS => ?_)
  have hP : va_P D vwCl (wG2 h0 h1 o_mover o_phase o_dice o_stake o_cube c_pieces0 c_pieces1 c_score0 c_score1 c_hits0 c_hits1 c_stopped c_stopPart o_mover o_phase o_dice o_stake o_cube o_pieces0 o_pieces1 o_score0 o_score1 o_hits0 o_hits1 o_stopped o_stopPart) H := hP
  have hD : va_D A (wG2 h0 h1 o_mover o_phase o_dice o_stake o_cube c_pieces0 c_pieces1 c_score0 c_score1 c_hits0 c_hits1 c_stopped c_stopPart o_mover o_phase o_dice o_stake o_cube o_pieces0 o_pieces1 o_score0 o_score1 o_hits0 o_hits1 o_stopped o_stopPart) := hD
  refine lv_aload_n hx hb dX1_copyFrom_40 rfl (lv_at hl 0 rfl) ?_
  refine lv_aload_n hx hb dX1_copyFrom_41 rfl (lv_at hl 1 rfl) ?_
  refine va_get (D := D) (ci := 0) (v := .long o_pieces0) (C := RX1) (T := TX1) (N := 13) hx hb hts hinX1 hown hK hP 1 rfl rfl 5 (by decide) fl31 (fun _ h9 => h9) rfl dX1_copyFrom_42 ?_
  refine va_put (D := D) (ci := 0) (v := .long o_pieces0) (ty := .long) (C := RX1) (T := TX1) (N := 13) hx hb hts hinX1 tyX1 tyX1_ok nmX1 hown hK hP hD hS 0 rfl rfl 5 (by decide) fl31 (fun _ h9 => h9) rfl (by decide +kernel) rfl rfl (Nat.le_of_ble_eq_true rfl) dX1_copyFrom_45 (fun H locs hP hD hS => ?_)
  have hP : va_P D vwCl (wG2 h0 h1 o_mover o_phase o_dice o_stake o_cube o_pieces0 c_pieces1 c_score0 c_score1 c_hits0 c_hits1 c_stopped c_stopPart o_mover o_phase o_dice o_stake o_cube o_pieces0 o_pieces1 o_score0 o_score1 o_hits0 o_hits1 o_stopped o_stopPart) H := hP
  have hD : va_D A (wG2 h0 h1 o_mover o_phase o_dice o_stake o_cube o_pieces0 c_pieces1 c_score0 c_score1 c_hits0 c_hits1 c_stopped c_stopPart o_mover o_phase o_dice o_stake o_cube o_pieces0 o_pieces1 o_score0 o_score1 o_hits0 o_hits1 o_stopped o_stopPart) := hD
  refine lv_aload_n hx hb dX1_copyFrom_48 rfl (lv_at hl 0 rfl) ?_
  refine lv_aload_n hx hb dX1_copyFrom_49 rfl (lv_at hl 1 rfl) ?_
  refine va_get (D := D) (ci := 0) (v := .long o_pieces1) (C := RX1) (T := TX1) (N := 13) hx hb hts hinX1 hown hK hP 1 rfl rfl 6 (by decide) fl35 (fun _ h9 => h9) rfl dX1_copyFrom_50 ?_
  refine va_put (D := D) (ci := 0) (v := .long o_pieces1) (ty := .long) (C := RX1) (T := TX1) (N := 13) hx hb hts hinX1 tyX1 tyX1_ok nmX1 hown hK hP hD hS 0 rfl rfl 6 (by decide) fl35 (fun _ h9 => h9) rfl (by decide +kernel) rfl rfl (Nat.le_of_ble_eq_true rfl) dX1_copyFrom_53 (fun H locs hP hD hS => ?_)
  have hP : va_P D vwCl (wG2 h0 h1 o_mover o_phase o_dice o_stake o_cube o_pieces0 o_pieces1 c_score0 c_score1 c_hits0 c_hits1 c_stopped c_stopPart o_mover o_phase o_dice o_stake o_cube o_pieces0 o_pieces1 o_score0 o_score1 o_hits0 o_hits1 o_stopped o_stopPart) H := hP
  have hD : va_D A (wG2 h0 h1 o_mover o_phase o_dice o_stake o_cube o_pieces0 o_pieces1 c_score0 c_score1 c_hits0 c_hits1 c_stopped c_stopPart o_mover o_phase o_dice o_stake o_cube o_pieces0 o_pieces1 o_score0 o_score1 o_hits0 o_hits1 o_stopped o_stopPart) := hD
  refine lv_aload_n hx hb dX1_copyFrom_56 rfl (lv_at hl 0 rfl) ?_
  refine lv_aload_n hx hb dX1_copyFrom_57 rfl (lv_at hl 1 rfl) ?_
  refine va_get (D := D) (ci := 0) (v := .int o_score0) (C := RX1) (T := TX1) (N := 13) hx hb hts hinX1 hown hK hP 1 rfl rfl 7 (by decide) fl38 (fun _ h9 => h9) rfl dX1_copyFrom_58 ?_
  refine va_put (D := D) (ci := 0) (v := .int o_score0) (ty := .int) (C := RX1) (T := TX1) (N := 13) hx hb hts hinX1 tyX1 tyX1_ok nmX1 hown hK hP hD hS 0 rfl rfl 7 (by decide) fl38 (fun _ h9 => h9) rfl (by decide +kernel) rfl rfl (Nat.le_of_ble_eq_true rfl) dX1_copyFrom_61 (fun H locs hP hD hS => ?_)
  have hP : va_P D vwCl (wG2 h0 h1 o_mover o_phase o_dice o_stake o_cube o_pieces0 o_pieces1 o_score0 c_score1 c_hits0 c_hits1 c_stopped c_stopPart o_mover o_phase o_dice o_stake o_cube o_pieces0 o_pieces1 o_score0 o_score1 o_hits0 o_hits1 o_stopped o_stopPart) H := hP
  have hD : va_D A (wG2 h0 h1 o_mover o_phase o_dice o_stake o_cube o_pieces0 o_pieces1 o_score0 c_score1 c_hits0 c_hits1 c_stopped c_stopPart o_mover o_phase o_dice o_stake o_cube o_pieces0 o_pieces1 o_score0 o_score1 o_hits0 o_hits1 o_stopped o_stopPart) := hD
  refine lv_aload_n hx hb dX1_copyFrom_64 rfl (lv_at hl 0 rfl) ?_
  refine lv_aload_n hx hb dX1_copyFrom_65 rfl (lv_at hl 1 rfl) ?_
  refine va_get (D := D) (ci := 0) (v := .int o_score1) (C := RX1) (T := TX1) (N := 13) hx hb hts hinX1 hown hK hP 1 rfl rfl 8 (by decide) fl41 (fun _ h9 => h9) rfl dX1_copyFrom_66 ?_
  refine va_put (D := D) (ci := 0) (v := .int o_score1) (ty := .int) (C := RX1) (T := TX1) (N := 13) hx hb hts hinX1 tyX1 tyX1_ok nmX1 hown hK hP hD hS 0 rfl rfl 8 (by decide) fl41 (fun _ h9 => h9) rfl (by decide +kernel) rfl rfl (Nat.le_of_ble_eq_true rfl) dX1_copyFrom_69 (fun H locs hP hD hS => ?_)
  have hP : va_P D vwCl (wG2 h0 h1 o_mover o_phase o_dice o_stake o_cube o_pieces0 o_pieces1 o_score0 o_score1 c_hits0 c_hits1 c_stopped c_stopPart o_mover o_phase o_dice o_stake o_cube o_pieces0 o_pieces1 o_score0 o_score1 o_hits0 o_hits1 o_stopped o_stopPart) H := hP
  have hD : va_D A (wG2 h0 h1 o_mover o_phase o_dice o_stake o_cube o_pieces0 o_pieces1 o_score0 o_score1 c_hits0 c_hits1 c_stopped c_stopPart o_mover o_phase o_dice o_stake o_cube o_pieces0 o_pieces1 o_score0 o_score1 o_hits0 o_hits1 o_stopped o_stopPart) := hD
  refine lv_aload_n hx hb dX1_copyFrom_72 rfl (lv_at hl 0 rfl) ?_
  refine lv_aload_n hx hb dX1_copyFrom_73 rfl (lv_at hl 1 rfl) ?_
  refine va_get (D := D) (ci := 0) (v := .int o_hits0) (C := RX1) (T := TX1) (N := 13) hx hb hts hinX1 hown hK hP 1 rfl rfl 9 (by decide) fl44 (fun _ h9 => h9) rfl dX1_copyFrom_74 ?_
  refine va_put (D := D) (ci := 0) (v := .int o_hits0) (ty := .int) (C := RX1) (T := TX1) (N := 13) hx hb hts hinX1 tyX1 tyX1_ok nmX1 hown hK hP hD hS 0 rfl rfl 9 (by decide) fl44 (fun _ h9 => h9) rfl (by decide +kernel) rfl rfl (Nat.le_of_ble_eq_true rfl) dX1_copyFrom_77 (fun H locs hP hD hS => ?_)
  have hP : va_P D vwCl (wG2 h0 h1 o_mover o_phase o_dice o_stake o_cube o_pieces0 o_pieces1 o_score0 o_score1 o_hits0 c_hits1 c_stopped c_stopPart o_mover o_phase o_dice o_stake o_cube o_pieces0 o_pieces1 o_score0 o_score1 o_hits0 o_hits1 o_stopped o_stopPart) H := hP
  have hD : va_D A (wG2 h0 h1 o_mover o_phase o_dice o_stake o_cube o_pieces0 o_pieces1 o_score0 o_score1 o_hits0 c_hits1 c_stopped c_stopPart o_mover o_phase o_dice o_stake o_cube o_pieces0 o_pieces1 o_score0 o_score1 o_hits0 o_hits1 o_stopped o_stopPart) := hD
  refine lv_aload_n hx hb dX1_copyFrom_80 rfl (lv_at hl 0 rfl) ?_
  refine lv_aload_n hx hb dX1_copyFrom_81 rfl (lv_at hl 1 rfl) ?_
  refine va_get (D := D) (ci := 0) (v := .int o_hits1) (C := RX1) (T := TX1) (N := 13) hx hb hts hinX1 hown hK hP 1 rfl rfl 10 (by decide) fl47 (fun _ h9 => h9) rfl dX1_copyFrom_82 ?_
  refine va_put (D := D) (ci := 0) (v := .int o_hits1) (ty := .int) (C := RX1) (T := TX1) (N := 13) hx hb hts hinX1 tyX1 tyX1_ok nmX1 hown hK hP hD hS 0 rfl rfl 10 (by decide) fl47 (fun _ h9 => h9) rfl (by decide +kernel) rfl rfl (Nat.le_of_ble_eq_true rfl) dX1_copyFrom_85 (fun H locs hP hD hS => ?_)
  have hP : va_P D vwCl (wG2 h0 h1 o_mover o_phase o_dice o_stake o_cube o_pieces0 o_pieces1 o_score0 o_score1 o_hits0 o_hits1 c_stopped c_stopPart o_mover o_phase o_dice o_stake o_cube o_pieces0 o_pieces1 o_score0 o_score1 o_hits0 o_hits1 o_stopped o_stopPart) H := hP
  have hD : va_D A (wG2 h0 h1 o_mover o_phase o_dice o_stake o_cube o_pieces0 o_pieces1 o_score0 o_score1 o_hits0 o_hits1 c_stopped c_stopPart o_mover o_phase o_dice o_stake o_cube o_pieces0 o_pieces1 o_score0 o_score1 o_hits0 o_hits1 o_stopped o_stopPart) := hD
  refine lv_aload_n hx hb dX1_copyFrom_88 rfl (lv_at hl 0 rfl) ?_
  refine lv_aload_n hx hb dX1_copyFrom_89 rfl (lv_at hl 1 rfl) ?_
  refine va_get (D := D) (ci := 0) (v := .int (k_b o_stopped)) (C := RX1) (T := TX1) (N := 13) hx hb hts hinX1 hown hK hP 1 rfl rfl 11 (by decide) fl50 (fun _ h9 => h9) rfl dX1_copyFrom_90 ?_
  refine va_put (D := D) (ci := 0) (v := .int (k_b o_stopped)) (ty := .boolean) (C := RX1) (T := TX1) (N := 13) hx hb hts hinX1 tyX1 tyX1_ok nmX1 hown hK hP hD hS 0 rfl rfl 11 (by decide) fl50 (fun _ h9 => h9) rfl (by decide +kernel) (k_nz _) (k_fz _) (Nat.le_of_ble_eq_true rfl) dX1_copyFrom_93 (fun H locs hP hD hS => ?_)
  have hP : va_P D vwCl (wG2 h0 h1 o_mover o_phase o_dice o_stake o_cube o_pieces0 o_pieces1 o_score0 o_score1 o_hits0 o_hits1 o_stopped c_stopPart o_mover o_phase o_dice o_stake o_cube o_pieces0 o_pieces1 o_score0 o_score1 o_hits0 o_hits1 o_stopped o_stopPart) H := hP
  have hD : va_D A (wG2 h0 h1 o_mover o_phase o_dice o_stake o_cube o_pieces0 o_pieces1 o_score0 o_score1 o_hits0 o_hits1 o_stopped c_stopPart o_mover o_phase o_dice o_stake o_cube o_pieces0 o_pieces1 o_score0 o_score1 o_hits0 o_hits1 o_stopped o_stopPart) := hD
  refine lv_aload_n hx hb dX1_copyFrom_96 rfl (lv_at hl 0 rfl) ?_
  refine lv_aload_n hx hb dX1_copyFrom_97 rfl (lv_at hl 1 rfl) ?_
  refine va_get (D := D) (ci := 0) (v := .int o_stopPart) (C := RX1) (T := TX1) (N := 13) hx hb hts hinX1 hown hK hP 1 rfl rfl 12 (by decide) fl54 (fun _ h9 => h9) rfl dX1_copyFrom_98 ?_
  refine va_put (D := D) (ci := 0) (v := .int o_stopPart) (ty := .int) (C := RX1) (T := TX1) (N := 13) hx hb hts hinX1 tyX1 tyX1_ok nmX1 hown hK hP hD hS 0 rfl rfl 12 (by decide) fl54 (fun _ h9 => h9) rfl (by decide +kernel) rfl rfl (Nat.le_of_ble_eq_true rfl) dX1_copyFrom_101 (fun H locs hP hD hS => ?_)
  have hP : va_P D vwCl (wG2 h0 h1 o_mover o_phase o_dice o_stake o_cube o_pieces0 o_pieces1 o_score0 o_score1 o_hits0 o_hits1 o_stopped o_stopPart o_mover o_phase o_dice o_stake o_cube o_pieces0 o_pieces1 o_score0 o_score1 o_hits0 o_hits1 o_stopped o_stopPart) H := hP
  have hD : va_D A (wG2 h0 h1 o_mover o_phase o_dice o_stake o_cube o_pieces0 o_pieces1 o_score0 o_score1 o_hits0 o_hits1 o_stopped o_stopPart o_mover o_phase o_dice o_stake o_cube o_pieces0 o_pieces1 o_score0 o_score1 o_hits0 o_hits1 o_stopped o_stopPart) := hD
  cases hm
  exact k_end_v hx hb hr hlocks hK hP hD hS dX1_copyFrom_104

abbrev rmX1_wayOf : Room := { frames := 0, cells := 0, slots := 0, locals := 0 }
set_option maxHeartbeats 4000000 in
set_option maxRecDepth 100000 in
theorem zX1_wayOf {l : Launch} {D : va_G} {cI cJ cC cG : ClassId} {sz : Nat}  {a0 : Int32} {a1 : Int32} {r : Int32} (hm : mX1_wayOf a0 a1 = some (r)) : k_Mi l yX1_wayOf wsX1_wayOf rmX1_wayOf D (kT cI cJ cC cG) sz ([.int a0, .int a1] : List Value) [] [] r := by
  refine k_st_i (cc := cX1_wayOf) (maxL := 2) (by decide) rfl (Nat.le_of_ble_eq_true rfl) ?_
  intro p e z m below meth c A hx hb hr hml hts hown hlocks hsz hN hA hK hP hD hS ls hl
  have hown : z.vm.findClass RX1 = some m.cls := hown
  have hl : lv_has ls 2 [(0, .int a0), (1, .int a1)] := hl
  unfold mX1_wayOf at hm
  refine lv_iload_n hx hb dX1_wayOf_0 rfl (lv_at hl 1 rfl) ?_
  refine lv_iconst (v := (-1)) hx hb dX1_wayOf_1 (by decide) ?_
  refine lv_icmp_ne (tgt := 8) hx hb dX1_wayOf_2 (by decide) (fun cc2 => ?_) (fun cc2 => ?_)
  · have hm := k_in cc2 hm
    refine lv_iload_n hx hb dX1_wayOf_8 rfl (lv_at hl 1 rfl) ?_
    refine lv_bipush (v := 16) hx hb dX1_wayOf_9 (by decide) ?_
    refine lv_icmp_ne (tgt := 16) hx hb dX1_wayOf_11 (by decide) (fun cc11 => ?_) (fun cc11 => ?_)
    · have hm := k_in cc11 hm
      refine lv_iload_n hx hb dX1_wayOf_16 rfl (lv_at hl 0 rfl) ?_
      refine lv_if_ne (tgt := 27) hx hb dX1_wayOf_17 (by decide) (fun cc17 => ?_) (fun cc17 => ?_)
      · have hm := k_in cc17 hm
        refine lv_iload_n hx hb dX1_wayOf_27 rfl (lv_at hl 1 rfl) ?_
        refine lv_iconst (v := 1) hx hb dX1_wayOf_28 (by decide) ?_
        refine lv_iadd hx hb dX1_wayOf_29 ?_
        cases hm
        exact k_end_i hx hb hr hlocks hK hP hD hS dX1_wayOf_30
      · have hm := k_ip cc17 hm
        refine lv_bipush (v := 16) hx hb dX1_wayOf_20 (by decide) ?_
        refine lv_iload_n hx hb dX1_wayOf_22 rfl (lv_at hl 1 rfl) ?_
        refine lv_isub hx hb dX1_wayOf_23 ?_
        refine lv_goto (tgt := 30) hx hb dX1_wayOf_24 (by decide) ?_
        cases hm
        exact k_end_i hx hb hr hlocks hK hP hD hS dX1_wayOf_30
    · have hm := k_ip cc11 hm
      refine lv_iconst (v := 0) hx hb dX1_wayOf_14 (by decide) ?_
      cases hm
      exact k_end_i hx hb hr hlocks hK hP hD hS dX1_wayOf_15
  · have hm := k_ip cc2 hm
    refine lv_bipush (v := 17) hx hb dX1_wayOf_5 (by decide) ?_
    cases hm
    exact k_end_i hx hb hr hlocks hK hP hD hS dX1_wayOf_7

abbrev rmX1_piecesOf : Room := { frames := 0, cells := 0, slots := 0, locals := 0 }
set_option maxHeartbeats 4000000 in
set_option maxRecDepth 100000 in
theorem zX1_piecesOf {l : Launch} {D : va_G} {cI cJ cC cG : ClassId} {sz : Nat} {h0 : Nat} {c_mover : Int32} {c_phase : Int32} {c_dice : Int32} {c_stake : Int32} {c_cube : Int32} {c_pieces0 : Int64} {c_pieces1 : Int64} {c_score0 : Int32} {c_score1 : Int32} {c_hits0 : Int32} {c_hits1 : Int32} {c_stopped : Bool} {c_stopPart : Int32} {a1 : Int32} {r : Int64} (hm : mX1_piecesOf c_pieces0 c_pieces1 a1 = some (r)) : k_Ml l yX1_piecesOf wsX1_piecesOf rmX1_piecesOf D (kT cI cJ cC cG) sz ([.ref h0, .int a1] : List Value) (wG h0 c_mover c_phase c_dice c_stake c_cube c_pieces0 c_pieces1 c_score0 c_score1 c_hits0 c_hits1 c_stopped c_stopPart) (wG h0 c_mover c_phase c_dice c_stake c_cube c_pieces0 c_pieces1 c_score0 c_score1 c_hits0 c_hits1 c_stopped c_stopPart) r := by
  refine k_st_l (cc := cX1_piecesOf) (maxL := 2) (by decide) rfl (Nat.le_of_ble_eq_true rfl) ?_
  intro p e z m below meth c A hx hb hr hml hts hown hlocks hsz hN hA hK hP hD hS ls hl
  have hown : z.vm.findClass RX1 = some m.cls := hown
  have hinX1 : ∀ w ∈ wsX10, w ∈ wsX1_piecesOf := by decide +kernel
  have fl31 := hts (.fieldLink RX1 31 "MagpieRuns$Game" "pieces0" "J") (by decide +kernel)
  have fl35 := hts (.fieldLink RX1 35 "MagpieRuns$Game" "pieces1" "J") (by decide +kernel)
  have hl : lv_has ls 2 [(0, .ref h0), (1, .int a1)] := hl
  unfold mX1_piecesOf at hm
  refine lv_iload_n hx hb dX1_piecesOf_0 rfl (lv_at hl 1 rfl) ?_
  refine lv_if_ne (tgt := 11) hx hb dX1_piecesOf_1 (by decide) (fun cc1 => ?_) (fun cc1 => ?_)
  · have hm := k_in cc1 hm
    refine lv_aload_n hx hb dX1_piecesOf_11 rfl (lv_at hl 0 rfl) ?_
    refine va_get (D := D) (ci := 0) (v := .long c_pieces1) (C := RX1) (T := TX1) (N := 13) hx hb hts hinX1 hown hK hP 0 rfl rfl 6 (by decide) fl35 (fun _ h9 => h9) rfl dX1_piecesOf_12 ?_
    cases hm
    exact k_end_l hx hb hr hlocks hK hP hD hS dX1_piecesOf_15
  · have hm := k_ip cc1 hm
    refine lv_aload_n hx hb dX1_piecesOf_4 rfl (lv_at hl 0 rfl) ?_
    refine va_get (D := D) (ci := 0) (v := .long c_pieces0) (C := RX1) (T := TX1) (N := 13) hx hb hts hinX1 hown hK hP 0 rfl rfl 5 (by decide) fl31 (fun _ h9 => h9) rfl dX1_piecesOf_5 ?_
    refine lv_goto (tgt := 15) hx hb dX1_piecesOf_8 (by decide) ?_
    cases hm
    exact k_end_l hx hb hr hlocks hK hP hD hS dX1_piecesOf_15

abbrev rmX1_moversPieces : Room := { frames := 1, cells := 0, slots := 0, locals := 21 }
set_option maxHeartbeats 4000000 in
set_option maxRecDepth 100000 in
theorem zX1_moversPieces {l : Launch} {D : va_G} {cI cJ cC cG : ClassId} {sz : Nat} {h0 : Nat} {c_mover : Int32} {c_phase : Int32} {c_dice : Int32} {c_stake : Int32} {c_cube : Int32} {c_pieces0 : Int64} {c_pieces1 : Int64} {c_score0 : Int32} {c_score1 : Int32} {c_hits0 : Int32} {c_hits1 : Int32} {c_stopped : Bool} {c_stopPart : Int32} {r : Int64} (hm : mX1_moversPieces c_mover c_pieces0 c_pieces1 = some (r)) : k_Ml l yX1_moversPieces wsX1_moversPieces rmX1_moversPieces D (kT cI cJ cC cG) sz ([.ref h0] : List Value) (wG h0 c_mover c_phase c_dice c_stake c_cube c_pieces0 c_pieces1 c_score0 c_score1 c_hits0 c_hits1 c_stopped c_stopPart) (wG h0 c_mover c_phase c_dice c_stake c_cube c_pieces0 c_pieces1 c_score0 c_score1 c_hits0 c_hits1 c_stopped c_stopPart) r := by
  refine k_st_l (cc := cX1_moversPieces) (maxL := 1) (by decide) rfl (Nat.le_of_ble_eq_true rfl) ?_
  intro p e z m below meth c A hx hb hr hml hts hown hlocks hsz hN hA hK hP hD hS ls hl
  have hown : z.vm.findClass RX1 = some m.cls := hown
  have hinX1 : ∀ w ∈ wsX10, w ∈ wsX1_moversPieces := by decide +kernel
  have fl9 := hts (.fieldLink RX1 9 "MagpieRuns$Game" "mover" "I") (by decide +kernel)
  have hl : lv_has ls 1 [(0, .ref h0)] := hl
  unfold mX1_moversPieces at hm
  refine lv_aload_n hx hb dX1_moversPieces_0 rfl (lv_at hl 0 rfl) ?_
  refine lv_aload_n hx hb dX1_moversPieces_1 rfl (lv_at hl 0 rfl) ?_
  refine va_get (D := D) (ci := 0) (v := .int c_mover) (C := RX1) (T := TX1) (N := 13) hx hb hts hinX1 hown hK hP 0 rfl rfl 0 (by decide) fl9 (fun _ h9 => h9) rfl dX1_moversPieces_2 ?_
  obtain ⟨r1, hc5, hm⟩ := k_bds hm
  refine k_l_s (k_rV (As := [.int c_mover]) (rest := []) ⟨hx, hb, hml, hown, hts⟩ hK hN hP hD (zX1_piecesOf hc5) (cwV 1 hts gX1_moversPieces_X1_piecesOf rfl rfl rfl (by decide +kernel) ⟨Nat.le_of_ble_eq_true rfl, Nat.le_of_ble_eq_true rfl⟩) rfl rfl rfl hl.1 rfl (Nat.le_of_ble_eq_true rfl) dX1_moversPieces_5 ⟨Nat.zero_le _, Nat.zero_le _⟩) hD hS hA (fun H locs hP hD hS => ?_)
  cases hm
  exact k_end_l hx hb hr hlocks hK hP hD hS dX1_moversPieces_8

abbrev rmX1_othersPieces : Room := { frames := 1, cells := 0, slots := 0, locals := 21 }
set_option maxHeartbeats 4000000 in
set_option maxRecDepth 100000 in
theorem zX1_othersPieces {l : Launch} {D : va_G} {cI cJ cC cG : ClassId} {sz : Nat} {h0 : Nat} {c_mover : Int32} {c_phase : Int32} {c_dice : Int32} {c_stake : Int32} {c_cube : Int32} {c_pieces0 : Int64} {c_pieces1 : Int64} {c_score0 : Int32} {c_score1 : Int32} {c_hits0 : Int32} {c_hits1 : Int32} {c_stopped : Bool} {c_stopPart : Int32} {r : Int64} (hm : mX1_othersPieces c_mover c_pieces0 c_pieces1 = some (r)) : k_Ml l yX1_othersPieces wsX1_othersPieces rmX1_othersPieces D (kT cI cJ cC cG) sz ([.ref h0] : List Value) (wG h0 c_mover c_phase c_dice c_stake c_cube c_pieces0 c_pieces1 c_score0 c_score1 c_hits0 c_hits1 c_stopped c_stopPart) (wG h0 c_mover c_phase c_dice c_stake c_cube c_pieces0 c_pieces1 c_score0 c_score1 c_hits0 c_hits1 c_stopped c_stopPart) r := by
  refine k_st_l (cc := cX1_othersPieces) (maxL := 1) (by decide) rfl (Nat.le_of_ble_eq_true rfl) ?_
  intro p e z m below meth c A hx hb hr hml hts hown hlocks hsz hN hA hK hP hD hS ls hl
  have hown : z.vm.findClass RX1 = some m.cls := hown
  have hinX1 : ∀ w ∈ wsX10, w ∈ wsX1_othersPieces := by decide +kernel
  have fl9 := hts (.fieldLink RX1 9 "MagpieRuns$Game" "mover" "I") (by decide +kernel)
  have hl : lv_has ls 1 [(0, .ref h0)] := hl
  unfold mX1_othersPieces at hm
  refine lv_aload_n hx hb dX1_othersPieces_0 rfl (lv_at hl 0 rfl) ?_
  refine lv_iconst (v := 1) hx hb dX1_othersPieces_1 (by decide) ?_
  refine lv_aload_n hx hb dX1_othersPieces_2 rfl (lv_at hl 0 rfl) ?_
  refine va_get (D := D) (ci := 0) (v := .int c_mover) (C := RX1) (T := TX1) (N := 13) hx hb hts hinX1 hown hK hP 0 rfl rfl 0 (by decide) fl9 (fun _ h9 => h9) rfl dX1_othersPieces_3 ?_
  refine lv_isub hx hb dX1_othersPieces_6 ?_
  obtain ⟨r1, hc7, hm⟩ := k_bds hm
  refine k_l_s (k_rV (As := [.int (1 - c_mover)]) (rest := []) ⟨hx, hb, hml, hown, hts⟩ hK hN hP hD (zX1_piecesOf hc7) (cwV 1 hts gX1_othersPieces_X1_piecesOf rfl rfl rfl (by decide +kernel) ⟨Nat.le_of_ble_eq_true rfl, Nat.le_of_ble_eq_true rfl⟩) rfl rfl rfl hl.1 rfl (Nat.le_of_ble_eq_true rfl) dX1_othersPieces_7 ⟨Nat.zero_le _, Nat.zero_le _⟩) hD hS hA (fun H locs hP hD hS => ?_)
  cases hm
  exact k_end_l hx hb hr hlocks hK hP hD hS dX1_othersPieces_10

abbrev rmX1_setPieces : Room := { frames := 0, cells := 0, slots := 0, locals := 0 }
set_option maxHeartbeats 4000000 in
set_option maxRecDepth 100000 in
theorem zX1_setPieces {l : Launch} {D : va_G} {cI cJ cC cG : ClassId} {sz : Nat} {h0 : Nat} {c_mover : Int32} {c_phase : Int32} {c_dice : Int32} {c_stake : Int32} {c_cube : Int32} {c_pieces0 : Int64} {c_pieces1 : Int64} {c_score0 : Int32} {c_score1 : Int32} {c_hits0 : Int32} {c_hits1 : Int32} {c_stopped : Bool} {c_stopPart : Int32} {a1 : Int32} {a2 : Int64} {c_pieces0' : Int64} {c_pieces1' : Int64} (hm : mX1_setPieces c_pieces0 c_pieces1 a1 a2 = some (c_pieces0', c_pieces1')) : k_Mv l yX1_setPieces wsX1_setPieces rmX1_setPieces D (kT cI cJ cC cG) sz ([.ref h0, .int a1, .long a2] : List Value) (wG h0 c_mover c_phase c_dice c_stake c_cube c_pieces0 c_pieces1 c_score0 c_score1 c_hits0 c_hits1 c_stopped c_stopPart) (wG h0 c_mover c_phase c_dice c_stake c_cube c_pieces0' c_pieces1' c_score0 c_score1 c_hits0 c_hits1 c_stopped c_stopPart) := by
  refine k_st_v (cc := cX1_setPieces) (maxL := 4) (by decide) rfl (Nat.le_of_ble_eq_true rfl) ?_
  intro p e z m below meth c A hx hb hr hml hts hown hlocks hsz hN hA hK hP hD hS ls hl
  have hown : z.vm.findClass RX1 = some m.cls := hown
  have hinX1 : ∀ w ∈ wsX10, w ∈ wsX1_setPieces := by decide +kernel
  have fl31 := hts (.fieldLink RX1 31 "MagpieRuns$Game" "pieces0" "J") (by decide +kernel)
  have fl35 := hts (.fieldLink RX1 35 "MagpieRuns$Game" "pieces1" "J") (by decide +kernel)
  have hl : lv_has ls 4 [(0, .ref h0), (1, .int a1), (2, .long a2)] := hl
  unfold mX1_setPieces at hm
  refine lv_iload_n hx hb dX1_setPieces_0 rfl (lv_at hl 1 rfl) ?_
  refine lv_if_ne (tgt := 12) hx hb dX1_setPieces_1 (by decide) (fun cc1 => ?_) (fun cc1 => ?_)
  · have hm := k_in cc1 hm
    refine lv_aload_n hx hb dX1_setPieces_12 rfl (lv_at hl 0 rfl) ?_
    refine lv_lload_n hx hb dX1_setPieces_13 rfl (lv_at hl 2 rfl) ?_
    refine va_put (D := D) (ci := 0) (v := .long a2) (ty := .long) (C := RX1) (T := TX1) (N := 13) hx hb hts hinX1 tyX1 tyX1_ok nmX1 hown hK hP hD hS 0 rfl rfl 6 (by decide) fl35 (fun _ h9 => h9) rfl (by decide +kernel) rfl rfl (Nat.le_of_ble_eq_true rfl) dX1_setPieces_14 (fun H locs hP hD hS => ?_)
    have hP : va_P D vwCl (wG h0 c_mover c_phase c_dice c_stake c_cube c_pieces0 a2 c_score0 c_score1 c_hits0 c_hits1 c_stopped c_stopPart) H := hP
    have hD : va_D A (wG h0 c_mover c_phase c_dice c_stake c_cube c_pieces0 a2 c_score0 c_score1 c_hits0 c_hits1 c_stopped c_stopPart) := hD
    cases hm
    exact k_end_v hx hb hr hlocks hK hP hD hS dX1_setPieces_17
  · have hm := k_ip cc1 hm
    refine lv_aload_n hx hb dX1_setPieces_4 rfl (lv_at hl 0 rfl) ?_
    refine lv_lload_n hx hb dX1_setPieces_5 rfl (lv_at hl 2 rfl) ?_
    refine va_put (D := D) (ci := 0) (v := .long a2) (ty := .long) (C := RX1) (T := TX1) (N := 13) hx hb hts hinX1 tyX1 tyX1_ok nmX1 hown hK hP hD hS 0 rfl rfl 5 (by decide) fl31 (fun _ h9 => h9) rfl (by decide +kernel) rfl rfl (Nat.le_of_ble_eq_true rfl) dX1_setPieces_6 (fun H locs hP hD hS => ?_)
    have hP : va_P D vwCl (wG h0 c_mover c_phase c_dice c_stake c_cube a2 c_pieces1 c_score0 c_score1 c_hits0 c_hits1 c_stopped c_stopPart) H := hP
    have hD : va_D A (wG h0 c_mover c_phase c_dice c_stake c_cube a2 c_pieces1 c_score0 c_score1 c_hits0 c_hits1 c_stopped c_stopPart) := hD
    refine lv_goto (tgt := 17) hx hb dX1_setPieces_9 (by decide) ?_
    cases hm
    exact k_end_v hx hb hr hlocks hK hP hD hS dX1_setPieces_17

abbrev rmX1_countAt : Room := { frames := 1, cells := 0, slots := 0, locals := 22 }
set_option maxHeartbeats 4000000 in
set_option maxRecDepth 100000 in
theorem zX1_countAt {l : Launch} {D : va_G} {cI cJ cC cG : ClassId} {sz : Nat} {h0 : Nat} {c_mover : Int32} {c_phase : Int32} {c_dice : Int32} {c_stake : Int32} {c_cube : Int32} {c_pieces0 : Int64} {c_pieces1 : Int64} {c_score0 : Int32} {c_score1 : Int32} {c_hits0 : Int32} {c_hits1 : Int32} {c_stopped : Bool} {c_stopPart : Int32} {a1 : Int32} {a2 : Int32} {r : Int32} (hm : mX1_countAt c_pieces0 c_pieces1 a1 a2 = some (r)) : k_Mi l yX1_countAt wsX1_countAt rmX1_countAt D (kT cI cJ cC cG) sz ([.ref h0, .int a1, .int a2] : List Value) (wG h0 c_mover c_phase c_dice c_stake c_cube c_pieces0 c_pieces1 c_score0 c_score1 c_hits0 c_hits1 c_stopped c_stopPart) (wG h0 c_mover c_phase c_dice c_stake c_cube c_pieces0 c_pieces1 c_score0 c_score1 c_hits0 c_hits1 c_stopped c_stopPart) r := by
  refine k_st_i (cc := cX1_countAt) (maxL := 3) (by decide) rfl (Nat.le_of_ble_eq_true rfl) ?_
  intro p e z m below meth c A hx hb hr hml hts hown hlocks hsz hN hA hK hP hD hS ls hl
  have hown : z.vm.findClass RX1 = some m.cls := hown
  have hl : lv_has ls 3 [(0, .ref h0), (1, .int a1), (2, .int a2)] := hl
  unfold mX1_countAt at hm
  refine lv_aload_n hx hb dX1_countAt_0 rfl (lv_at hl 0 rfl) ?_
  refine lv_iload_n hx hb dX1_countAt_1 rfl (lv_at hl 1 rfl) ?_
  obtain ⟨r1, hc2, hm⟩ := k_bds hm
  refine k_l_s (k_rV (As := [.int a1]) (rest := []) ⟨hx, hb, hml, hown, hts⟩ hK hN hP hD (zX1_piecesOf hc2) (cwV 1 hts gX1_countAt_X1_piecesOf rfl rfl rfl (by decide +kernel) ⟨Nat.le_of_ble_eq_true rfl, Nat.le_of_ble_eq_true rfl⟩) rfl rfl rfl hl.1 rfl (Nat.le_of_ble_eq_true rfl) dX1_countAt_2 ⟨Nat.zero_le _, Nat.zero_le _⟩) hD hS hA (fun H locs hP hD hS => ?_)
  refine lv_iload_n hx hb dX1_countAt_5 rfl (lv_at hl 1 rfl) ?_
  refine lv_iload_n hx hb dX1_countAt_6 rfl (lv_at hl 2 rfl) ?_
  obtain ⟨r2, hc7, hm⟩ := k_bds hm
  refine k_i_0 (k_rS (As := [.int a1, .int a2]) (rest := [.long r1]) ⟨hx, hb, hml, hown, hts⟩ hK hN k_P0 (k_D0 (A := A)) (zX1_wayOf hc7) (va_cwS 2 hts gX1_countAt_X1_wayOf rfl rfl rfl (by decide +kernel) ⟨Nat.le_of_ble_eq_true rfl, Nat.le_of_ble_eq_true rfl⟩) rfl hl.1 rfl (Nat.le_of_ble_eq_true rfl) dX1_countAt_7 ⟨Nat.zero_le _, Nat.zero_le _⟩) hP hS hA (fun H locs hP hS => ?_)
  obtain ⟨r3, hc10, hm⟩ := k_bds hm
  refine k_i_0 (k_rS (As := [.long r1, .int r2]) (rest := []) ⟨hx, hb, hml, hown, hts⟩ hK hN k_P0 (k_D0 (A := A)) (zX3_on hc10) (va_cwS 2 hts gX1_countAt_X3_on rfl rfl rfl (by decide +kernel) ⟨Nat.le_of_ble_eq_true rfl, Nat.le_of_ble_eq_true rfl⟩) rfl hl.1 rfl (Nat.le_of_ble_eq_true rfl) dX1_countAt_10 ⟨Nat.zero_le _, Nat.zero_le _⟩) hP hS hA (fun H locs hP hS => ?_)
  cases hm
  exact k_end_i hx hb hr hlocks hK hP hD hS dX1_countAt_13

abbrev rmX1_ownerOfBlot : Room := { frames := 2, cells := 0, slots := 0, locals := 44 }
set_option maxHeartbeats 4000000 in
set_option maxRecDepth 100000 in
theorem zX1_ownerOfBlot {l : Launch} {D : va_G} {cI cJ cC cG : ClassId} {sz : Nat} {h0 : Nat} {c_mover : Int32} {c_phase : Int32} {c_dice : Int32} {c_stake : Int32} {c_cube : Int32} {c_pieces0 : Int64} {c_pieces1 : Int64} {c_score0 : Int32} {c_score1 : Int32} {c_hits0 : Int32} {c_hits1 : Int32} {c_stopped : Bool} {c_stopPart : Int32} {a1 : Int32} {r : Int32} (hm : mX1_ownerOfBlot c_pieces0 c_pieces1 a1 = some (r)) : k_Mi l yX1_ownerOfBlot wsX1_ownerOfBlot rmX1_ownerOfBlot D (kT cI cJ cC cG) sz ([.ref h0, .int a1] : List Value) (wG h0 c_mover c_phase c_dice c_stake c_cube c_pieces0 c_pieces1 c_score0 c_score1 c_hits0 c_hits1 c_stopped c_stopPart) (wG h0 c_mover c_phase c_dice c_stake c_cube c_pieces0 c_pieces1 c_score0 c_score1 c_hits0 c_hits1 c_stopped c_stopPart) r := by
  refine k_st_i (cc := cX1_ownerOfBlot) (maxL := 2) (by decide) rfl (Nat.le_of_ble_eq_true rfl) ?_
  intro p e z m below meth c A hx hb hr hml hts hown hlocks hsz hN hA hK hP hD hS ls hl
  have hown : z.vm.findClass RX1 = some m.cls := hown
  have hl : lv_has ls 2 [(0, .ref h0), (1, .int a1)] := hl
  unfold mX1_ownerOfBlot at hm
  refine lv_aload_n hx hb dX1_ownerOfBlot_0 rfl (lv_at hl 0 rfl) ?_
  refine lv_iconst (v := 0) hx hb dX1_ownerOfBlot_1 (by decide) ?_
  refine lv_iload_n hx hb dX1_ownerOfBlot_2 rfl (lv_at hl 1 rfl) ?_
  obtain ⟨r1, hc3, hm⟩ := k_bds hm
  refine k_i_s (k_rV (As := [.int 0, .int a1]) (rest := []) ⟨hx, hb, hml, hown, hts⟩ hK hN hP hD (zX1_countAt hc3) (cwV 2 hts gX1_ownerOfBlot_X1_countAt rfl rfl rfl (by decide +kernel) ⟨Nat.le_of_ble_eq_true rfl, Nat.le_of_ble_eq_true rfl⟩) rfl rfl rfl hl.1 rfl (Nat.le_of_ble_eq_true rfl) dX1_ownerOfBlot_3 ⟨Nat.zero_le _, Nat.zero_le _⟩) hD hS hA (fun H locs hP hD hS => ?_)
  refine lv_iconst (v := 1) hx hb dX1_ownerOfBlot_6 (by decide) ?_
  refine lv_icmp_ne (tgt := 12) hx hb dX1_ownerOfBlot_7 (by decide) (fun cc7 => ?_) (fun cc7 => ?_)
  · have hm := k_in cc7 hm
    refine lv_aload_n hx hb dX1_ownerOfBlot_12 rfl (lv_at hl 0 rfl) ?_
    refine lv_iconst (v := 1) hx hb dX1_ownerOfBlot_13 (by decide) ?_
    refine lv_iload_n hx hb dX1_ownerOfBlot_14 rfl (lv_at hl 1 rfl) ?_
    obtain ⟨r2, hc15, hm⟩ := k_bds hm
    refine k_i_s (k_rV (As := [.int 1, .int a1]) (rest := []) ⟨hx, hb, hml, hown, hts⟩ hK hN hP hD (zX1_countAt hc15) (cwV 2 hts gX1_ownerOfBlot_X1_countAt rfl rfl rfl (by decide +kernel) ⟨Nat.le_of_ble_eq_true rfl, Nat.le_of_ble_eq_true rfl⟩) rfl rfl rfl hl.1 rfl (Nat.le_of_ble_eq_true rfl) dX1_ownerOfBlot_15 ⟨Nat.zero_le _, Nat.zero_le _⟩) hD hS hA (fun H locs hP hD hS => ?_)
    refine lv_iconst (v := 1) hx hb dX1_ownerOfBlot_18 (by decide) ?_
    refine lv_icmp_ne (tgt := 26) hx hb dX1_ownerOfBlot_19 (by decide) (fun cc19 => ?_) (fun cc19 => ?_)
    · have hm := k_in cc19 hm
      refine lv_iconst (v := (-1)) hx hb dX1_ownerOfBlot_26 (by decide) ?_
      cases hm
      exact k_end_i hx hb hr hlocks hK hP hD hS dX1_ownerOfBlot_27
    · have hm := k_ip cc19 hm
      refine lv_iconst (v := 1) hx hb dX1_ownerOfBlot_22 (by decide) ?_
      refine lv_goto (tgt := 27) hx hb dX1_ownerOfBlot_23 (by decide) ?_
      cases hm
      exact k_end_i hx hb hr hlocks hK hP hD hS dX1_ownerOfBlot_27
  · have hm := k_ip cc7 hm
    refine lv_iconst (v := 0) hx hb dX1_ownerOfBlot_10 (by decide) ?_
    cases hm
    exact k_end_i hx hb hr hlocks hK hP hD hS dX1_ownerOfBlot_11

abbrev rmX1_scoreOf : Room := { frames := 0, cells := 0, slots := 0, locals := 0 }
set_option maxHeartbeats 4000000 in
set_option maxRecDepth 100000 in
theorem zX1_scoreOf {l : Launch} {D : va_G} {cI cJ cC cG : ClassId} {sz : Nat} {h0 : Nat} {c_mover : Int32} {c_phase : Int32} {c_dice : Int32} {c_stake : Int32} {c_cube : Int32} {c_pieces0 : Int64} {c_pieces1 : Int64} {c_score0 : Int32} {c_score1 : Int32} {c_hits0 : Int32} {c_hits1 : Int32} {c_stopped : Bool} {c_stopPart : Int32} {a1 : Int32} {r : Int32} (hm : mX1_scoreOf c_score0 c_score1 a1 = some (r)) : k_Mi l yX1_scoreOf wsX1_scoreOf rmX1_scoreOf D (kT cI cJ cC cG) sz ([.ref h0, .int a1] : List Value) (wG h0 c_mover c_phase c_dice c_stake c_cube c_pieces0 c_pieces1 c_score0 c_score1 c_hits0 c_hits1 c_stopped c_stopPart) (wG h0 c_mover c_phase c_dice c_stake c_cube c_pieces0 c_pieces1 c_score0 c_score1 c_hits0 c_hits1 c_stopped c_stopPart) r := by
  refine k_st_i (cc := cX1_scoreOf) (maxL := 2) (by decide) rfl (Nat.le_of_ble_eq_true rfl) ?_
  intro p e z m below meth c A hx hb hr hml hts hown hlocks hsz hN hA hK hP hD hS ls hl
  have hown : z.vm.findClass RX1 = some m.cls := hown
  have hinX1 : ∀ w ∈ wsX10, w ∈ wsX1_scoreOf := by decide +kernel
  have fl38 := hts (.fieldLink RX1 38 "MagpieRuns$Game" "score0" "I") (by decide +kernel)
  have fl41 := hts (.fieldLink RX1 41 "MagpieRuns$Game" "score1" "I") (by decide +kernel)
  have hl : lv_has ls 2 [(0, .ref h0), (1, .int a1)] := hl
  unfold mX1_scoreOf at hm
  refine lv_iload_n hx hb dX1_scoreOf_0 rfl (lv_at hl 1 rfl) ?_
  refine lv_if_ne (tgt := 11) hx hb dX1_scoreOf_1 (by decide) (fun cc1 => ?_) (fun cc1 => ?_)
  · have hm := k_in cc1 hm
    refine lv_aload_n hx hb dX1_scoreOf_11 rfl (lv_at hl 0 rfl) ?_
    refine va_get (D := D) (ci := 0) (v := .int c_score1) (C := RX1) (T := TX1) (N := 13) hx hb hts hinX1 hown hK hP 0 rfl rfl 8 (by decide) fl41 (fun _ h9 => h9) rfl dX1_scoreOf_12 ?_
    cases hm
    exact k_end_i hx hb hr hlocks hK hP hD hS dX1_scoreOf_15
  · have hm := k_ip cc1 hm
    refine lv_aload_n hx hb dX1_scoreOf_4 rfl (lv_at hl 0 rfl) ?_
    refine va_get (D := D) (ci := 0) (v := .int c_score0) (C := RX1) (T := TX1) (N := 13) hx hb hts hinX1 hown hK hP 0 rfl rfl 7 (by decide) fl38 (fun _ h9 => h9) rfl dX1_scoreOf_5 ?_
    refine lv_goto (tgt := 15) hx hb dX1_scoreOf_8 (by decide) ?_
    cases hm
    exact k_end_i hx hb hr hlocks hK hP hD hS dX1_scoreOf_15

abbrev rmX1_hitsOf : Room := { frames := 0, cells := 0, slots := 0, locals := 0 }
set_option maxHeartbeats 4000000 in
set_option maxRecDepth 100000 in
theorem zX1_hitsOf {l : Launch} {D : va_G} {cI cJ cC cG : ClassId} {sz : Nat} {h0 : Nat} {c_mover : Int32} {c_phase : Int32} {c_dice : Int32} {c_stake : Int32} {c_cube : Int32} {c_pieces0 : Int64} {c_pieces1 : Int64} {c_score0 : Int32} {c_score1 : Int32} {c_hits0 : Int32} {c_hits1 : Int32} {c_stopped : Bool} {c_stopPart : Int32} {a1 : Int32} {r : Int32} (hm : mX1_hitsOf c_hits0 c_hits1 a1 = some (r)) : k_Mi l yX1_hitsOf wsX1_hitsOf rmX1_hitsOf D (kT cI cJ cC cG) sz ([.ref h0, .int a1] : List Value) (wG h0 c_mover c_phase c_dice c_stake c_cube c_pieces0 c_pieces1 c_score0 c_score1 c_hits0 c_hits1 c_stopped c_stopPart) (wG h0 c_mover c_phase c_dice c_stake c_cube c_pieces0 c_pieces1 c_score0 c_score1 c_hits0 c_hits1 c_stopped c_stopPart) r := by
  refine k_st_i (cc := cX1_hitsOf) (maxL := 2) (by decide) rfl (Nat.le_of_ble_eq_true rfl) ?_
  intro p e z m below meth c A hx hb hr hml hts hown hlocks hsz hN hA hK hP hD hS ls hl
  have hown : z.vm.findClass RX1 = some m.cls := hown
  have hinX1 : ∀ w ∈ wsX10, w ∈ wsX1_hitsOf := by decide +kernel
  have fl44 := hts (.fieldLink RX1 44 "MagpieRuns$Game" "hits0" "I") (by decide +kernel)
  have fl47 := hts (.fieldLink RX1 47 "MagpieRuns$Game" "hits1" "I") (by decide +kernel)
  have hl : lv_has ls 2 [(0, .ref h0), (1, .int a1)] := hl
  unfold mX1_hitsOf at hm
  refine lv_iload_n hx hb dX1_hitsOf_0 rfl (lv_at hl 1 rfl) ?_
  refine lv_if_ne (tgt := 11) hx hb dX1_hitsOf_1 (by decide) (fun cc1 => ?_) (fun cc1 => ?_)
  · have hm := k_in cc1 hm
    refine lv_aload_n hx hb dX1_hitsOf_11 rfl (lv_at hl 0 rfl) ?_
    refine va_get (D := D) (ci := 0) (v := .int c_hits1) (C := RX1) (T := TX1) (N := 13) hx hb hts hinX1 hown hK hP 0 rfl rfl 10 (by decide) fl47 (fun _ h9 => h9) rfl dX1_hitsOf_12 ?_
    cases hm
    exact k_end_i hx hb hr hlocks hK hP hD hS dX1_hitsOf_15
  · have hm := k_ip cc1 hm
    refine lv_aload_n hx hb dX1_hitsOf_4 rfl (lv_at hl 0 rfl) ?_
    refine va_get (D := D) (ci := 0) (v := .int c_hits0) (C := RX1) (T := TX1) (N := 13) hx hb hts hinX1 hown hK hP 0 rfl rfl 9 (by decide) fl44 (fun _ h9 => h9) rfl dX1_hitsOf_5 ?_
    refine lv_goto (tgt := 15) hx hb dX1_hitsOf_8 (by decide) ?_
    cases hm
    exact k_end_i hx hb hr hlocks hK hP hD hS dX1_hitsOf_15

abbrev rmX1_awaitsRoll : Room := { frames := 0, cells := 0, slots := 0, locals := 0 }
set_option maxHeartbeats 4000000 in
set_option maxRecDepth 100000 in
theorem zX1_awaitsRoll {l : Launch} {D : va_G} {cI cJ cC cG : ClassId} {sz : Nat} {h0 : Nat} {c_mover : Int32} {c_phase : Int32} {c_dice : Int32} {c_stake : Int32} {c_cube : Int32} {c_pieces0 : Int64} {c_pieces1 : Int64} {c_score0 : Int32} {c_score1 : Int32} {c_hits0 : Int32} {c_hits1 : Int32} {c_stopped : Bool} {c_stopPart : Int32} {r : Bool} (hm : mX1_awaitsRoll c_phase = some (r)) : k_Mi l yX1_awaitsRoll wsX1_awaitsRoll rmX1_awaitsRoll D (kT cI cJ cC cG) sz ([.ref h0] : List Value) (wG h0 c_mover c_phase c_dice c_stake c_cube c_pieces0 c_pieces1 c_score0 c_score1 c_hits0 c_hits1 c_stopped c_stopPart) (wG h0 c_mover c_phase c_dice c_stake c_cube c_pieces0 c_pieces1 c_score0 c_score1 c_hits0 c_hits1 c_stopped c_stopPart) (k_b r) := by
  refine k_st_i (cc := cX1_awaitsRoll) (maxL := 1) (by decide) rfl (Nat.le_of_ble_eq_true rfl) ?_
  intro p e z m below meth c A hx hb hr hml hts hown hlocks hsz hN hA hK hP hD hS ls hl
  have hown : z.vm.findClass RX1 = some m.cls := hown
  have hinX1 : ∀ w ∈ wsX10, w ∈ wsX1_awaitsRoll := by decide +kernel
  have fl15 := hts (.fieldLink RX1 15 "MagpieRuns$Game" "phase" "I") (by decide +kernel)
  have hl : lv_has ls 1 [(0, .ref h0)] := hl
  unfold mX1_awaitsRoll at hm
  refine lv_aload_n hx hb dX1_awaitsRoll_0 rfl (lv_at hl 0 rfl) ?_
  refine va_get (D := D) (ci := 0) (v := .int c_phase) (C := RX1) (T := TX1) (N := 13) hx hb hts hinX1 hown hK hP 0 rfl rfl 1 (by decide) fl15 (fun _ h9 => h9) rfl dX1_awaitsRoll_1 ?_
  refine lv_if_ne (tgt := 11) hx hb dX1_awaitsRoll_4 (by decide) (fun cc4 => ?_) (fun cc4 => ?_)
  · have hm := k_in cc4 hm
    refine lv_iconst (v := 0) hx hb dX1_awaitsRoll_11 (by decide) ?_
    cases hm
    exact k_end_z false hx hb hr hlocks hK hP hD hS dX1_awaitsRoll_12
  · have hm := k_ip cc4 hm
    refine lv_iconst (v := 1) hx hb dX1_awaitsRoll_7 (by decide) ?_
    refine lv_goto (tgt := 12) hx hb dX1_awaitsRoll_8 (by decide) ?_
    cases hm
    exact k_end_z true hx hb hr hlocks hK hP hD hS dX1_awaitsRoll_12

abbrev rmX1_doRoll : Room := { frames := 1, cells := 0, slots := 0, locals := 22 }
set_option maxHeartbeats 4000000 in
set_option maxRecDepth 100000 in
theorem zX1_doRoll {l : Launch} {D : va_G} {cI cJ cC cG : ClassId} {sz : Nat} {h0 : Nat} {c_mover : Int32} {c_phase : Int32} {c_dice : Int32} {c_stake : Int32} {c_cube : Int32} {c_pieces0 : Int64} {c_pieces1 : Int64} {c_score0 : Int32} {c_score1 : Int32} {c_hits0 : Int32} {c_hits1 : Int32} {c_stopped : Bool} {c_stopPart : Int32} {a1 : Int32} {a2 : Int32} {c_phase' : Int32} {c_dice' : Int32} (hm : mX1_doRoll c_phase c_dice a1 a2 = some (c_phase', c_dice')) : k_Mv l yX1_doRoll wsX1_doRoll rmX1_doRoll D (kT cI cJ cC cG) sz ([.ref h0, .int a1, .int a2] : List Value) (wG h0 c_mover c_phase c_dice c_stake c_cube c_pieces0 c_pieces1 c_score0 c_score1 c_hits0 c_hits1 c_stopped c_stopPart) (wG h0 c_mover c_phase' c_dice' c_stake c_cube c_pieces0 c_pieces1 c_score0 c_score1 c_hits0 c_hits1 c_stopped c_stopPart) := by
  refine k_st_v (cc := cX1_doRoll) (maxL := 3) (by decide) rfl (Nat.le_of_ble_eq_true rfl) ?_
  intro p e z m below meth c A hx hb hr hml hts hown hlocks hsz hN hA hK hP hD hS ls hl
  have hown : z.vm.findClass RX1 = some m.cls := hown
  have hinX1 : ∀ w ∈ wsX10, w ∈ wsX1_doRoll := by decide +kernel
  have fl15 := hts (.fieldLink RX1 15 "MagpieRuns$Game" "phase" "I") (by decide +kernel)
  have fl18 := hts (.fieldLink RX1 18 "MagpieRuns$Game" "dice" "I") (by decide +kernel)
  have hl : lv_has ls 3 [(0, .ref h0), (1, .int a1), (2, .int a2)] := hl
  unfold mX1_doRoll at hm
  refine lv_aload_n hx hb dX1_doRoll_0 rfl (lv_at hl 0 rfl) ?_
  refine lv_iload_n hx hb dX1_doRoll_1 rfl (lv_at hl 1 rfl) ?_
  refine lv_iload_n hx hb dX1_doRoll_2 rfl (lv_at hl 2 rfl) ?_
  obtain ⟨r1, hc3, hm⟩ := k_bds hm
  refine k_i_0 (k_rS (As := [.int a1, .int a2]) (rest := [.ref h0]) ⟨hx, hb, hml, hown, hts⟩ hK hN k_P0 (k_D0 (A := A)) (zX0_rolled hc3) (va_cwS 2 hts gX1_doRoll_X0_rolled rfl rfl rfl (by decide +kernel) ⟨Nat.le_of_ble_eq_true rfl, Nat.le_of_ble_eq_true rfl⟩) rfl hl.1 rfl (Nat.le_of_ble_eq_true rfl) dX1_doRoll_3 ⟨Nat.zero_le _, Nat.zero_le _⟩) hP hS hA (fun H locs hP hS => ?_)
  refine va_put (D := D) (ci := 0) (v := .int r1) (ty := .int) (C := RX1) (T := TX1) (N := 13) hx hb hts hinX1 tyX1 tyX1_ok nmX1 hown hK hP hD hS 0 rfl rfl 2 (by decide) fl18 (fun _ h9 => h9) rfl (by decide +kernel) rfl rfl (Nat.le_of_ble_eq_true rfl) dX1_doRoll_6 (fun H locs hP hD hS => ?_)
  have hP : va_P D vwCl (wG h0 c_mover c_phase r1 c_stake c_cube c_pieces0 c_pieces1 c_score0 c_score1 c_hits0 c_hits1 c_stopped c_stopPart) H := hP
  have hD : va_D A (wG h0 c_mover c_phase r1 c_stake c_cube c_pieces0 c_pieces1 c_score0 c_score1 c_hits0 c_hits1 c_stopped c_stopPart) := hD
  refine lv_aload_n hx hb dX1_doRoll_9 rfl (lv_at hl 0 rfl) ?_
  refine lv_iconst (v := 1) hx hb dX1_doRoll_10 (by decide) ?_
  refine va_put (D := D) (ci := 0) (v := .int 1) (ty := .int) (C := RX1) (T := TX1) (N := 13) hx hb hts hinX1 tyX1 tyX1_ok nmX1 hown hK hP hD hS 0 rfl rfl 1 (by decide) fl15 (fun _ h9 => h9) rfl (by decide +kernel) rfl rfl (Nat.le_of_ble_eq_true rfl) dX1_doRoll_11 (fun H locs hP hD hS => ?_)
  have hP : va_P D vwCl (wG h0 c_mover 1 r1 c_stake c_cube c_pieces0 c_pieces1 c_score0 c_score1 c_hits0 c_hits1 c_stopped c_stopPart) H := hP
  have hD : va_D A (wG h0 c_mover 1 r1 c_stake c_cube c_pieces0 c_pieces1 c_score0 c_score1 c_hits0 c_hits1 c_stopped c_stopPart) := hD
  cases hm
  exact k_end_v hx hb hr hlocks hK hP hD hS dX1_doRoll_14

abbrev rmX1_reachNow : Room := { frames := 10, cells := 0, slots := 0, locals := 312 }
set_option maxHeartbeats 4000000 in
set_option maxRecDepth 100000 in
theorem zX1_reachNow {l : Launch} {D : va_G} {cI cJ cC cG : ClassId} {sz : Nat} {h0 : Nat} {c_mover : Int32} {c_phase : Int32} {c_dice : Int32} {c_stake : Int32} {c_cube : Int32} {c_pieces0 : Int64} {c_pieces1 : Int64} {c_score0 : Int32} {c_score1 : Int32} {c_hits0 : Int32} {c_hits1 : Int32} {c_stopped : Bool} {c_stopPart : Int32} {r : Int32} (hm : mX1_reachNow c_mover c_dice c_pieces0 c_pieces1 = some (r)) : k_Mi l yX1_reachNow wsX1_reachNow rmX1_reachNow D (kT cI cJ cC cG) sz ([.ref h0] : List Value) (wG h0 c_mover c_phase c_dice c_stake c_cube c_pieces0 c_pieces1 c_score0 c_score1 c_hits0 c_hits1 c_stopped c_stopPart) (wG h0 c_mover c_phase c_dice c_stake c_cube c_pieces0 c_pieces1 c_score0 c_score1 c_hits0 c_hits1 c_stopped c_stopPart) r := by
  refine k_st_i (cc := cX1_reachNow) (maxL := 1) (by decide) rfl (Nat.le_of_ble_eq_true rfl) ?_
  intro p e z m below meth c A hx hb hr hml hts hown hlocks hsz hN hA hK hP hD hS ls hl
  have hown : z.vm.findClass RX1 = some m.cls := hown
  have hinX1 : ∀ w ∈ wsX10, w ∈ wsX1_reachNow := by decide +kernel
  have fl18 := hts (.fieldLink RX1 18 "MagpieRuns$Game" "dice" "I") (by decide +kernel)
  have hl : lv_has ls 1 [(0, .ref h0)] := hl
  unfold mX1_reachNow at hm
  refine lv_aload_n hx hb dX1_reachNow_0 rfl (lv_at hl 0 rfl) ?_
  obtain ⟨r1, hc1, hm⟩ := k_bds hm
  refine k_l_s (k_rV (As := []) (rest := []) ⟨hx, hb, hml, hown, hts⟩ hK hN hP hD (zX1_moversPieces hc1) (cwV 0 hts gX1_reachNow_X1_moversPieces rfl rfl rfl (by decide +kernel) ⟨Nat.le_of_ble_eq_true rfl, Nat.le_of_ble_eq_true rfl⟩) rfl rfl rfl hl.1 rfl (Nat.le_of_ble_eq_true rfl) dX1_reachNow_1 ⟨Nat.zero_le _, Nat.zero_le _⟩) hD hS hA (fun H locs hP hD hS => ?_)
  refine lv_aload_n hx hb dX1_reachNow_4 rfl (lv_at hl 0 rfl) ?_
  obtain ⟨r2, hc5, hm⟩ := k_bds hm
  refine k_l_s (k_rV (As := []) (rest := [.long r1]) ⟨hx, hb, hml, hown, hts⟩ hK hN hP hD (zX1_othersPieces hc5) (cwV 0 hts gX1_reachNow_X1_othersPieces rfl rfl rfl (by decide +kernel) ⟨Nat.le_of_ble_eq_true rfl, Nat.le_of_ble_eq_true rfl⟩) rfl rfl rfl hl.1 rfl (Nat.le_of_ble_eq_true rfl) dX1_reachNow_5 ⟨Nat.zero_le _, Nat.zero_le _⟩) hD hS hA (fun H locs hP hD hS => ?_)
  refine lv_aload_n hx hb dX1_reachNow_8 rfl (lv_at hl 0 rfl) ?_
  refine va_get (D := D) (ci := 0) (v := .int c_dice) (C := RX1) (T := TX1) (N := 13) hx hb hts hinX1 hown hK hP 0 rfl rfl 2 (by decide) fl18 (fun _ h9 => h9) rfl dX1_reachNow_9 ?_
  refine lv_iconst (v := 4) hx hb dX1_reachNow_12 (by decide) ?_
  obtain ⟨r3, hc13, hm⟩ := k_bds hm
  refine k_i_0 (k_rSN (As := [.long r1, .long r2, .int c_dice, .int 4]) (rest := []) ⟨hx, hb, hml, hown, hts⟩ hK hN k_P0 (k_D0 (A := A)) (zX7_reachOf 6 hc13) ⟨va_cnB 4 hts gX1_reachNow_X7_reachOf_n84 rfl rfl rfl hN.1 (hts (.initialized RX7) (by decide +kernel)) (by decide +kernel) ⟨Nat.le_of_ble_eq_true rfl, Nat.le_of_ble_eq_true rfl⟩, hts (.static yX7_reachOf) (by decide +kernel), trivial⟩ rfl hl.1 rfl (Nat.le_of_ble_eq_true rfl) dX1_reachNow_13 ⟨Nat.zero_le _, Nat.zero_le _⟩) hP hS hA (fun H locs hP hS => ?_)
  cases hm
  exact k_end_i hx hb hr hlocks hK hP hD hS dX1_reachNow_16

abbrev rmX1_reasonAgainst : Room := { frames := 11, cells := 0, slots := 0, locals := 342 }
set_option maxHeartbeats 4000000 in
set_option maxRecDepth 100000 in
theorem zX1_reasonAgainst {l : Launch} {D : va_G} {cI cJ cC cG : ClassId} {sz : Nat} {h0 : Nat} {c_mover : Int32} {c_phase : Int32} {c_dice : Int32} {c_stake : Int32} {c_cube : Int32} {c_pieces0 : Int64} {c_pieces1 : Int64} {c_score0 : Int32} {c_score1 : Int32} {c_hits0 : Int32} {c_hits1 : Int32} {c_stopped : Bool} {c_stopPart : Int32} {a1 : Int32} {a2 : Int32} {r : Int32} (hm : mX1_reasonAgainst c_mover c_dice c_pieces0 c_pieces1 a1 a2 = some (r)) : k_Mi l yX1_reasonAgainst wsX1_reasonAgainst rmX1_reasonAgainst D (kT cI cJ cC cG) sz ([.ref h0, .int a1, .int a2] : List Value) (wG h0 c_mover c_phase c_dice c_stake c_cube c_pieces0 c_pieces1 c_score0 c_score1 c_hits0 c_hits1 c_stopped c_stopPart) (wG h0 c_mover c_phase c_dice c_stake c_cube c_pieces0 c_pieces1 c_score0 c_score1 c_hits0 c_hits1 c_stopped c_stopPart) r := by
  refine k_st_i (cc := cX1_reasonAgainst) (maxL := 3) (by decide) rfl (Nat.le_of_ble_eq_true rfl) ?_
  intro p e z m below meth c A hx hb hr hml hts hown hlocks hsz hN hA hK hP hD hS ls hl
  have hown : z.vm.findClass RX1 = some m.cls := hown
  have hinX1 : ∀ w ∈ wsX10, w ∈ wsX1_reasonAgainst := by decide +kernel
  have fl9 := hts (.fieldLink RX1 9 "MagpieRuns$Game" "mover" "I") (by decide +kernel)
  have fl18 := hts (.fieldLink RX1 18 "MagpieRuns$Game" "dice" "I") (by decide +kernel)
  have hl : lv_has ls 3 [(0, .ref h0), (1, .int a1), (2, .int a2)] := hl
  unfold mX1_reasonAgainst at hm
  refine lv_aload_n hx hb dX1_reasonAgainst_0 rfl (lv_at hl 0 rfl) ?_
  obtain ⟨r1, hc1, hm⟩ := k_bds hm
  refine k_l_s (k_rV (As := []) (rest := []) ⟨hx, hb, hml, hown, hts⟩ hK hN hP hD (zX1_moversPieces hc1) (cwV 0 hts gX1_reasonAgainst_X1_moversPieces rfl rfl rfl (by decide +kernel) ⟨Nat.le_of_ble_eq_true rfl, Nat.le_of_ble_eq_true rfl⟩) rfl rfl rfl hl.1 rfl (Nat.le_of_ble_eq_true rfl) dX1_reasonAgainst_1 ⟨Nat.zero_le _, Nat.zero_le _⟩) hD hS hA (fun H locs hP hD hS => ?_)
  refine lv_aload_n hx hb dX1_reasonAgainst_4 rfl (lv_at hl 0 rfl) ?_
  obtain ⟨r2, hc5, hm⟩ := k_bds hm
  refine k_l_s (k_rV (As := []) (rest := [.long r1]) ⟨hx, hb, hml, hown, hts⟩ hK hN hP hD (zX1_othersPieces hc5) (cwV 0 hts gX1_reasonAgainst_X1_othersPieces rfl rfl rfl (by decide +kernel) ⟨Nat.le_of_ble_eq_true rfl, Nat.le_of_ble_eq_true rfl⟩) rfl rfl rfl hl.1 rfl (Nat.le_of_ble_eq_true rfl) dX1_reasonAgainst_5 ⟨Nat.zero_le _, Nat.zero_le _⟩) hD hS hA (fun H locs hP hD hS => ?_)
  refine lv_aload_n hx hb dX1_reasonAgainst_8 rfl (lv_at hl 0 rfl) ?_
  refine va_get (D := D) (ci := 0) (v := .int c_dice) (C := RX1) (T := TX1) (N := 13) hx hb hts hinX1 hown hK hP 0 rfl rfl 2 (by decide) fl18 (fun _ h9 => h9) rfl dX1_reasonAgainst_9 ?_
  refine lv_aload_n hx hb dX1_reasonAgainst_12 rfl (lv_at hl 0 rfl) ?_
  refine va_get (D := D) (ci := 0) (v := .int c_mover) (C := RX1) (T := TX1) (N := 13) hx hb hts hinX1 hown hK hP 0 rfl rfl 0 (by decide) fl9 (fun _ h9 => h9) rfl dX1_reasonAgainst_13 ?_
  refine lv_iload_n hx hb dX1_reasonAgainst_16 rfl (lv_at hl 1 rfl) ?_
  obtain ⟨r3, hc17, hm⟩ := k_bds hm
  refine k_i_0 (k_rS (As := [.int c_mover, .int a1]) (rest := [.int c_dice, .long r2, .long r1]) ⟨hx, hb, hml, hown, hts⟩ hK hN k_P0 (k_D0 (A := A)) (zX1_wayOf hc17) (va_cwS 2 hts gX1_reasonAgainst_X1_wayOf rfl rfl rfl (by decide +kernel) ⟨Nat.le_of_ble_eq_true rfl, Nat.le_of_ble_eq_true rfl⟩) rfl hl.1 rfl (Nat.le_of_ble_eq_true rfl) dX1_reasonAgainst_17 ⟨Nat.zero_le _, Nat.zero_le _⟩) hP hS hA (fun H locs hP hS => ?_)
  refine lv_iload_n hx hb dX1_reasonAgainst_20 rfl (lv_at hl 2 rfl) ?_
  refine lv_aload_n hx hb dX1_reasonAgainst_21 rfl (lv_at hl 0 rfl) ?_
  obtain ⟨r4, hc22, hm⟩ := k_bds hm
  refine k_i_s (k_rV (As := []) (rest := [.int a2, .int r3, .int c_dice, .long r2, .long r1]) ⟨hx, hb, hml, hown, hts⟩ hK hN hP hD (zX1_reachNow hc22) (cwV 0 hts gX1_reasonAgainst_X1_reachNow rfl rfl rfl (by decide +kernel) ⟨Nat.le_of_ble_eq_true rfl, Nat.le_of_ble_eq_true rfl⟩) rfl rfl rfl hl.1 rfl (Nat.le_of_ble_eq_true rfl) dX1_reasonAgainst_22 ⟨Nat.zero_le _, Nat.zero_le _⟩) hD hS hA (fun H locs hP hD hS => ?_)
  obtain ⟨r5, hc25, hm⟩ := k_bds hm
  refine k_i_0 (k_rS (As := [.long r1, .long r2, .int c_dice, .int r3, .int a2, .int r4]) (rest := []) ⟨hx, hb, hml, hown, hts⟩ hK hN k_P0 (k_D0 (A := A)) (zX7_reason hc25) (va_cwS 6 hts gX1_reasonAgainst_X7_reason rfl rfl rfl (by decide +kernel) ⟨Nat.le_of_ble_eq_true rfl, Nat.le_of_ble_eq_true rfl⟩) rfl hl.1 rfl (Nat.le_of_ble_eq_true rfl) dX1_reasonAgainst_25 ⟨Nat.zero_le _, Nat.zero_le _⟩) hP hS hA (fun H locs hP hS => ?_)
  cases hm
  exact k_end_i hx hb hr hlocks hK hP hD hS dX1_reasonAgainst_28

abbrev rmX1_winBy : Room := { frames := 0, cells := 0, slots := 0, locals := 0 }
set_option maxHeartbeats 4000000 in
set_option maxRecDepth 100000 in
theorem zX1_winBy {l : Launch} {D : va_G} {cI cJ cC cG : ClassId} {sz : Nat} {h0 : Nat} {c_mover : Int32} {c_phase : Int32} {c_dice : Int32} {c_stake : Int32} {c_cube : Int32} {c_pieces0 : Int64} {c_pieces1 : Int64} {c_score0 : Int32} {c_score1 : Int32} {c_hits0 : Int32} {c_hits1 : Int32} {c_stopped : Bool} {c_stopPart : Int32} {a1 : Int32} {c_phase' : Int32} {c_dice' : Int32} {c_score0' : Int32} {c_score1' : Int32} (hm : mX1_winBy c_mover c_phase c_dice c_score0 c_score1 a1 = some (c_phase', c_dice', c_score0', c_score1')) : k_Mv l yX1_winBy wsX1_winBy rmX1_winBy D (kT cI cJ cC cG) sz ([.ref h0, .int a1] : List Value) (wG h0 c_mover c_phase c_dice c_stake c_cube c_pieces0 c_pieces1 c_score0 c_score1 c_hits0 c_hits1 c_stopped c_stopPart) (wG h0 c_mover c_phase' c_dice' c_stake c_cube c_pieces0 c_pieces1 c_score0' c_score1' c_hits0 c_hits1 c_stopped c_stopPart) := by
  refine k_st_v (cc := cX1_winBy) (maxL := 2) (by decide) rfl (Nat.le_of_ble_eq_true rfl) ?_
  intro p e z m below meth c A hx hb hr hml hts hown hlocks hsz hN hA hK hP hD hS ls hl
  have hown : z.vm.findClass RX1 = some m.cls := hown
  have hinX1 : ∀ w ∈ wsX10, w ∈ wsX1_winBy := by decide +kernel
  have fl9 := hts (.fieldLink RX1 9 "MagpieRuns$Game" "mover" "I") (by decide +kernel)
  have fl15 := hts (.fieldLink RX1 15 "MagpieRuns$Game" "phase" "I") (by decide +kernel)
  have fl18 := hts (.fieldLink RX1 18 "MagpieRuns$Game" "dice" "I") (by decide +kernel)
  have fl38 := hts (.fieldLink RX1 38 "MagpieRuns$Game" "score0" "I") (by decide +kernel)
  have fl41 := hts (.fieldLink RX1 41 "MagpieRuns$Game" "score1" "I") (by decide +kernel)
  have hl : lv_has ls 2 [(0, .ref h0), (1, .int a1)] := hl
  have J_30 : ∀ (c_phase : Int32) (c_dice : Int32) (c_score0 : Int32) (c_score1 : Int32) (H : Heap) (locs : List Loc), va_P D vwCl (wG h0 c_mover c_phase c_dice c_stake c_cube c_pieces0 c_pieces1 c_score0 c_score1 c_hits0 c_hits1 c_stopped c_stopPart) H → va_D A (wG h0 c_mover c_phase c_dice c_stake c_cube c_pieces0 c_pieces1 c_score0 c_score1 c_hits0 c_hits1 c_stopped c_stopPart) → va_S A z.heap H locs → ∀ ls : Array Slot, lv_has ls 2 [(0, .ref h0)] → mX1_winBy_30 c_mover a1 c_phase c_dice c_score0 c_score1 = some (c_phase', c_dice', c_score0', c_score1') → W p l e rmX1_winBy z m ([.ref h0, .int a1] : List Value).toArray below meth c H locs 0 0 (k_Qv below ([.ref h0, .int a1] : List Value) D (kT cI cJ cC cG) z A (wG h0 c_mover c_phase' c_dice' c_stake c_cube c_pieces0 c_pieces1 c_score0' c_score1' c_hits0 c_hits1 c_stopped c_stopPart)) (F0 m 30 ls []) := by
    intro c_phase c_dice c_score0 c_score1 H locs hP hD hS ls hl hm
    unfold mX1_winBy_30 at hm
    refine lv_aload_n hx hb dX1_winBy_30 rfl (lv_at hl 0 rfl) ?_
    refine lv_iconst (v := 0) hx hb dX1_winBy_31 (by decide) ?_
    refine va_put (D := D) (ci := 0) (v := .int 0) (ty := .int) (C := RX1) (T := TX1) (N := 13) hx hb hts hinX1 tyX1 tyX1_ok nmX1 hown hK hP hD hS 0 rfl rfl 2 (by decide) fl18 (fun _ h9 => h9) rfl (by decide +kernel) rfl rfl (Nat.le_of_ble_eq_true rfl) dX1_winBy_32 (fun H locs hP hD hS => ?_)
    have hP : va_P D vwCl (wG h0 c_mover c_phase 0 c_stake c_cube c_pieces0 c_pieces1 c_score0 c_score1 c_hits0 c_hits1 c_stopped c_stopPart) H := hP
    have hD : va_D A (wG h0 c_mover c_phase 0 c_stake c_cube c_pieces0 c_pieces1 c_score0 c_score1 c_hits0 c_hits1 c_stopped c_stopPart) := hD
    refine lv_aload_n hx hb dX1_winBy_35 rfl (lv_at hl 0 rfl) ?_
    refine lv_iconst (v := 3) hx hb dX1_winBy_36 (by decide) ?_
    refine va_put (D := D) (ci := 0) (v := .int 3) (ty := .int) (C := RX1) (T := TX1) (N := 13) hx hb hts hinX1 tyX1 tyX1_ok nmX1 hown hK hP hD hS 0 rfl rfl 1 (by decide) fl15 (fun _ h9 => h9) rfl (by decide +kernel) rfl rfl (Nat.le_of_ble_eq_true rfl) dX1_winBy_37 (fun H locs hP hD hS => ?_)
    have hP : va_P D vwCl (wG h0 c_mover 3 0 c_stake c_cube c_pieces0 c_pieces1 c_score0 c_score1 c_hits0 c_hits1 c_stopped c_stopPart) H := hP
    have hD : va_D A (wG h0 c_mover 3 0 c_stake c_cube c_pieces0 c_pieces1 c_score0 c_score1 c_hits0 c_hits1 c_stopped c_stopPart) := hD
    cases hm
    exact k_end_v hx hb hr hlocks hK hP hD hS dX1_winBy_40
  unfold mX1_winBy at hm
  refine lv_aload_n hx hb dX1_winBy_0 rfl (lv_at hl 0 rfl) ?_
  refine va_get (D := D) (ci := 0) (v := .int c_mover) (C := RX1) (T := TX1) (N := 13) hx hb hts hinX1 hown hK hP 0 rfl rfl 0 (by decide) fl9 (fun _ h9 => h9) rfl dX1_winBy_1 ?_
  refine lv_if_ne (tgt := 20) hx hb dX1_winBy_4 (by decide) (fun cc4 => ?_) (fun cc4 => ?_)
  · have hm := k_in cc4 hm
    refine lv_aload_n hx hb dX1_winBy_20 rfl (lv_at hl 0 rfl) ?_
    refine lv_dup hx hb dX1_winBy_21 rfl ?_
    refine va_get (D := D) (ci := 0) (v := .int c_score1) (C := RX1) (T := TX1) (N := 13) hx hb hts hinX1 hown hK hP 0 rfl rfl 8 (by decide) fl41 (fun _ h9 => h9) rfl dX1_winBy_22 ?_
    refine lv_iload_n hx hb dX1_winBy_25 rfl (lv_at hl 1 rfl) ?_
    refine lv_iadd hx hb dX1_winBy_26 ?_
    refine va_put (D := D) (ci := 0) (v := .int (c_score1 + a1)) (ty := .int) (C := RX1) (T := TX1) (N := 13) hx hb hts hinX1 tyX1 tyX1_ok nmX1 hown hK hP hD hS 0 rfl rfl 8 (by decide) fl41 (fun _ h9 => h9) rfl (by decide +kernel) rfl rfl (Nat.le_of_ble_eq_true rfl) dX1_winBy_27 (fun H locs hP hD hS => ?_)
    have hP : va_P D vwCl (wG h0 c_mover c_phase c_dice c_stake c_cube c_pieces0 c_pieces1 c_score0 (c_score1 + a1) c_hits0 c_hits1 c_stopped c_stopPart) H := hP
    have hD : va_D A (wG h0 c_mover c_phase c_dice c_stake c_cube c_pieces0 c_pieces1 c_score0 (c_score1 + a1) c_hits0 c_hits1 c_stopped c_stopPart) := hD
    exact J_30 c_phase c_dice c_score0 (c_score1 + a1) _ _ hP hD hS _ (lv_sub hl [0] rfl) hm
  · have hm := k_ip cc4 hm
    refine lv_aload_n hx hb dX1_winBy_7 rfl (lv_at hl 0 rfl) ?_
    refine lv_dup hx hb dX1_winBy_8 rfl ?_
    refine va_get (D := D) (ci := 0) (v := .int c_score0) (C := RX1) (T := TX1) (N := 13) hx hb hts hinX1 hown hK hP 0 rfl rfl 7 (by decide) fl38 (fun _ h9 => h9) rfl dX1_winBy_9 ?_
    refine lv_iload_n hx hb dX1_winBy_12 rfl (lv_at hl 1 rfl) ?_
    refine lv_iadd hx hb dX1_winBy_13 ?_
    refine va_put (D := D) (ci := 0) (v := .int (c_score0 + a1)) (ty := .int) (C := RX1) (T := TX1) (N := 13) hx hb hts hinX1 tyX1 tyX1_ok nmX1 hown hK hP hD hS 0 rfl rfl 7 (by decide) fl38 (fun _ h9 => h9) rfl (by decide +kernel) rfl rfl (Nat.le_of_ble_eq_true rfl) dX1_winBy_14 (fun H locs hP hD hS => ?_)
    have hP : va_P D vwCl (wG h0 c_mover c_phase c_dice c_stake c_cube c_pieces0 c_pieces1 (c_score0 + a1) c_score1 c_hits0 c_hits1 c_stopped c_stopPart) H := hP
    have hD : va_D A (wG h0 c_mover c_phase c_dice c_stake c_cube c_pieces0 c_pieces1 (c_score0 + a1) c_score1 c_hits0 c_hits1 c_stopped c_stopPart) := hD
    refine lv_goto (tgt := 30) hx hb dX1_winBy_17 (by decide) ?_
    exact J_30 c_phase c_dice (c_score0 + a1) c_score1 _ _ hP hD hS _ (lv_sub hl [0] rfl) hm

abbrev rmX1_countHit : Room := { frames := 0, cells := 0, slots := 0, locals := 0 }
set_option maxHeartbeats 4000000 in
set_option maxRecDepth 100000 in
theorem zX1_countHit {l : Launch} {D : va_G} {cI cJ cC cG : ClassId} {sz : Nat} {h0 : Nat} {c_mover : Int32} {c_phase : Int32} {c_dice : Int32} {c_stake : Int32} {c_cube : Int32} {c_pieces0 : Int64} {c_pieces1 : Int64} {c_score0 : Int32} {c_score1 : Int32} {c_hits0 : Int32} {c_hits1 : Int32} {c_stopped : Bool} {c_stopPart : Int32} {a1 : Int32} {c_hits0' : Int32} {c_hits1' : Int32} (hm : mX1_countHit c_hits0 c_hits1 a1 = some (c_hits0', c_hits1')) : k_Mv l yX1_countHit wsX1_countHit rmX1_countHit D (kT cI cJ cC cG) sz ([.ref h0, .int a1] : List Value) (wG h0 c_mover c_phase c_dice c_stake c_cube c_pieces0 c_pieces1 c_score0 c_score1 c_hits0 c_hits1 c_stopped c_stopPart) (wG h0 c_mover c_phase c_dice c_stake c_cube c_pieces0 c_pieces1 c_score0 c_score1 c_hits0' c_hits1' c_stopped c_stopPart) := by
  refine k_st_v (cc := cX1_countHit) (maxL := 2) (by decide) rfl (Nat.le_of_ble_eq_true rfl) ?_
  intro p e z m below meth c A hx hb hr hml hts hown hlocks hsz hN hA hK hP hD hS ls hl
  have hown : z.vm.findClass RX1 = some m.cls := hown
  have hinX1 : ∀ w ∈ wsX10, w ∈ wsX1_countHit := by decide +kernel
  have fl44 := hts (.fieldLink RX1 44 "MagpieRuns$Game" "hits0" "I") (by decide +kernel)
  have fl47 := hts (.fieldLink RX1 47 "MagpieRuns$Game" "hits1" "I") (by decide +kernel)
  have hl : lv_has ls 2 [(0, .ref h0), (1, .int a1)] := hl
  unfold mX1_countHit at hm
  refine lv_iload_n hx hb dX1_countHit_0 rfl (lv_at hl 1 rfl) ?_
  refine lv_if_ne (tgt := 17) hx hb dX1_countHit_1 (by decide) (fun cc1 => ?_) (fun cc1 => ?_)
  · have hm := k_in cc1 hm
    refine lv_aload_n hx hb dX1_countHit_17 rfl (lv_at hl 0 rfl) ?_
    refine lv_dup hx hb dX1_countHit_18 rfl ?_
    refine va_get (D := D) (ci := 0) (v := .int c_hits1) (C := RX1) (T := TX1) (N := 13) hx hb hts hinX1 hown hK hP 0 rfl rfl 10 (by decide) fl47 (fun _ h9 => h9) rfl dX1_countHit_19 ?_
    refine lv_iconst (v := 1) hx hb dX1_countHit_22 (by decide) ?_
    refine lv_iadd hx hb dX1_countHit_23 ?_
    refine va_put (D := D) (ci := 0) (v := .int (c_hits1 + 1)) (ty := .int) (C := RX1) (T := TX1) (N := 13) hx hb hts hinX1 tyX1 tyX1_ok nmX1 hown hK hP hD hS 0 rfl rfl 10 (by decide) fl47 (fun _ h9 => h9) rfl (by decide +kernel) rfl rfl (Nat.le_of_ble_eq_true rfl) dX1_countHit_24 (fun H locs hP hD hS => ?_)
    have hP : va_P D vwCl (wG h0 c_mover c_phase c_dice c_stake c_cube c_pieces0 c_pieces1 c_score0 c_score1 c_hits0 (c_hits1 + 1) c_stopped c_stopPart) H := hP
    have hD : va_D A (wG h0 c_mover c_phase c_dice c_stake c_cube c_pieces0 c_pieces1 c_score0 c_score1 c_hits0 (c_hits1 + 1) c_stopped c_stopPart) := hD
    cases hm
    exact k_end_v hx hb hr hlocks hK hP hD hS dX1_countHit_27
  · have hm := k_ip cc1 hm
    refine lv_aload_n hx hb dX1_countHit_4 rfl (lv_at hl 0 rfl) ?_
    refine lv_dup hx hb dX1_countHit_5 rfl ?_
    refine va_get (D := D) (ci := 0) (v := .int c_hits0) (C := RX1) (T := TX1) (N := 13) hx hb hts hinX1 hown hK hP 0 rfl rfl 9 (by decide) fl44 (fun _ h9 => h9) rfl dX1_countHit_6 ?_
    refine lv_iconst (v := 1) hx hb dX1_countHit_9 (by decide) ?_
    refine lv_iadd hx hb dX1_countHit_10 ?_
    refine va_put (D := D) (ci := 0) (v := .int (c_hits0 + 1)) (ty := .int) (C := RX1) (T := TX1) (N := 13) hx hb hts hinX1 tyX1 tyX1_ok nmX1 hown hK hP hD hS 0 rfl rfl 9 (by decide) fl44 (fun _ h9 => h9) rfl (by decide +kernel) rfl rfl (Nat.le_of_ble_eq_true rfl) dX1_countHit_11 (fun H locs hP hD hS => ?_)
    have hP : va_P D vwCl (wG h0 c_mover c_phase c_dice c_stake c_cube c_pieces0 c_pieces1 c_score0 c_score1 (c_hits0 + 1) c_hits1 c_stopped c_stopPart) H := hP
    have hD : va_D A (wG h0 c_mover c_phase c_dice c_stake c_cube c_pieces0 c_pieces1 c_score0 c_score1 (c_hits0 + 1) c_hits1 c_stopped c_stopPart) := hD
    refine lv_goto (tgt := 27) hx hb dX1_countHit_14 (by decide) ?_
    cases hm
    exact k_end_v hx hb hr hlocks hK hP hD hS dX1_countHit_27

abbrev rmX1_doStep : Room := { frames := 2, cells := 0, slots := 0, locals := 46 }
set_option maxHeartbeats 4000000 in
set_option maxRecDepth 100000 in
theorem zX1_doStep {l : Launch} {D : va_G} {cI cJ cC cG : ClassId} {sz : Nat} {h0 : Nat} {c_mover : Int32} {c_phase : Int32} {c_dice : Int32} {c_stake : Int32} {c_cube : Int32} {c_pieces0 : Int64} {c_pieces1 : Int64} {c_score0 : Int32} {c_score1 : Int32} {c_hits0 : Int32} {c_hits1 : Int32} {c_stopped : Bool} {c_stopPart : Int32} {a1 : Int32} {a2 : Int32} {r : Bool} {c_phase' : Int32} {c_dice' : Int32} {c_pieces0' : Int64} {c_pieces1' : Int64} {c_score0' : Int32} {c_score1' : Int32} {c_hits0' : Int32} {c_hits1' : Int32} (hm : mX1_doStep c_mover c_phase c_dice c_stake c_pieces0 c_pieces1 c_score0 c_score1 c_hits0 c_hits1 a1 a2 = some (r, c_phase', c_dice', c_pieces0', c_pieces1', c_score0', c_score1', c_hits0', c_hits1')) : k_Mi l yX1_doStep wsX1_doStep rmX1_doStep D (kT cI cJ cC cG) sz ([.ref h0, .int a1, .int a2] : List Value) (wG h0 c_mover c_phase c_dice c_stake c_cube c_pieces0 c_pieces1 c_score0 c_score1 c_hits0 c_hits1 c_stopped c_stopPart) (wG h0 c_mover c_phase' c_dice' c_stake c_cube c_pieces0' c_pieces1' c_score0' c_score1' c_hits0' c_hits1' c_stopped c_stopPart) (k_b r) := by
  refine k_st_i (cc := cX1_doStep) (maxL := 8) (by decide) rfl (Nat.le_of_ble_eq_true rfl) ?_
  intro p e z m below meth c A hx hb hr hml hts hown hlocks hsz hN hA hK hP hD hS ls hl
  have hown : z.vm.findClass RX1 = some m.cls := hown
  have hinX1 : ∀ w ∈ wsX10, w ∈ wsX1_doStep := by decide +kernel
  have fl9 := hts (.fieldLink RX1 9 "MagpieRuns$Game" "mover" "I") (by decide +kernel)
  have fl18 := hts (.fieldLink RX1 18 "MagpieRuns$Game" "dice" "I") (by decide +kernel)
  have fl21 := hts (.fieldLink RX1 21 "MagpieRuns$Game" "stake" "I") (by decide +kernel)
  have hl : lv_has ls 8 [(0, .ref h0), (1, .int a1), (2, .int a2)] := hl
  have J_140 : ∀ (t0 : Int32) (l6 : Bool) (c_phase : Int32) (c_dice : Int32) (c_pieces0 : Int64) (c_pieces1 : Int64) (c_score0 : Int32) (c_score1 : Int32) (c_hits0 : Int32) (c_hits1 : Int32) (H : Heap) (locs : List Loc), va_P D vwCl (wG h0 c_mover c_phase c_dice c_stake c_cube c_pieces0 c_pieces1 c_score0 c_score1 c_hits0 c_hits1 c_stopped c_stopPart) H → va_D A (wG h0 c_mover c_phase c_dice c_stake c_cube c_pieces0 c_pieces1 c_score0 c_score1 c_hits0 c_hits1 c_stopped c_stopPart) → va_S A z.heap H locs → ∀ ls : Array Slot, lv_has ls 8 [(6, .int (k_b l6))] → mX1_doStep_140 c_mover c_stake a1 a2 t0 l6 c_phase c_dice c_pieces0 c_pieces1 c_score0 c_score1 c_hits0 c_hits1 = some (r, c_phase', c_dice', c_pieces0', c_pieces1', c_score0', c_score1', c_hits0', c_hits1') → W p l e rmX1_doStep z m ([.ref h0, .int a1, .int a2] : List Value).toArray below meth c H locs 0 0 (k_Qi below ([.ref h0, .int a1, .int a2] : List Value) D (kT cI cJ cC cG) z A (wG h0 c_mover c_phase' c_dice' c_stake c_cube c_pieces0' c_pieces1' c_score0' c_score1' c_hits0' c_hits1' c_stopped c_stopPart) (k_b r)) (F0 m 140 ls [.int t0, .ref h0]) := by
    intro t0 l6 c_phase c_dice c_pieces0 c_pieces1 c_score0 c_score1 c_hits0 c_hits1 H locs hP hD hS ls hl hm
    unfold mX1_doStep_140 at hm
    obtain ⟨w1, w2, w3, w4, hc140, hm⟩ := k_bd4s hm
    refine k_v_s (k_rV (As := [.int t0]) (rest := []) ⟨hx, hb, hml, hown, hts⟩ hK hN hP hD (zX1_winBy hc140) (cwV 1 hts gX1_doStep_X1_winBy rfl rfl rfl (by decide +kernel) ⟨Nat.le_of_ble_eq_true rfl, Nat.le_of_ble_eq_true rfl⟩) rfl rfl rfl hl.1 rfl (Nat.le_of_ble_eq_true rfl) dX1_doStep_140 ⟨Nat.zero_le _, Nat.zero_le _⟩) hD hS hA (fun H locs hP hD hS => ?_)
    refine lv_iload hx hb dX1_doStep_143 (lv_at hl 0 rfl) ?_
    cases hm
    exact k_end_z _ hx hb hr hlocks hK hP hD hS dX1_doStep_145
  have J_119 : ∀ (t0 : Bool) (l6 : Bool) (c_phase : Int32) (c_dice : Int32) (c_pieces0 : Int64) (c_pieces1 : Int64) (c_score0 : Int32) (c_score1 : Int32) (c_hits0 : Int32) (c_hits1 : Int32) (H : Heap) (locs : List Loc), va_P D vwCl (wG h0 c_mover c_phase c_dice c_stake c_cube c_pieces0 c_pieces1 c_score0 c_score1 c_hits0 c_hits1 c_stopped c_stopPart) H → va_D A (wG h0 c_mover c_phase c_dice c_stake c_cube c_pieces0 c_pieces1 c_score0 c_score1 c_hits0 c_hits1 c_stopped c_stopPart) → va_S A z.heap H locs → ∀ ls : Array Slot, lv_has ls 8 [(0, .ref h0), (6, .int (k_b l6))] → mX1_doStep_119 c_mover c_stake a1 a2 t0 l6 c_phase c_dice c_pieces0 c_pieces1 c_score0 c_score1 c_hits0 c_hits1 = some (r, c_phase', c_dice', c_pieces0', c_pieces1', c_score0', c_score1', c_hits0', c_hits1') → W p l e rmX1_doStep z m ([.ref h0, .int a1, .int a2] : List Value).toArray below meth c H locs 0 0 (k_Qi below ([.ref h0, .int a1, .int a2] : List Value) D (kT cI cJ cC cG) z A (wG h0 c_mover c_phase' c_dice' c_stake c_cube c_pieces0' c_pieces1' c_score0' c_score1' c_hits0' c_hits1' c_stopped c_stopPart) (k_b r)) (F0 m 119 ls [.int (k_b t0)]) := by
    intro t0 l6 c_phase c_dice c_pieces0 c_pieces1 c_score0 c_score1 c_hits0 c_hits1 H locs hP hD hS ls hl hm
    unfold mX1_doStep_119 at hm
    refine lv_istore (lv' := [(7, .int (k_b t0)), (0, .ref h0), (6, .int (k_b l6))]) hx hb dX1_doStep_119 hl (by decide) rfl (fun ls hl => ?_)
    refine lv_aload_n hx hb dX1_doStep_121 rfl (lv_at hl 1 rfl) ?_
    refine lv_iload hx hb dX1_doStep_122 (lv_at hl 0 rfl) ?_
    refine lv_if_eq (tgt := 136) hx hb dX1_doStep_124 (by decide) (fun cc124 => ?_) (fun cc124 => ?_)
    · have hm := k_ip cc124 hm
      refine lv_aload_n hx hb dX1_doStep_136 rfl (lv_at hl 1 rfl) ?_
      refine va_get (D := D) (ci := 0) (v := .int c_stake) (C := RX1) (T := TX1) (N := 13) hx hb hts hinX1 hown hK hP 0 rfl rfl 3 (by decide) fl21 (fun _ h9 => h9) rfl dX1_doStep_137 ?_
      exact J_140 c_stake l6 c_phase c_dice c_pieces0 c_pieces1 c_score0 c_score1 c_hits0 c_hits1 _ _ hP hD hS _ (lv_sub hl [2] rfl) hm
    · have hm := k_in cc124 hm
      refine lv_iconst (v := 2) hx hb dX1_doStep_127 (by decide) ?_
      refine lv_aload_n hx hb dX1_doStep_128 rfl (lv_at hl 1 rfl) ?_
      refine va_get (D := D) (ci := 0) (v := .int c_stake) (C := RX1) (T := TX1) (N := 13) hx hb hts hinX1 hown hK hP 0 rfl rfl 3 (by decide) fl21 (fun _ h9 => h9) rfl dX1_doStep_129 ?_
      refine lv_imul hx hb dX1_doStep_132 ?_
      refine lv_goto (tgt := 140) hx hb dX1_doStep_133 (by decide) ?_
      exact J_140 (2 * c_stake) l6 c_phase c_dice c_pieces0 c_pieces1 c_score0 c_score1 c_hits0 c_hits1 _ _ hP hD hS _ (lv_sub hl [2] rfl) hm
  have J_93 : ∀ (l6 : Bool) (c_phase : Int32) (c_dice : Int32) (c_pieces0 : Int64) (c_pieces1 : Int64) (c_score0 : Int32) (c_score1 : Int32) (c_hits0 : Int32) (c_hits1 : Int32) (H : Heap) (locs : List Loc), va_P D vwCl (wG h0 c_mover c_phase c_dice c_stake c_cube c_pieces0 c_pieces1 c_score0 c_score1 c_hits0 c_hits1 c_stopped c_stopPart) H → va_D A (wG h0 c_mover c_phase c_dice c_stake c_cube c_pieces0 c_pieces1 c_score0 c_score1 c_hits0 c_hits1 c_stopped c_stopPart) → va_S A z.heap H locs → ∀ ls : Array Slot, lv_has ls 8 [(0, .ref h0), (6, .int (k_b l6))] → mX1_doStep_93 c_mover c_stake a1 a2 l6 c_phase c_dice c_pieces0 c_pieces1 c_score0 c_score1 c_hits0 c_hits1 = some (r, c_phase', c_dice', c_pieces0', c_pieces1', c_score0', c_score1', c_hits0', c_hits1') → W p l e rmX1_doStep z m ([.ref h0, .int a1, .int a2] : List Value).toArray below meth c H locs 0 0 (k_Qi below ([.ref h0, .int a1, .int a2] : List Value) D (kT cI cJ cC cG) z A (wG h0 c_mover c_phase' c_dice' c_stake c_cube c_pieces0' c_pieces1' c_score0' c_score1' c_hits0' c_hits1' c_stopped c_stopPart) (k_b r)) (F0 m 93 ls []) := by
    intro l6 c_phase c_dice c_pieces0 c_pieces1 c_score0 c_score1 c_hits0 c_hits1 H locs hP hD hS ls hl hm
    unfold mX1_doStep_93 at hm
    refine lv_aload_n hx hb dX1_doStep_93 rfl (lv_at hl 0 rfl) ?_
    obtain ⟨r5, hc94, hm⟩ := k_bds hm
    refine k_l_s (k_rV (As := []) (rest := []) ⟨hx, hb, hml, hown, hts⟩ hK hN hP hD (zX1_moversPieces hc94) (cwV 0 hts gX1_doStep_X1_moversPieces rfl rfl rfl (by decide +kernel) ⟨Nat.le_of_ble_eq_true rfl, Nat.le_of_ble_eq_true rfl⟩) rfl rfl rfl hl.1 rfl (Nat.le_of_ble_eq_true rfl) dX1_doStep_94 ⟨Nat.zero_le _, Nat.zero_le _⟩) hD hS hA (fun H locs hP hD hS => ?_)
    obtain ⟨r6, hc97, hm⟩ := k_bds hm
    refine k_i_0 (k_rS (As := [.long r5]) (rest := []) ⟨hx, hb, hml, hown, hts⟩ hK hN k_P0 (k_D0 (A := A)) (zX3_allOff hc97) (va_cwS 1 hts gX1_doStep_X3_allOff rfl rfl rfl (by decide +kernel) ⟨Nat.le_of_ble_eq_true rfl, Nat.le_of_ble_eq_true rfl⟩) rfl hl.1 rfl (Nat.le_of_ble_eq_true rfl) dX1_doStep_97 ⟨Nat.zero_le _, Nat.zero_le _⟩) hP hS hA (fun H locs hP hS => ?_)
    refine lv_if_eq (tgt := 143) hx hb dX1_doStep_100 (by decide) (fun cc100 => ?_) (fun cc100 => ?_)
    · have hm := k_ip cc100 hm
      refine lv_iload hx hb dX1_doStep_143 (lv_at hl 1 rfl) ?_
      cases hm
      exact k_end_z _ hx hb hr hlocks hK hP hD hS dX1_doStep_145
    · have hm := k_in cc100 hm
      refine lv_aload_n hx hb dX1_doStep_103 rfl (lv_at hl 0 rfl) ?_
      obtain ⟨r7, hc104, hm⟩ := k_bds hm
      refine k_l_s (k_rV (As := []) (rest := []) ⟨hx, hb, hml, hown, hts⟩ hK hN hP hD (zX1_othersPieces hc104) (cwV 0 hts gX1_doStep_X1_othersPieces rfl rfl rfl (by decide +kernel) ⟨Nat.le_of_ble_eq_true rfl, Nat.le_of_ble_eq_true rfl⟩) rfl rfl rfl hl.1 rfl (Nat.le_of_ble_eq_true rfl) dX1_doStep_104 ⟨Nat.zero_le _, Nat.zero_le _⟩) hD hS hA (fun H locs hP hD hS => ?_)
      refine lv_iconst (v := 0) hx hb dX1_doStep_107 (by decide) ?_
      obtain ⟨r8, hc108, hm⟩ := k_bds hm
      refine k_i_0 (k_rS (As := [.long r7, .int 0]) (rest := []) ⟨hx, hb, hml, hown, hts⟩ hK hN k_P0 (k_D0 (A := A)) (zX3_on hc108) (va_cwS 2 hts gX1_doStep_X3_on rfl rfl rfl (by decide +kernel) ⟨Nat.le_of_ble_eq_true rfl, Nat.le_of_ble_eq_true rfl⟩) rfl hl.1 rfl (Nat.le_of_ble_eq_true rfl) dX1_doStep_108 ⟨Nat.zero_le _, Nat.zero_le _⟩) hP hS hA (fun H locs hP hS => ?_)
      refine lv_if_ne (tgt := 118) hx hb dX1_doStep_111 (by decide) (fun cc111 => ?_) (fun cc111 => ?_)
      · have hm := k_in cc111 hm
        refine lv_iconst (v := 0) hx hb dX1_doStep_118 (by decide) ?_
        exact J_119 false l6 c_phase c_dice c_pieces0 c_pieces1 c_score0 c_score1 c_hits0 c_hits1 _ _ hP hD hS _ (lv_sub hl [0, 1] rfl) hm
      · have hm := k_ip cc111 hm
        refine lv_iconst (v := 1) hx hb dX1_doStep_114 (by decide) ?_
        refine lv_goto (tgt := 119) hx hb dX1_doStep_115 (by decide) ?_
        exact J_119 true l6 c_phase c_dice c_pieces0 c_pieces1 c_score0 c_score1 c_hits0 c_hits1 _ _ hP hD hS _ (lv_sub hl [0, 1] rfl) hm
  have J_35 : ∀ (t0 : Bool) (l3 : Int32) (l4 : Int64) (c_phase : Int32) (c_dice : Int32) (c_pieces0 : Int64) (c_pieces1 : Int64) (c_score0 : Int32) (c_score1 : Int32) (c_hits0 : Int32) (c_hits1 : Int32) (H : Heap) (locs : List Loc), va_P D vwCl (wG h0 c_mover c_phase c_dice c_stake c_cube c_pieces0 c_pieces1 c_score0 c_score1 c_hits0 c_hits1 c_stopped c_stopPart) H → va_D A (wG h0 c_mover c_phase c_dice c_stake c_cube c_pieces0 c_pieces1 c_score0 c_score1 c_hits0 c_hits1 c_stopped c_stopPart) → va_S A z.heap H locs → ∀ ls : Array Slot, lv_has ls 8 [(0, .ref h0), (2, .int a2), (3, .int l3), (4, .long l4)] → mX1_doStep_35 c_mover c_stake a1 a2 t0 l3 l4 c_phase c_dice c_pieces0 c_pieces1 c_score0 c_score1 c_hits0 c_hits1 = some (r, c_phase', c_dice', c_pieces0', c_pieces1', c_score0', c_score1', c_hits0', c_hits1') → W p l e rmX1_doStep z m ([.ref h0, .int a1, .int a2] : List Value).toArray below meth c H locs 0 0 (k_Qi below ([.ref h0, .int a1, .int a2] : List Value) D (kT cI cJ cC cG) z A (wG h0 c_mover c_phase' c_dice' c_stake c_cube c_pieces0' c_pieces1' c_score0' c_score1' c_hits0' c_hits1' c_stopped c_stopPart) (k_b r)) (F0 m 35 ls [.int (k_b t0)]) := by
    intro t0 l3 l4 c_phase c_dice c_pieces0 c_pieces1 c_score0 c_score1 c_hits0 c_hits1 H locs hP hD hS ls hl hm
    unfold mX1_doStep_35 at hm
    refine lv_istore (lv' := [(6, .int (k_b t0)), (0, .ref h0), (2, .int a2), (3, .int l3), (4, .long l4)]) hx hb dX1_doStep_35 hl (by decide) rfl (fun ls hl => ?_)
    refine lv_aload_n hx hb dX1_doStep_37 rfl (lv_at hl 1 rfl) ?_
    refine lv_iconst (v := 1) hx hb dX1_doStep_38 (by decide) ?_
    refine lv_aload_n hx hb dX1_doStep_39 rfl (lv_at hl 1 rfl) ?_
    refine va_get (D := D) (ci := 0) (v := .int c_mover) (C := RX1) (T := TX1) (N := 13) hx hb hts hinX1 hown hK hP 0 rfl rfl 0 (by decide) fl9 (fun _ h9 => h9) rfl dX1_doStep_40 ?_
    refine lv_isub hx hb dX1_doStep_43 ?_
    refine lv_lload hx hb dX1_doStep_44 (lv_at hl 4 rfl) ?_
    obtain ⟨w9, w10, hc46, hm⟩ := k_bd2s hm
    refine k_v_s (k_rV (As := [.int (1 - c_mover), .long l4]) (rest := []) ⟨hx, hb, hml, hown, hts⟩ hK hN hP hD (zX1_setPieces hc46) (cwV 2 hts gX1_doStep_X1_setPieces rfl rfl rfl (by decide +kernel) ⟨Nat.le_of_ble_eq_true rfl, Nat.le_of_ble_eq_true rfl⟩) rfl rfl rfl hl.1 rfl (Nat.le_of_ble_eq_true rfl) dX1_doStep_46 ⟨Nat.zero_le _, Nat.zero_le _⟩) hD hS hA (fun H locs hP hD hS => ?_)
    refine lv_aload_n hx hb dX1_doStep_49 rfl (lv_at hl 1 rfl) ?_
    refine lv_aload_n hx hb dX1_doStep_50 rfl (lv_at hl 1 rfl) ?_
    refine va_get (D := D) (ci := 0) (v := .int c_mover) (C := RX1) (T := TX1) (N := 13) hx hb hts hinX1 hown hK hP 0 rfl rfl 0 (by decide) fl9 (fun _ h9 => h9) rfl dX1_doStep_51 ?_
    refine lv_aload_n hx hb dX1_doStep_54 rfl (lv_at hl 1 rfl) ?_
    obtain ⟨r11, hc55, hm⟩ := k_bds hm
    refine k_l_s (k_rV (As := []) (rest := [.int c_mover, .ref h0]) ⟨hx, hb, hml, hown, hts⟩ hK hN hP hD (zX1_moversPieces hc55) (cwV 0 hts gX1_doStep_X1_moversPieces rfl rfl rfl (by decide +kernel) ⟨Nat.le_of_ble_eq_true rfl, Nat.le_of_ble_eq_true rfl⟩) rfl rfl rfl hl.1 rfl (Nat.le_of_ble_eq_true rfl) dX1_doStep_55 ⟨Nat.zero_le _, Nat.zero_le _⟩) hD hS hA (fun H locs hP hD hS => ?_)
    refine lv_iload_n hx hb dX1_doStep_58 rfl (lv_at hl 3 rfl) ?_
    refine lv_iload_n hx hb dX1_doStep_59 rfl (lv_at hl 2 rfl) ?_
    obtain ⟨r12, hc60, hm⟩ := k_bds hm
    refine k_l_0 (k_rS (As := [.long r11, .int l3, .int a2]) (rest := [.int c_mover, .ref h0]) ⟨hx, hb, hml, hown, hts⟩ hK hN k_P0 (k_D0 (A := A)) (zX7_mineBehind hc60) (va_cwS 3 hts gX1_doStep_X7_mineBehind rfl rfl rfl (by decide +kernel) ⟨Nat.le_of_ble_eq_true rfl, Nat.le_of_ble_eq_true rfl⟩) rfl hl.1 rfl (Nat.le_of_ble_eq_true rfl) dX1_doStep_60 ⟨Nat.zero_le _, Nat.zero_le _⟩) hP hS hA (fun H locs hP hS => ?_)
    obtain ⟨w13, w14, hc63, hm⟩ := k_bd2s hm
    refine k_v_s (k_rV (As := [.int c_mover, .long r12]) (rest := []) ⟨hx, hb, hml, hown, hts⟩ hK hN hP hD (zX1_setPieces hc63) (cwV 2 hts gX1_doStep_X1_setPieces rfl rfl rfl (by decide +kernel) ⟨Nat.le_of_ble_eq_true rfl, Nat.le_of_ble_eq_true rfl⟩) rfl rfl rfl hl.1 rfl (Nat.le_of_ble_eq_true rfl) dX1_doStep_63 ⟨Nat.zero_le _, Nat.zero_le _⟩) hD hS hA (fun H locs hP hD hS => ?_)
    refine lv_aload_n hx hb dX1_doStep_66 rfl (lv_at hl 1 rfl) ?_
    refine lv_aload_n hx hb dX1_doStep_67 rfl (lv_at hl 1 rfl) ?_
    refine va_get (D := D) (ci := 0) (v := .int c_dice) (C := RX1) (T := TX1) (N := 13) hx hb hts hinX1 hown hK hP 0 rfl rfl 2 (by decide) fl18 (fun _ h9 => h9) rfl dX1_doStep_68 ?_
    refine lv_iload_n hx hb dX1_doStep_71 rfl (lv_at hl 2 rfl) ?_
    obtain ⟨r15, hc72, hm⟩ := k_bds hm
    refine k_i_0 (k_rS (As := [.int c_dice, .int a2]) (rest := [.ref h0]) ⟨hx, hb, hml, hown, hts⟩ hK hN k_P0 (k_D0 (A := A)) (zX0_without hc72) (va_cwS 2 hts gX1_doStep_X0_without rfl rfl rfl (by decide +kernel) ⟨Nat.le_of_ble_eq_true rfl, Nat.le_of_ble_eq_true rfl⟩) rfl hl.1 rfl (Nat.le_of_ble_eq_true rfl) dX1_doStep_72 ⟨Nat.zero_le _, Nat.zero_le _⟩) hP hS hA (fun H locs hP hS => ?_)
    refine va_put (D := D) (ci := 0) (v := .int r15) (ty := .int) (C := RX1) (T := TX1) (N := 13) hx hb hts hinX1 tyX1 tyX1_ok nmX1 hown hK hP hD hS 0 rfl rfl 2 (by decide) fl18 (fun _ h9 => h9) rfl (by decide +kernel) rfl rfl (Nat.le_of_ble_eq_true rfl) dX1_doStep_75 (fun H locs hP hD hS => ?_)
    have hP : va_P D vwCl (wG h0 c_mover c_phase r15 c_stake c_cube w13 w14 c_score0 c_score1 c_hits0 c_hits1 c_stopped c_stopPart) H := hP
    have hD : va_D A (wG h0 c_mover c_phase r15 c_stake c_cube w13 w14 c_score0 c_score1 c_hits0 c_hits1 c_stopped c_stopPart) := hD
    refine lv_iload hx hb dX1_doStep_78 (lv_at hl 0 rfl) ?_
    refine lv_if_eq (tgt := 93) hx hb dX1_doStep_80 (by decide) (fun cc80 => ?_) (fun cc80 => ?_)
    · have hm := k_ip cc80 hm
      exact J_93 t0 c_phase r15 w13 w14 c_score0 c_score1 c_hits0 c_hits1 _ _ hP hD hS _ (lv_sub hl [1, 0] rfl) hm
    · have hm := k_in cc80 hm
      refine lv_aload_n hx hb dX1_doStep_83 rfl (lv_at hl 1 rfl) ?_
      refine lv_iconst (v := 1) hx hb dX1_doStep_84 (by decide) ?_
      refine lv_aload_n hx hb dX1_doStep_85 rfl (lv_at hl 1 rfl) ?_
      refine va_get (D := D) (ci := 0) (v := .int c_mover) (C := RX1) (T := TX1) (N := 13) hx hb hts hinX1 hown hK hP 0 rfl rfl 0 (by decide) fl9 (fun _ h9 => h9) rfl dX1_doStep_86 ?_
      refine lv_isub hx hb dX1_doStep_89 ?_
      obtain ⟨w16, w17, hc90, hm⟩ := k_bd2s hm
      refine k_v_s (k_rV (As := [.int (1 - c_mover)]) (rest := []) ⟨hx, hb, hml, hown, hts⟩ hK hN hP hD (zX1_countHit hc90) (cwV 1 hts gX1_doStep_X1_countHit rfl rfl rfl (by decide +kernel) ⟨Nat.le_of_ble_eq_true rfl, Nat.le_of_ble_eq_true rfl⟩) rfl rfl rfl hl.1 rfl (Nat.le_of_ble_eq_true rfl) dX1_doStep_90 ⟨Nat.zero_le _, Nat.zero_le _⟩) hD hS hA (fun H locs hP hD hS => ?_)
      exact J_93 t0 c_phase r15 w13 w14 c_score0 c_score1 w16 w17 _ _ hP hD hS _ (lv_sub hl [1, 0] rfl) hm
  unfold mX1_doStep at hm
  refine lv_aload_n hx hb dX1_doStep_0 rfl (lv_at hl 0 rfl) ?_
  refine va_get (D := D) (ci := 0) (v := .int c_mover) (C := RX1) (T := TX1) (N := 13) hx hb hts hinX1 hown hK hP 0 rfl rfl 0 (by decide) fl9 (fun _ h9 => h9) rfl dX1_doStep_1 ?_
  refine lv_iload_n hx hb dX1_doStep_4 rfl (lv_at hl 1 rfl) ?_
  obtain ⟨r18, hc5, hm⟩ := k_bds hm
  refine k_i_0 (k_rS (As := [.int c_mover, .int a1]) (rest := []) ⟨hx, hb, hml, hown, hts⟩ hK hN k_P0 (k_D0 (A := A)) (zX1_wayOf hc5) (va_cwS 2 hts gX1_doStep_X1_wayOf rfl rfl rfl (by decide +kernel) ⟨Nat.le_of_ble_eq_true rfl, Nat.le_of_ble_eq_true rfl⟩) rfl hl.1 rfl (Nat.le_of_ble_eq_true rfl) dX1_doStep_5 ⟨Nat.zero_le _, Nat.zero_le _⟩) hP hS hA (fun H locs hP hS => ?_)
  refine lv_istore_n (lv' := [(3, .int r18), (0, .ref h0), (1, .int a1), (2, .int a2)]) hx hb dX1_doStep_8 rfl hl (by decide) rfl (fun ls hl => ?_)
  refine lv_aload_n hx hb dX1_doStep_9 rfl (lv_at hl 1 rfl) ?_
  obtain ⟨r19, hc10, hm⟩ := k_bds hm
  refine k_l_s (k_rV (As := []) (rest := []) ⟨hx, hb, hml, hown, hts⟩ hK hN hP hD (zX1_othersPieces hc10) (cwV 0 hts gX1_doStep_X1_othersPieces rfl rfl rfl (by decide +kernel) ⟨Nat.le_of_ble_eq_true rfl, Nat.le_of_ble_eq_true rfl⟩) rfl rfl rfl hl.1 rfl (Nat.le_of_ble_eq_true rfl) dX1_doStep_10 ⟨Nat.zero_le _, Nat.zero_le _⟩) hD hS hA (fun H locs hP hD hS => ?_)
  refine lv_iload_n hx hb dX1_doStep_13 rfl (lv_at hl 0 rfl) ?_
  refine lv_iload_n hx hb dX1_doStep_14 rfl (lv_at hl 3 rfl) ?_
  obtain ⟨r20, hc15, hm⟩ := k_bds hm
  refine k_l_0 (k_rS (As := [.long r19, .int r18, .int a2]) (rest := []) ⟨hx, hb, hml, hown, hts⟩ hK hN k_P0 (k_D0 (A := A)) (zX7_theirsBehind hc15) (va_cwS 3 hts gX1_doStep_X7_theirsBehind rfl rfl rfl (by decide +kernel) ⟨Nat.le_of_ble_eq_true rfl, Nat.le_of_ble_eq_true rfl⟩) rfl hl.1 rfl (Nat.le_of_ble_eq_true rfl) dX1_doStep_15 ⟨Nat.zero_le _, Nat.zero_le _⟩) hP hS hA (fun H locs hP hS => ?_)
  refine lv_lstore (lv' := [(4, .long r20), (3, .int r18), (0, .ref h0), (1, .int a1), (2, .int a2)]) hx hb dX1_doStep_18 hl (by decide) rfl (fun ls hl => ?_)
  refine lv_lload hx hb dX1_doStep_20 (lv_at hl 0 rfl) ?_
  refine lv_aload_n hx hb dX1_doStep_22 rfl (lv_at hl 2 rfl) ?_
  obtain ⟨r21, hc23, hm⟩ := k_bds hm
  refine k_l_s (k_rV (As := []) (rest := [.long r20]) ⟨hx, hb, hml, hown, hts⟩ hK hN hP hD (zX1_othersPieces hc23) (cwV 0 hts gX1_doStep_X1_othersPieces rfl rfl rfl (by decide +kernel) ⟨Nat.le_of_ble_eq_true rfl, Nat.le_of_ble_eq_true rfl⟩) rfl rfl rfl hl.1 rfl (Nat.le_of_ble_eq_true rfl) dX1_doStep_23 ⟨Nat.zero_le _, Nat.zero_le _⟩) hD hS hA (fun H locs hP hD hS => ?_)
  refine W.lcmp hx hb dX1_doStep_26 ?_
  refine lv_if_eq (tgt := 34) hx hb dX1_doStep_27 (by decide) (fun cc27 => ?_) (fun cc27 => ?_)
  · have hm := k_ip cc27 hm
    refine lv_iconst (v := 0) hx hb dX1_doStep_34 (by decide) ?_
    exact J_35 false r18 r20 c_phase c_dice c_pieces0 c_pieces1 c_score0 c_score1 c_hits0 c_hits1 _ _ hP hD hS _ (lv_sub hl [2, 4, 1, 0] rfl) hm
  · have hm := k_in cc27 hm
    refine lv_iconst (v := 1) hx hb dX1_doStep_30 (by decide) ?_
    refine lv_goto (tgt := 35) hx hb dX1_doStep_31 (by decide) ?_
    exact J_35 true r18 r20 c_phase c_dice c_pieces0 c_pieces1 c_score0 c_score1 c_hits0 c_hits1 _ _ hP hD hS _ (lv_sub hl [2, 4, 1, 0] rfl) hm

abbrev rmX1_canEndTurn : Room := { frames := 11, cells := 0, slots := 0, locals := 332 }
set_option maxHeartbeats 4000000 in
set_option maxRecDepth 100000 in
theorem zX1_canEndTurn {l : Launch} {D : va_G} {cI cJ cC cG : ClassId} {sz : Nat} {h0 : Nat} {c_mover : Int32} {c_phase : Int32} {c_dice : Int32} {c_stake : Int32} {c_cube : Int32} {c_pieces0 : Int64} {c_pieces1 : Int64} {c_score0 : Int32} {c_score1 : Int32} {c_hits0 : Int32} {c_hits1 : Int32} {c_stopped : Bool} {c_stopPart : Int32} {r : Bool} (hm : mX1_canEndTurn c_mover c_phase c_dice c_pieces0 c_pieces1 = some (r)) : k_Mi l yX1_canEndTurn wsX1_canEndTurn rmX1_canEndTurn D (kT cI cJ cC cG) sz ([.ref h0] : List Value) (wG h0 c_mover c_phase c_dice c_stake c_cube c_pieces0 c_pieces1 c_score0 c_score1 c_hits0 c_hits1 c_stopped c_stopPart) (wG h0 c_mover c_phase c_dice c_stake c_cube c_pieces0 c_pieces1 c_score0 c_score1 c_hits0 c_hits1 c_stopped c_stopPart) (k_b r) := by
  refine k_st_i (cc := cX1_canEndTurn) (maxL := 1) (by decide) rfl (Nat.le_of_ble_eq_true rfl) ?_
  intro p e z m below meth c A hx hb hr hml hts hown hlocks hsz hN hA hK hP hD hS ls hl
  have hown : z.vm.findClass RX1 = some m.cls := hown
  have hinX1 : ∀ w ∈ wsX10, w ∈ wsX1_canEndTurn := by decide +kernel
  have fl15 := hts (.fieldLink RX1 15 "MagpieRuns$Game" "phase" "I") (by decide +kernel)
  have hl : lv_has ls 1 [(0, .ref h0)] := hl
  unfold mX1_canEndTurn at hm
  refine lv_aload_n hx hb dX1_canEndTurn_0 rfl (lv_at hl 0 rfl) ?_
  refine va_get (D := D) (ci := 0) (v := .int c_phase) (C := RX1) (T := TX1) (N := 13) hx hb hts hinX1 hown hK hP 0 rfl rfl 1 (by decide) fl15 (fun _ h9 => h9) rfl dX1_canEndTurn_1 ?_
  refine lv_iconst (v := 1) hx hb dX1_canEndTurn_4 (by decide) ?_
  refine lv_icmp_ne (tgt := 19) hx hb dX1_canEndTurn_5 (by decide) (fun cc5 => ?_) (fun cc5 => ?_)
  · have hm := k_in cc5 hm
    refine lv_iconst (v := 0) hx hb dX1_canEndTurn_19 (by decide) ?_
    cases hm
    exact k_end_z false hx hb hr hlocks hK hP hD hS dX1_canEndTurn_20
  · have hm := k_ip cc5 hm
    refine lv_aload_n hx hb dX1_canEndTurn_8 rfl (lv_at hl 0 rfl) ?_
    obtain ⟨r1, hc9, hm⟩ := k_bds hm
    refine k_i_s (k_rV (As := []) (rest := []) ⟨hx, hb, hml, hown, hts⟩ hK hN hP hD (zX1_reachNow hc9) (cwV 0 hts gX1_canEndTurn_X1_reachNow rfl rfl rfl (by decide +kernel) ⟨Nat.le_of_ble_eq_true rfl, Nat.le_of_ble_eq_true rfl⟩) rfl rfl rfl hl.1 rfl (Nat.le_of_ble_eq_true rfl) dX1_canEndTurn_9 ⟨Nat.zero_le _, Nat.zero_le _⟩) hD hS hA (fun H locs hP hD hS => ?_)
    refine lv_if_ne (tgt := 19) hx hb dX1_canEndTurn_12 (by decide) (fun cc12 => ?_) (fun cc12 => ?_)
    · have hm := k_in cc12 hm
      refine lv_iconst (v := 0) hx hb dX1_canEndTurn_19 (by decide) ?_
      cases hm
      exact k_end_z false hx hb hr hlocks hK hP hD hS dX1_canEndTurn_20
    · have hm := k_ip cc12 hm
      refine lv_iconst (v := 1) hx hb dX1_canEndTurn_15 (by decide) ?_
      refine lv_goto (tgt := 20) hx hb dX1_canEndTurn_16 (by decide) ?_
      cases hm
      exact k_end_z true hx hb hr hlocks hK hP hD hS dX1_canEndTurn_20

abbrev rmX1_doEndTurn : Room := { frames := 0, cells := 0, slots := 0, locals := 0 }
set_option maxHeartbeats 4000000 in
set_option maxRecDepth 100000 in
theorem zX1_doEndTurn {l : Launch} {D : va_G} {cI cJ cC cG : ClassId} {sz : Nat} {h0 : Nat} {c_mover : Int32} {c_phase : Int32} {c_dice : Int32} {c_stake : Int32} {c_cube : Int32} {c_pieces0 : Int64} {c_pieces1 : Int64} {c_score0 : Int32} {c_score1 : Int32} {c_hits0 : Int32} {c_hits1 : Int32} {c_stopped : Bool} {c_stopPart : Int32} {c_mover' : Int32} {c_phase' : Int32} {c_dice' : Int32} (hm : mX1_doEndTurn c_mover c_phase c_dice = some (c_mover', c_phase', c_dice')) : k_Mv l yX1_doEndTurn wsX1_doEndTurn rmX1_doEndTurn D (kT cI cJ cC cG) sz ([.ref h0] : List Value) (wG h0 c_mover c_phase c_dice c_stake c_cube c_pieces0 c_pieces1 c_score0 c_score1 c_hits0 c_hits1 c_stopped c_stopPart) (wG h0 c_mover' c_phase' c_dice' c_stake c_cube c_pieces0 c_pieces1 c_score0 c_score1 c_hits0 c_hits1 c_stopped c_stopPart) := by
  refine k_st_v (cc := cX1_doEndTurn) (maxL := 1) (by decide) rfl (Nat.le_of_ble_eq_true rfl) ?_
  intro p e z m below meth c A hx hb hr hml hts hown hlocks hsz hN hA hK hP hD hS ls hl
  have hown : z.vm.findClass RX1 = some m.cls := hown
  have hinX1 : ∀ w ∈ wsX10, w ∈ wsX1_doEndTurn := by decide +kernel
  have fl9 := hts (.fieldLink RX1 9 "MagpieRuns$Game" "mover" "I") (by decide +kernel)
  have fl15 := hts (.fieldLink RX1 15 "MagpieRuns$Game" "phase" "I") (by decide +kernel)
  have fl18 := hts (.fieldLink RX1 18 "MagpieRuns$Game" "dice" "I") (by decide +kernel)
  have hl : lv_has ls 1 [(0, .ref h0)] := hl
  unfold mX1_doEndTurn at hm
  refine lv_aload_n hx hb dX1_doEndTurn_0 rfl (lv_at hl 0 rfl) ?_
  refine lv_iconst (v := 1) hx hb dX1_doEndTurn_1 (by decide) ?_
  refine lv_aload_n hx hb dX1_doEndTurn_2 rfl (lv_at hl 0 rfl) ?_
  refine va_get (D := D) (ci := 0) (v := .int c_mover) (C := RX1) (T := TX1) (N := 13) hx hb hts hinX1 hown hK hP 0 rfl rfl 0 (by decide) fl9 (fun _ h9 => h9) rfl dX1_doEndTurn_3 ?_
  refine lv_isub hx hb dX1_doEndTurn_6 ?_
  refine va_put (D := D) (ci := 0) (v := .int (1 - c_mover)) (ty := .int) (C := RX1) (T := TX1) (N := 13) hx hb hts hinX1 tyX1 tyX1_ok nmX1 hown hK hP hD hS 0 rfl rfl 0 (by decide) fl9 (fun _ h9 => h9) rfl (by decide +kernel) rfl rfl (Nat.le_of_ble_eq_true rfl) dX1_doEndTurn_7 (fun H locs hP hD hS => ?_)
  have hP : va_P D vwCl (wG h0 (1 - c_mover) c_phase c_dice c_stake c_cube c_pieces0 c_pieces1 c_score0 c_score1 c_hits0 c_hits1 c_stopped c_stopPart) H := hP
  have hD : va_D A (wG h0 (1 - c_mover) c_phase c_dice c_stake c_cube c_pieces0 c_pieces1 c_score0 c_score1 c_hits0 c_hits1 c_stopped c_stopPart) := hD
  refine lv_aload_n hx hb dX1_doEndTurn_10 rfl (lv_at hl 0 rfl) ?_
  refine lv_iconst (v := 0) hx hb dX1_doEndTurn_11 (by decide) ?_
  refine va_put (D := D) (ci := 0) (v := .int 0) (ty := .int) (C := RX1) (T := TX1) (N := 13) hx hb hts hinX1 tyX1 tyX1_ok nmX1 hown hK hP hD hS 0 rfl rfl 2 (by decide) fl18 (fun _ h9 => h9) rfl (by decide +kernel) rfl rfl (Nat.le_of_ble_eq_true rfl) dX1_doEndTurn_12 (fun H locs hP hD hS => ?_)
  have hP : va_P D vwCl (wG h0 (1 - c_mover) c_phase 0 c_stake c_cube c_pieces0 c_pieces1 c_score0 c_score1 c_hits0 c_hits1 c_stopped c_stopPart) H := hP
  have hD : va_D A (wG h0 (1 - c_mover) c_phase 0 c_stake c_cube c_pieces0 c_pieces1 c_score0 c_score1 c_hits0 c_hits1 c_stopped c_stopPart) := hD
  refine lv_aload_n hx hb dX1_doEndTurn_15 rfl (lv_at hl 0 rfl) ?_
  refine lv_iconst (v := 0) hx hb dX1_doEndTurn_16 (by decide) ?_
  refine va_put (D := D) (ci := 0) (v := .int 0) (ty := .int) (C := RX1) (T := TX1) (N := 13) hx hb hts hinX1 tyX1 tyX1_ok nmX1 hown hK hP hD hS 0 rfl rfl 1 (by decide) fl15 (fun _ h9 => h9) rfl (by decide +kernel) rfl rfl (Nat.le_of_ble_eq_true rfl) dX1_doEndTurn_17 (fun H locs hP hD hS => ?_)
  have hP : va_P D vwCl (wG h0 (1 - c_mover) 0 0 c_stake c_cube c_pieces0 c_pieces1 c_score0 c_score1 c_hits0 c_hits1 c_stopped c_stopPart) H := hP
  have hD : va_D A (wG h0 (1 - c_mover) 0 0 c_stake c_cube c_pieces0 c_pieces1 c_score0 c_score1 c_hits0 c_hits1 c_stopped c_stopPart) := hD
  cases hm
  exact k_end_v hx hb hr hlocks hK hP hD hS dX1_doEndTurn_20

abbrev rmX1_carried : Room := { frames := 1, cells := 0, slots := 0, locals := 23 }
set_option maxHeartbeats 4000000 in
set_option maxRecDepth 100000 in
theorem zX1_carried {l : Launch} {D : va_G} {cI cJ cC cG : ClassId} {sz : Nat} {h0 : Nat} {c_mover : Int32} {c_phase : Int32} {c_dice : Int32} {c_stake : Int32} {c_cube : Int32} {c_pieces0 : Int64} {c_pieces1 : Int64} {c_score0 : Int32} {c_score1 : Int32} {c_hits0 : Int32} {c_hits1 : Int32} {c_stopped : Bool} {c_stopPart : Int32} {a1 : Int32} {a2 : Int32} {a3 : Int32} {r : Int64} (hm : mX1_carried c_pieces0 c_pieces1 a1 a2 a3 = some (r)) : k_Ml l yX1_carried wsX1_carried rmX1_carried D (kT cI cJ cC cG) sz ([.ref h0, .int a1, .int a2, .int a3] : List Value) (wG h0 c_mover c_phase c_dice c_stake c_cube c_pieces0 c_pieces1 c_score0 c_score1 c_hits0 c_hits1 c_stopped c_stopPart) (wG h0 c_mover c_phase c_dice c_stake c_cube c_pieces0 c_pieces1 c_score0 c_score1 c_hits0 c_hits1 c_stopped c_stopPart) r := by
  refine k_st_l (cc := cX1_carried) (maxL := 4) (by decide) rfl (Nat.le_of_ble_eq_true rfl) ?_
  intro p e z m below meth c A hx hb hr hml hts hown hlocks hsz hN hA hK hP hD hS ls hl
  have hown : z.vm.findClass RX1 = some m.cls := hown
  have hl : lv_has ls 4 [(0, .ref h0), (1, .int a1), (2, .int a2), (3, .int a3)] := hl
  unfold mX1_carried at hm
  refine lv_aload_n hx hb dX1_carried_0 rfl (lv_at hl 0 rfl) ?_
  refine lv_iload_n hx hb dX1_carried_1 rfl (lv_at hl 1 rfl) ?_
  obtain ⟨r1, hc2, hm⟩ := k_bds hm
  refine k_l_s (k_rV (As := [.int a1]) (rest := []) ⟨hx, hb, hml, hown, hts⟩ hK hN hP hD (zX1_piecesOf hc2) (cwV 1 hts gX1_carried_X1_piecesOf rfl rfl rfl (by decide +kernel) ⟨Nat.le_of_ble_eq_true rfl, Nat.le_of_ble_eq_true rfl⟩) rfl rfl rfl hl.1 rfl (Nat.le_of_ble_eq_true rfl) dX1_carried_2 ⟨Nat.zero_le _, Nat.zero_le _⟩) hD hS hA (fun H locs hP hD hS => ?_)
  refine lv_iload_n hx hb dX1_carried_5 rfl (lv_at hl 1 rfl) ?_
  refine lv_iload_n hx hb dX1_carried_6 rfl (lv_at hl 2 rfl) ?_
  obtain ⟨r2, hc7, hm⟩ := k_bds hm
  refine k_i_0 (k_rS (As := [.int a1, .int a2]) (rest := [.long r1]) ⟨hx, hb, hml, hown, hts⟩ hK hN k_P0 (k_D0 (A := A)) (zX1_wayOf hc7) (va_cwS 2 hts gX1_carried_X1_wayOf rfl rfl rfl (by decide +kernel) ⟨Nat.le_of_ble_eq_true rfl, Nat.le_of_ble_eq_true rfl⟩) rfl hl.1 rfl (Nat.le_of_ble_eq_true rfl) dX1_carried_7 ⟨Nat.zero_le _, Nat.zero_le _⟩) hP hS hA (fun H locs hP hS => ?_)
  refine lv_iload_n hx hb dX1_carried_10 rfl (lv_at hl 1 rfl) ?_
  refine lv_iload_n hx hb dX1_carried_11 rfl (lv_at hl 3 rfl) ?_
  obtain ⟨r3, hc12, hm⟩ := k_bds hm
  refine k_i_0 (k_rS (As := [.int a1, .int a3]) (rest := [.int r2, .long r1]) ⟨hx, hb, hml, hown, hts⟩ hK hN k_P0 (k_D0 (A := A)) (zX1_wayOf hc12) (va_cwS 2 hts gX1_carried_X1_wayOf rfl rfl rfl (by decide +kernel) ⟨Nat.le_of_ble_eq_true rfl, Nat.le_of_ble_eq_true rfl⟩) rfl hl.1 rfl (Nat.le_of_ble_eq_true rfl) dX1_carried_12 ⟨Nat.zero_le _, Nat.zero_le _⟩) hP hS hA (fun H locs hP hS => ?_)
  obtain ⟨r4, hc15, hm⟩ := k_bds hm
  refine k_l_0 (k_rS (As := [.long r1, .int r2, .int r3]) (rest := []) ⟨hx, hb, hml, hown, hts⟩ hK hN k_P0 (k_D0 (A := A)) (zX3_moved hc15) (va_cwS 3 hts gX1_carried_X3_moved rfl rfl rfl (by decide +kernel) ⟨Nat.le_of_ble_eq_true rfl, Nat.le_of_ble_eq_true rfl⟩) rfl hl.1 rfl (Nat.le_of_ble_eq_true rfl) dX1_carried_15 ⟨Nat.zero_le _, Nat.zero_le _⟩) hP hS hA (fun H locs hP hS => ?_)
  cases hm
  exact k_end_l hx hb hr hlocks hK hP hD hS dX1_carried_18

abbrev rmX1_canCarry : Room := { frames := 2, cells := 0, slots := 0, locals := 46 }
set_option maxHeartbeats 4000000 in
set_option maxRecDepth 100000 in
theorem zX1_canCarry {l : Launch} {D : va_G} {cI cJ cC cG : ClassId} {sz : Nat} {h0 : Nat} {c_mover : Int32} {c_phase : Int32} {c_dice : Int32} {c_stake : Int32} {c_cube : Int32} {c_pieces0 : Int64} {c_pieces1 : Int64} {c_score0 : Int32} {c_score1 : Int32} {c_hits0 : Int32} {c_hits1 : Int32} {c_stopped : Bool} {c_stopPart : Int32} {a1 : Int32} {a2 : Int32} {a3 : Int32} {r : Bool} (hm : mX1_canCarry c_phase c_pieces0 c_pieces1 a1 a2 a3 = some (r)) : k_Mi l yX1_canCarry wsX1_canCarry rmX1_canCarry D (kT cI cJ cC cG) sz ([.ref h0, .int a1, .int a2, .int a3] : List Value) (wG h0 c_mover c_phase c_dice c_stake c_cube c_pieces0 c_pieces1 c_score0 c_score1 c_hits0 c_hits1 c_stopped c_stopPart) (wG h0 c_mover c_phase c_dice c_stake c_cube c_pieces0 c_pieces1 c_score0 c_score1 c_hits0 c_hits1 c_stopped c_stopPart) (k_b r) := by
  refine k_st_i (cc := cX1_canCarry) (maxL := 5) (by decide) rfl (Nat.le_of_ble_eq_true rfl) ?_
  intro p e z m below meth c A hx hb hr hml hts hown hlocks hsz hN hA hK hP hD hS ls hl
  have hown : z.vm.findClass RX1 = some m.cls := hown
  have hinX1 : ∀ w ∈ wsX10, w ∈ wsX1_canCarry := by decide +kernel
  have fl15 := hts (.fieldLink RX1 15 "MagpieRuns$Game" "phase" "I") (by decide +kernel)
  have hl : lv_has ls 5 [(0, .ref h0), (1, .int a1), (2, .int a2), (3, .int a3)] := hl
  have J_54 : ∀ (H : Heap) (locs : List Loc), va_P D vwCl (wG h0 c_mover c_phase c_dice c_stake c_cube c_pieces0 c_pieces1 c_score0 c_score1 c_hits0 c_hits1 c_stopped c_stopPart) H → va_D A (wG h0 c_mover c_phase c_dice c_stake c_cube c_pieces0 c_pieces1 c_score0 c_score1 c_hits0 c_hits1 c_stopped c_stopPart) → va_S A z.heap H locs → ∀ ls : Array Slot, lv_has ls 5 [(0, .ref h0), (1, .int a1), (2, .int a2), (3, .int a3)] → mX1_canCarry_54 c_phase c_pieces0 c_pieces1 a1 a2 a3  = some (r) → W p l e rmX1_canCarry z m ([.ref h0, .int a1, .int a2, .int a3] : List Value).toArray below meth c H locs 0 0 (k_Qi below ([.ref h0, .int a1, .int a2, .int a3] : List Value) D (kT cI cJ cC cG) z A (wG h0 c_mover c_phase c_dice c_stake c_cube c_pieces0 c_pieces1 c_score0 c_score1 c_hits0 c_hits1 c_stopped c_stopPart) (k_b r)) (F0 m 54 ls []) := by
    intro  H locs hP hD hS ls hl hm
    unfold mX1_canCarry_54 at hm
    refine lv_aload_n hx hb dX1_canCarry_54 rfl (lv_at hl 0 rfl) ?_
    refine lv_iload_n hx hb dX1_canCarry_55 rfl (lv_at hl 1 rfl) ?_
    refine lv_iload_n hx hb dX1_canCarry_56 rfl (lv_at hl 2 rfl) ?_
    refine lv_iload_n hx hb dX1_canCarry_57 rfl (lv_at hl 3 rfl) ?_
    obtain ⟨r1, hc58, hm⟩ := k_bds hm
    refine k_l_s (k_rV (As := [.int a1, .int a2, .int a3]) (rest := []) ⟨hx, hb, hml, hown, hts⟩ hK hN hP hD (zX1_carried hc58) (cwV 3 hts gX1_canCarry_X1_carried rfl rfl rfl (by decide +kernel) ⟨Nat.le_of_ble_eq_true rfl, Nat.le_of_ble_eq_true rfl⟩) rfl rfl rfl hl.1 rfl (Nat.le_of_ble_eq_true rfl) dX1_canCarry_58 ⟨Nat.zero_le _, Nat.zero_le _⟩) hD hS hA (fun H locs hP hD hS => ?_)
    obtain ⟨r2, hc61, hm⟩ := k_bds hm
    refine k_i_0 (k_rS (As := [.long r1]) (rest := []) ⟨hx, hb, hml, hown, hts⟩ hK hN k_P0 (k_D0 (A := A)) (zX3_allOff hc61) (va_cwS 1 hts gX1_canCarry_X3_allOff rfl rfl rfl (by decide +kernel) ⟨Nat.le_of_ble_eq_true rfl, Nat.le_of_ble_eq_true rfl⟩) rfl hl.1 rfl (Nat.le_of_ble_eq_true rfl) dX1_canCarry_61 ⟨Nat.zero_le _, Nat.zero_le _⟩) hP hS hA (fun H locs hP hS => ?_)
    refine lv_if_ne (tgt := 71) hx hb dX1_canCarry_64 (by decide) (fun cc64 => ?_) (fun cc64 => ?_)
    · have hm := k_in cc64 hm
      refine lv_iconst (v := 0) hx hb dX1_canCarry_71 (by decide) ?_
      cases hm
      exact k_end_z false hx hb hr hlocks hK hP hD hS dX1_canCarry_72
    · have hm := k_ip cc64 hm
      refine lv_iconst (v := 1) hx hb dX1_canCarry_67 (by decide) ?_
      refine lv_goto (tgt := 72) hx hb dX1_canCarry_68 (by decide) ?_
      cases hm
      exact k_end_z true hx hb hr hlocks hK hP hD hS dX1_canCarry_72
  have J_34 : ∀ (t0 : Bool) (H : Heap) (locs : List Loc), va_P D vwCl (wG h0 c_mover c_phase c_dice c_stake c_cube c_pieces0 c_pieces1 c_score0 c_score1 c_hits0 c_hits1 c_stopped c_stopPart) H → va_D A (wG h0 c_mover c_phase c_dice c_stake c_cube c_pieces0 c_pieces1 c_score0 c_score1 c_hits0 c_hits1 c_stopped c_stopPart) → va_S A z.heap H locs → ∀ ls : Array Slot, lv_has ls 5 [(0, .ref h0), (1, .int a1), (2, .int a2), (3, .int a3)] → mX1_canCarry_34 c_phase c_pieces0 c_pieces1 a1 a2 a3 t0 = some (r) → W p l e rmX1_canCarry z m ([.ref h0, .int a1, .int a2, .int a3] : List Value).toArray below meth c H locs 0 0 (k_Qi below ([.ref h0, .int a1, .int a2, .int a3] : List Value) D (kT cI cJ cC cG) z A (wG h0 c_mover c_phase c_dice c_stake c_cube c_pieces0 c_pieces1 c_score0 c_score1 c_hits0 c_hits1 c_stopped c_stopPart) (k_b r)) (F0 m 34 ls [.int (k_b t0)]) := by
    intro t0 H locs hP hD hS ls hl hm
    unfold mX1_canCarry_34 at hm
    refine lv_istore (lv' := [(4, .int (k_b t0)), (0, .ref h0), (1, .int a1), (2, .int a2), (3, .int a3)]) hx hb dX1_canCarry_34 hl (by decide) rfl (fun ls hl => ?_)
    refine lv_iload hx hb dX1_canCarry_36 (lv_at hl 0 rfl) ?_
    refine lv_if_eq (tgt := 54) hx hb dX1_canCarry_38 (by decide) (fun cc38 => ?_) (fun cc38 => ?_)
    · have hm := k_ip cc38 hm
      exact J_54  _ _ hP hD hS _ (lv_sub hl [1, 2, 3, 4] rfl) hm
    · have hm := k_in cc38 hm
      refine lv_aload_n hx hb dX1_canCarry_41 rfl (lv_at hl 1 rfl) ?_
      refine lv_iconst (v := 1) hx hb dX1_canCarry_42 (by decide) ?_
      refine lv_iload_n hx hb dX1_canCarry_43 rfl (lv_at hl 2 rfl) ?_
      refine lv_isub hx hb dX1_canCarry_44 ?_
      refine lv_iload_n hx hb dX1_canCarry_45 rfl (lv_at hl 4 rfl) ?_
      obtain ⟨r3, hc46, hm⟩ := k_bds hm
      refine k_i_s (k_rV (As := [.int (1 - a1), .int a3]) (rest := []) ⟨hx, hb, hml, hown, hts⟩ hK hN hP hD (zX1_countAt hc46) (cwV 2 hts gX1_canCarry_X1_countAt rfl rfl rfl (by decide +kernel) ⟨Nat.le_of_ble_eq_true rfl, Nat.le_of_ble_eq_true rfl⟩) rfl rfl rfl hl.1 rfl (Nat.le_of_ble_eq_true rfl) dX1_canCarry_46 ⟨Nat.zero_le _, Nat.zero_le _⟩) hD hS hA (fun H locs hP hD hS => ?_)
      refine lv_if_le (tgt := 54) hx hb dX1_canCarry_49 (by decide) (fun cc49 => ?_) (fun cc49 => ?_)
      · have hm := k_ip cc49 hm
        exact J_54  _ _ hP hD hS _ (lv_sub hl [1, 2, 3, 4] rfl) hm
      · have hm := k_in cc49 hm
        refine lv_iconst (v := 0) hx hb dX1_canCarry_52 (by decide) ?_
        cases hm
        exact k_end_z false hx hb hr hlocks hK hP hD hS dX1_canCarry_53
  have J_33 : ∀ (H : Heap) (locs : List Loc), va_P D vwCl (wG h0 c_mover c_phase c_dice c_stake c_cube c_pieces0 c_pieces1 c_score0 c_score1 c_hits0 c_hits1 c_stopped c_stopPart) H → va_D A (wG h0 c_mover c_phase c_dice c_stake c_cube c_pieces0 c_pieces1 c_score0 c_score1 c_hits0 c_hits1 c_stopped c_stopPart) → va_S A z.heap H locs → ∀ ls : Array Slot, lv_has ls 5 [(0, .ref h0), (1, .int a1), (2, .int a2), (3, .int a3)] → mX1_canCarry_33 c_phase c_pieces0 c_pieces1 a1 a2 a3  = some (r) → W p l e rmX1_canCarry z m ([.ref h0, .int a1, .int a2, .int a3] : List Value).toArray below meth c H locs 0 0 (k_Qi below ([.ref h0, .int a1, .int a2, .int a3] : List Value) D (kT cI cJ cC cG) z A (wG h0 c_mover c_phase c_dice c_stake c_cube c_pieces0 c_pieces1 c_score0 c_score1 c_hits0 c_hits1 c_stopped c_stopPart) (k_b r)) (F0 m 33 ls []) := by
    intro  H locs hP hD hS ls hl hm
    unfold mX1_canCarry_33 at hm
    refine lv_iconst (v := 0) hx hb dX1_canCarry_33 (by decide) ?_
    exact J_34 false _ _ hP hD hS _ (lv_sub hl [0, 1, 2, 3] rfl) hm
  unfold mX1_canCarry at hm
  refine lv_aload_n hx hb dX1_canCarry_0 rfl (lv_at hl 0 rfl) ?_
  refine va_get (D := D) (ci := 0) (v := .int c_phase) (C := RX1) (T := TX1) (N := 13) hx hb hts hinX1 hown hK hP 0 rfl rfl 1 (by decide) fl15 (fun _ h9 => h9) rfl dX1_canCarry_1 ?_
  refine lv_if_ne (tgt := 16) hx hb dX1_canCarry_4 (by decide) (fun cc4 => ?_) (fun cc4 => ?_)
  · have hm := k_in cc4 hm
    refine lv_iconst (v := 0) hx hb dX1_canCarry_16 (by decide) ?_
    cases hm
    exact k_end_z false hx hb hr hlocks hK hP hD hS dX1_canCarry_17
  · have hm := k_ip cc4 hm
    refine lv_aload_n hx hb dX1_canCarry_7 rfl (lv_at hl 0 rfl) ?_
    refine lv_iload_n hx hb dX1_canCarry_8 rfl (lv_at hl 1 rfl) ?_
    refine lv_iload_n hx hb dX1_canCarry_9 rfl (lv_at hl 2 rfl) ?_
    obtain ⟨r4, hc10, hm⟩ := k_bds hm
    refine k_i_s (k_rV (As := [.int a1, .int a2]) (rest := []) ⟨hx, hb, hml, hown, hts⟩ hK hN hP hD (zX1_countAt hc10) (cwV 2 hts gX1_canCarry_X1_countAt rfl rfl rfl (by decide +kernel) ⟨Nat.le_of_ble_eq_true rfl, Nat.le_of_ble_eq_true rfl⟩) rfl rfl rfl hl.1 rfl (Nat.le_of_ble_eq_true rfl) dX1_canCarry_10 ⟨Nat.zero_le _, Nat.zero_le _⟩) hD hS hA (fun H locs hP hD hS => ?_)
    refine lv_if_ne (tgt := 18) hx hb dX1_canCarry_13 (by decide) (fun cc13 => ?_) (fun cc13 => ?_)
    · have hm := k_in cc13 hm
      refine lv_iload_n hx hb dX1_canCarry_18 rfl (lv_at hl 3 rfl) ?_
      refine lv_iconst (v := (-1)) hx hb dX1_canCarry_19 (by decide) ?_
      refine lv_icmp_eq (tgt := 33) hx hb dX1_canCarry_20 (by decide) (fun cc20 => ?_) (fun cc20 => ?_)
      · have hm := k_ip cc20 hm
        exact J_33  _ _ hP hD hS _ (lv_sub hl [0, 1, 2, 3] rfl) hm
      · have hm := k_in cc20 hm
        refine lv_iload_n hx hb dX1_canCarry_23 rfl (lv_at hl 3 rfl) ?_
        refine lv_bipush (v := 16) hx hb dX1_canCarry_24 (by decide) ?_
        refine lv_icmp_eq (tgt := 33) hx hb dX1_canCarry_26 (by decide) (fun cc26 => ?_) (fun cc26 => ?_)
        · have hm := k_ip cc26 hm
          exact J_33  _ _ hP hD hS _ (lv_sub hl [0, 1, 2, 3] rfl) hm
        · have hm := k_in cc26 hm
          refine lv_iconst (v := 1) hx hb dX1_canCarry_29 (by decide) ?_
          refine lv_goto (tgt := 34) hx hb dX1_canCarry_30 (by decide) ?_
          exact J_34 true _ _ hP hD hS _ (lv_sub hl [0, 1, 2, 3] rfl) hm
    · have hm := k_ip cc13 hm
      refine lv_iconst (v := 0) hx hb dX1_canCarry_16 (by decide) ?_
      cases hm
      exact k_end_z false hx hb hr hlocks hK hP hD hS dX1_canCarry_17

abbrev rmX1_doCarry : Room := { frames := 2, cells := 0, slots := 0, locals := 46 }
set_option maxHeartbeats 4000000 in
set_option maxRecDepth 100000 in
theorem zX1_doCarry {l : Launch} {D : va_G} {cI cJ cC cG : ClassId} {sz : Nat} {h0 : Nat} {c_mover : Int32} {c_phase : Int32} {c_dice : Int32} {c_stake : Int32} {c_cube : Int32} {c_pieces0 : Int64} {c_pieces1 : Int64} {c_score0 : Int32} {c_score1 : Int32} {c_hits0 : Int32} {c_hits1 : Int32} {c_stopped : Bool} {c_stopPart : Int32} {a1 : Int32} {a2 : Int32} {a3 : Int32} {c_pieces0' : Int64} {c_pieces1' : Int64} (hm : mX1_doCarry c_pieces0 c_pieces1 a1 a2 a3 = some (c_pieces0', c_pieces1')) : k_Mv l yX1_doCarry wsX1_doCarry rmX1_doCarry D (kT cI cJ cC cG) sz ([.ref h0, .int a1, .int a2, .int a3] : List Value) (wG h0 c_mover c_phase c_dice c_stake c_cube c_pieces0 c_pieces1 c_score0 c_score1 c_hits0 c_hits1 c_stopped c_stopPart) (wG h0 c_mover c_phase c_dice c_stake c_cube c_pieces0' c_pieces1' c_score0 c_score1 c_hits0 c_hits1 c_stopped c_stopPart) := by
  refine k_st_v (cc := cX1_doCarry) (maxL := 4) (by decide) rfl (Nat.le_of_ble_eq_true rfl) ?_
  intro p e z m below meth c A hx hb hr hml hts hown hlocks hsz hN hA hK hP hD hS ls hl
  have hown : z.vm.findClass RX1 = some m.cls := hown
  have hl : lv_has ls 4 [(0, .ref h0), (1, .int a1), (2, .int a2), (3, .int a3)] := hl
  unfold mX1_doCarry at hm
  refine lv_aload_n hx hb dX1_doCarry_0 rfl (lv_at hl 0 rfl) ?_
  refine lv_iload_n hx hb dX1_doCarry_1 rfl (lv_at hl 1 rfl) ?_
  refine lv_aload_n hx hb dX1_doCarry_2 rfl (lv_at hl 0 rfl) ?_
  refine lv_iload_n hx hb dX1_doCarry_3 rfl (lv_at hl 1 rfl) ?_
  refine lv_iload_n hx hb dX1_doCarry_4 rfl (lv_at hl 2 rfl) ?_
  refine lv_iload_n hx hb dX1_doCarry_5 rfl (lv_at hl 3 rfl) ?_
  obtain ⟨r1, hc6, hm⟩ := k_bds hm
  refine k_l_s (k_rV (As := [.int a1, .int a2, .int a3]) (rest := [.int a1, .ref h0]) ⟨hx, hb, hml, hown, hts⟩ hK hN hP hD (zX1_carried hc6) (cwV 3 hts gX1_doCarry_X1_carried rfl rfl rfl (by decide +kernel) ⟨Nat.le_of_ble_eq_true rfl, Nat.le_of_ble_eq_true rfl⟩) rfl rfl rfl hl.1 rfl (Nat.le_of_ble_eq_true rfl) dX1_doCarry_6 ⟨Nat.zero_le _, Nat.zero_le _⟩) hD hS hA (fun H locs hP hD hS => ?_)
  obtain ⟨w2, w3, hc9, hm⟩ := k_bd2s hm
  refine k_v_s (k_rV (As := [.int a1, .long r1]) (rest := []) ⟨hx, hb, hml, hown, hts⟩ hK hN hP hD (zX1_setPieces hc9) (cwV 2 hts gX1_doCarry_X1_setPieces rfl rfl rfl (by decide +kernel) ⟨Nat.le_of_ble_eq_true rfl, Nat.le_of_ble_eq_true rfl⟩) rfl rfl rfl hl.1 rfl (Nat.le_of_ble_eq_true rfl) dX1_doCarry_9 ⟨Nat.zero_le _, Nat.zero_le _⟩) hD hS hA (fun H locs hP hD hS => ?_)
  cases hm
  exact k_end_v hx hb hr hlocks hK hP hD hS dX1_doCarry_12

abbrev rmX1_canOffer : Room := { frames := 0, cells := 0, slots := 0, locals := 0 }
set_option maxHeartbeats 4000000 in
set_option maxRecDepth 100000 in
theorem zX1_canOffer {l : Launch} {D : va_G} {cI cJ cC cG : ClassId} {sz : Nat} {h0 : Nat} {c_mover : Int32} {c_phase : Int32} {c_dice : Int32} {c_stake : Int32} {c_cube : Int32} {c_pieces0 : Int64} {c_pieces1 : Int64} {c_score0 : Int32} {c_score1 : Int32} {c_hits0 : Int32} {c_hits1 : Int32} {c_stopped : Bool} {c_stopPart : Int32} {r : Bool} (hm : mX1_canOffer c_mover c_phase c_stake c_cube = some (r)) : k_Mi l yX1_canOffer wsX1_canOffer rmX1_canOffer D (kT cI cJ cC cG) sz ([.ref h0] : List Value) (wG h0 c_mover c_phase c_dice c_stake c_cube c_pieces0 c_pieces1 c_score0 c_score1 c_hits0 c_hits1 c_stopped c_stopPart) (wG h0 c_mover c_phase c_dice c_stake c_cube c_pieces0 c_pieces1 c_score0 c_score1 c_hits0 c_hits1 c_stopped c_stopPart) (k_b r) := by
  refine k_st_i (cc := cX1_canOffer) (maxL := 2) (by decide) rfl (Nat.le_of_ble_eq_true rfl) ?_
  intro p e z m below meth c A hx hb hr hml hts hown hlocks hsz hN hA hK hP hD hS ls hl
  have hown : z.vm.findClass RX1 = some m.cls := hown
  have hinX1 : ∀ w ∈ wsX10, w ∈ wsX1_canOffer := by decide +kernel
  have fl9 := hts (.fieldLink RX1 9 "MagpieRuns$Game" "mover" "I") (by decide +kernel)
  have fl15 := hts (.fieldLink RX1 15 "MagpieRuns$Game" "phase" "I") (by decide +kernel)
  have fl21 := hts (.fieldLink RX1 21 "MagpieRuns$Game" "stake" "I") (by decide +kernel)
  have fl24 := hts (.fieldLink RX1 24 "MagpieRuns$Game" "cube" "I") (by decide +kernel)
  have hl : lv_has ls 2 [(0, .ref h0)] := hl
  have J_24 : ∀ (t0 : Bool) (H : Heap) (locs : List Loc), va_P D vwCl (wG h0 c_mover c_phase c_dice c_stake c_cube c_pieces0 c_pieces1 c_score0 c_score1 c_hits0 c_hits1 c_stopped c_stopPart) H → va_D A (wG h0 c_mover c_phase c_dice c_stake c_cube c_pieces0 c_pieces1 c_score0 c_score1 c_hits0 c_hits1 c_stopped c_stopPart) → va_S A z.heap H locs → ∀ ls : Array Slot, lv_has ls 2 [(0, .ref h0)] → mX1_canOffer_24 c_mover c_phase c_stake c_cube t0 = some (r) → W p l e rmX1_canOffer z m ([.ref h0] : List Value).toArray below meth c H locs 0 0 (k_Qi below ([.ref h0] : List Value) D (kT cI cJ cC cG) z A (wG h0 c_mover c_phase c_dice c_stake c_cube c_pieces0 c_pieces1 c_score0 c_score1 c_hits0 c_hits1 c_stopped c_stopPart) (k_b r)) (F0 m 24 ls [.int (k_b t0)]) := by
    intro t0 H locs hP hD hS ls hl hm
    unfold mX1_canOffer_24 at hm
    refine lv_istore_n (lv' := [(1, .int (k_b t0)), (0, .ref h0)]) hx hb dX1_canOffer_24 rfl hl (by decide) rfl (fun ls hl => ?_)
    refine lv_aload_n hx hb dX1_canOffer_25 rfl (lv_at hl 1 rfl) ?_
    refine va_get (D := D) (ci := 0) (v := .int c_phase) (C := RX1) (T := TX1) (N := 13) hx hb hts hinX1 hown hK hP 0 rfl rfl 1 (by decide) fl15 (fun _ h9 => h9) rfl dX1_canOffer_26 ?_
    refine lv_if_ne (tgt := 49) hx hb dX1_canOffer_29 (by decide) (fun cc29 => ?_) (fun cc29 => ?_)
    · have hm := k_in cc29 hm
      refine lv_iconst (v := 0) hx hb dX1_canOffer_49 (by decide) ?_
      cases hm
      exact k_end_z false hx hb hr hlocks hK hP hD hS dX1_canOffer_50
    · have hm := k_ip cc29 hm
      refine lv_iload_n hx hb dX1_canOffer_32 rfl (lv_at hl 0 rfl) ?_
      refine lv_if_eq (tgt := 49) hx hb dX1_canOffer_33 (by decide) (fun cc33 => ?_) (fun cc33 => ?_)
      · have hm := k_ip cc33 hm
        refine lv_iconst (v := 0) hx hb dX1_canOffer_49 (by decide) ?_
        cases hm
        exact k_end_z false hx hb hr hlocks hK hP hD hS dX1_canOffer_50
      · have hm := k_in cc33 hm
        refine lv_aload_n hx hb dX1_canOffer_36 rfl (lv_at hl 1 rfl) ?_
        refine va_get (D := D) (ci := 0) (v := .int c_stake) (C := RX1) (T := TX1) (N := 13) hx hb hts hinX1 hown hK hP 0 rfl rfl 3 (by decide) fl21 (fun _ h9 => h9) rfl dX1_canOffer_37 ?_
        refine lv_bipush (v := 32) hx hb dX1_canOffer_40 (by decide) ?_
        refine lv_icmp_gt (tgt := 49) hx hb dX1_canOffer_42 (by decide) (fun cc42 => ?_) (fun cc42 => ?_)
        · have hm := k_ip cc42 hm
          refine lv_iconst (v := 0) hx hb dX1_canOffer_49 (by decide) ?_
          cases hm
          exact k_end_z false hx hb hr hlocks hK hP hD hS dX1_canOffer_50
        · have hm := k_in cc42 hm
          refine lv_iconst (v := 1) hx hb dX1_canOffer_45 (by decide) ?_
          refine lv_goto (tgt := 50) hx hb dX1_canOffer_46 (by decide) ?_
          cases hm
          exact k_end_z true hx hb hr hlocks hK hP hD hS dX1_canOffer_50
  unfold mX1_canOffer at hm
  refine lv_aload_n hx hb dX1_canOffer_0 rfl (lv_at hl 0 rfl) ?_
  refine va_get (D := D) (ci := 0) (v := .int c_cube) (C := RX1) (T := TX1) (N := 13) hx hb hts hinX1 hown hK hP 0 rfl rfl 4 (by decide) fl24 (fun _ h9 => h9) rfl dX1_canOffer_1 ?_
  refine lv_aload_n hx hb dX1_canOffer_4 rfl (lv_at hl 0 rfl) ?_
  refine va_get (D := D) (ci := 0) (v := .int c_mover) (C := RX1) (T := TX1) (N := 13) hx hb hts hinX1 hown hK hP 0 rfl rfl 0 (by decide) fl9 (fun _ h9 => h9) rfl dX1_canOffer_5 ?_
  refine lv_icmp_eq (tgt := 19) hx hb dX1_canOffer_8 (by decide) (fun cc8 => ?_) (fun cc8 => ?_)
  · have hm := k_ip cc8 hm
    refine lv_iconst (v := 1) hx hb dX1_canOffer_19 (by decide) ?_
    refine lv_goto (tgt := 24) hx hb dX1_canOffer_20 (by decide) ?_
    exact J_24 true _ _ hP hD hS _ (lv_sub hl [0] rfl) hm
  · have hm := k_in cc8 hm
    refine lv_aload_n hx hb dX1_canOffer_11 rfl (lv_at hl 0 rfl) ?_
    refine va_get (D := D) (ci := 0) (v := .int c_cube) (C := RX1) (T := TX1) (N := 13) hx hb hts hinX1 hown hK hP 0 rfl rfl 4 (by decide) fl24 (fun _ h9 => h9) rfl dX1_canOffer_12 ?_
    refine lv_iconst (v := (-1)) hx hb dX1_canOffer_15 (by decide) ?_
    refine lv_icmp_ne (tgt := 23) hx hb dX1_canOffer_16 (by decide) (fun cc16 => ?_) (fun cc16 => ?_)
    · have hm := k_in cc16 hm
      refine lv_iconst (v := 0) hx hb dX1_canOffer_23 (by decide) ?_
      exact J_24 false _ _ hP hD hS _ (lv_sub hl [0] rfl) hm
    · have hm := k_ip cc16 hm
      refine lv_iconst (v := 1) hx hb dX1_canOffer_19 (by decide) ?_
      refine lv_goto (tgt := 24) hx hb dX1_canOffer_20 (by decide) ?_
      exact J_24 true _ _ hP hD hS _ (lv_sub hl [0] rfl) hm

abbrev rmX1_doOffer : Room := { frames := 0, cells := 0, slots := 0, locals := 0 }
set_option maxHeartbeats 4000000 in
set_option maxRecDepth 100000 in
theorem zX1_doOffer {l : Launch} {D : va_G} {cI cJ cC cG : ClassId} {sz : Nat} {h0 : Nat} {c_mover : Int32} {c_phase : Int32} {c_dice : Int32} {c_stake : Int32} {c_cube : Int32} {c_pieces0 : Int64} {c_pieces1 : Int64} {c_score0 : Int32} {c_score1 : Int32} {c_hits0 : Int32} {c_hits1 : Int32} {c_stopped : Bool} {c_stopPart : Int32} {c_phase' : Int32} (hm : mX1_doOffer c_phase = some (c_phase')) : k_Mv l yX1_doOffer wsX1_doOffer rmX1_doOffer D (kT cI cJ cC cG) sz ([.ref h0] : List Value) (wG h0 c_mover c_phase c_dice c_stake c_cube c_pieces0 c_pieces1 c_score0 c_score1 c_hits0 c_hits1 c_stopped c_stopPart) (wG h0 c_mover c_phase' c_dice c_stake c_cube c_pieces0 c_pieces1 c_score0 c_score1 c_hits0 c_hits1 c_stopped c_stopPart) := by
  refine k_st_v (cc := cX1_doOffer) (maxL := 1) (by decide) rfl (Nat.le_of_ble_eq_true rfl) ?_
  intro p e z m below meth c A hx hb hr hml hts hown hlocks hsz hN hA hK hP hD hS ls hl
  have hown : z.vm.findClass RX1 = some m.cls := hown
  have hinX1 : ∀ w ∈ wsX10, w ∈ wsX1_doOffer := by decide +kernel
  have fl15 := hts (.fieldLink RX1 15 "MagpieRuns$Game" "phase" "I") (by decide +kernel)
  have hl : lv_has ls 1 [(0, .ref h0)] := hl
  unfold mX1_doOffer at hm
  refine lv_aload_n hx hb dX1_doOffer_0 rfl (lv_at hl 0 rfl) ?_
  refine lv_iconst (v := 2) hx hb dX1_doOffer_1 (by decide) ?_
  refine va_put (D := D) (ci := 0) (v := .int 2) (ty := .int) (C := RX1) (T := TX1) (N := 13) hx hb hts hinX1 tyX1 tyX1_ok nmX1 hown hK hP hD hS 0 rfl rfl 1 (by decide) fl15 (fun _ h9 => h9) rfl (by decide +kernel) rfl rfl (Nat.le_of_ble_eq_true rfl) dX1_doOffer_2 (fun H locs hP hD hS => ?_)
  have hP : va_P D vwCl (wG h0 c_mover 2 c_dice c_stake c_cube c_pieces0 c_pieces1 c_score0 c_score1 c_hits0 c_hits1 c_stopped c_stopPart) H := hP
  have hD : va_D A (wG h0 c_mover 2 c_dice c_stake c_cube c_pieces0 c_pieces1 c_score0 c_score1 c_hits0 c_hits1 c_stopped c_stopPart) := hD
  cases hm
  exact k_end_v hx hb hr hlocks hK hP hD hS dX1_doOffer_5

abbrev rmX1_isOffered : Room := { frames := 0, cells := 0, slots := 0, locals := 0 }
set_option maxHeartbeats 4000000 in
set_option maxRecDepth 100000 in
theorem zX1_isOffered {l : Launch} {D : va_G} {cI cJ cC cG : ClassId} {sz : Nat} {h0 : Nat} {c_mover : Int32} {c_phase : Int32} {c_dice : Int32} {c_stake : Int32} {c_cube : Int32} {c_pieces0 : Int64} {c_pieces1 : Int64} {c_score0 : Int32} {c_score1 : Int32} {c_hits0 : Int32} {c_hits1 : Int32} {c_stopped : Bool} {c_stopPart : Int32} {r : Bool} (hm : mX1_isOffered c_phase = some (r)) : k_Mi l yX1_isOffered wsX1_isOffered rmX1_isOffered D (kT cI cJ cC cG) sz ([.ref h0] : List Value) (wG h0 c_mover c_phase c_dice c_stake c_cube c_pieces0 c_pieces1 c_score0 c_score1 c_hits0 c_hits1 c_stopped c_stopPart) (wG h0 c_mover c_phase c_dice c_stake c_cube c_pieces0 c_pieces1 c_score0 c_score1 c_hits0 c_hits1 c_stopped c_stopPart) (k_b r) := by
  refine k_st_i (cc := cX1_isOffered) (maxL := 1) (by decide) rfl (Nat.le_of_ble_eq_true rfl) ?_
  intro p e z m below meth c A hx hb hr hml hts hown hlocks hsz hN hA hK hP hD hS ls hl
  have hown : z.vm.findClass RX1 = some m.cls := hown
  have hinX1 : ∀ w ∈ wsX10, w ∈ wsX1_isOffered := by decide +kernel
  have fl15 := hts (.fieldLink RX1 15 "MagpieRuns$Game" "phase" "I") (by decide +kernel)
  have hl : lv_has ls 1 [(0, .ref h0)] := hl
  unfold mX1_isOffered at hm
  refine lv_aload_n hx hb dX1_isOffered_0 rfl (lv_at hl 0 rfl) ?_
  refine va_get (D := D) (ci := 0) (v := .int c_phase) (C := RX1) (T := TX1) (N := 13) hx hb hts hinX1 hown hK hP 0 rfl rfl 1 (by decide) fl15 (fun _ h9 => h9) rfl dX1_isOffered_1 ?_
  refine lv_iconst (v := 2) hx hb dX1_isOffered_4 (by decide) ?_
  refine lv_icmp_ne (tgt := 12) hx hb dX1_isOffered_5 (by decide) (fun cc5 => ?_) (fun cc5 => ?_)
  · have hm := k_in cc5 hm
    refine lv_iconst (v := 0) hx hb dX1_isOffered_12 (by decide) ?_
    cases hm
    exact k_end_z false hx hb hr hlocks hK hP hD hS dX1_isOffered_13
  · have hm := k_ip cc5 hm
    refine lv_iconst (v := 1) hx hb dX1_isOffered_8 (by decide) ?_
    refine lv_goto (tgt := 13) hx hb dX1_isOffered_9 (by decide) ?_
    cases hm
    exact k_end_z true hx hb hr hlocks hK hP hD hS dX1_isOffered_13

abbrev rmX1_doTake : Room := { frames := 0, cells := 0, slots := 0, locals := 0 }
set_option maxHeartbeats 4000000 in
set_option maxRecDepth 100000 in
theorem zX1_doTake {l : Launch} {D : va_G} {cI cJ cC cG : ClassId} {sz : Nat} {h0 : Nat} {c_mover : Int32} {c_phase : Int32} {c_dice : Int32} {c_stake : Int32} {c_cube : Int32} {c_pieces0 : Int64} {c_pieces1 : Int64} {c_score0 : Int32} {c_score1 : Int32} {c_hits0 : Int32} {c_hits1 : Int32} {c_stopped : Bool} {c_stopPart : Int32} {c_phase' : Int32} {c_stake' : Int32} {c_cube' : Int32} (hm : mX1_doTake c_mover c_phase c_stake c_cube = some (c_phase', c_stake', c_cube')) : k_Mv l yX1_doTake wsX1_doTake rmX1_doTake D (kT cI cJ cC cG) sz ([.ref h0] : List Value) (wG h0 c_mover c_phase c_dice c_stake c_cube c_pieces0 c_pieces1 c_score0 c_score1 c_hits0 c_hits1 c_stopped c_stopPart) (wG h0 c_mover c_phase' c_dice c_stake' c_cube' c_pieces0 c_pieces1 c_score0 c_score1 c_hits0 c_hits1 c_stopped c_stopPart) := by
  refine k_st_v (cc := cX1_doTake) (maxL := 1) (by decide) rfl (Nat.le_of_ble_eq_true rfl) ?_
  intro p e z m below meth c A hx hb hr hml hts hown hlocks hsz hN hA hK hP hD hS ls hl
  have hown : z.vm.findClass RX1 = some m.cls := hown
  have hinX1 : ∀ w ∈ wsX10, w ∈ wsX1_doTake := by decide +kernel
  have fl9 := hts (.fieldLink RX1 9 "MagpieRuns$Game" "mover" "I") (by decide +kernel)
  have fl15 := hts (.fieldLink RX1 15 "MagpieRuns$Game" "phase" "I") (by decide +kernel)
  have fl21 := hts (.fieldLink RX1 21 "MagpieRuns$Game" "stake" "I") (by decide +kernel)
  have fl24 := hts (.fieldLink RX1 24 "MagpieRuns$Game" "cube" "I") (by decide +kernel)
  have hl : lv_has ls 1 [(0, .ref h0)] := hl
  unfold mX1_doTake at hm
  refine lv_aload_n hx hb dX1_doTake_0 rfl (lv_at hl 0 rfl) ?_
  refine lv_iconst (v := 2) hx hb dX1_doTake_1 (by decide) ?_
  refine lv_aload_n hx hb dX1_doTake_2 rfl (lv_at hl 0 rfl) ?_
  refine va_get (D := D) (ci := 0) (v := .int c_stake) (C := RX1) (T := TX1) (N := 13) hx hb hts hinX1 hown hK hP 0 rfl rfl 3 (by decide) fl21 (fun _ h9 => h9) rfl dX1_doTake_3 ?_
  refine lv_imul hx hb dX1_doTake_6 ?_
  refine va_put (D := D) (ci := 0) (v := .int (2 * c_stake)) (ty := .int) (C := RX1) (T := TX1) (N := 13) hx hb hts hinX1 tyX1 tyX1_ok nmX1 hown hK hP hD hS 0 rfl rfl 3 (by decide) fl21 (fun _ h9 => h9) rfl (by decide +kernel) rfl rfl (Nat.le_of_ble_eq_true rfl) dX1_doTake_7 (fun H locs hP hD hS => ?_)
  have hP : va_P D vwCl (wG h0 c_mover c_phase c_dice (2 * c_stake) c_cube c_pieces0 c_pieces1 c_score0 c_score1 c_hits0 c_hits1 c_stopped c_stopPart) H := hP
  have hD : va_D A (wG h0 c_mover c_phase c_dice (2 * c_stake) c_cube c_pieces0 c_pieces1 c_score0 c_score1 c_hits0 c_hits1 c_stopped c_stopPart) := hD
  refine lv_aload_n hx hb dX1_doTake_10 rfl (lv_at hl 0 rfl) ?_
  refine lv_iconst (v := 1) hx hb dX1_doTake_11 (by decide) ?_
  refine lv_aload_n hx hb dX1_doTake_12 rfl (lv_at hl 0 rfl) ?_
  refine va_get (D := D) (ci := 0) (v := .int c_mover) (C := RX1) (T := TX1) (N := 13) hx hb hts hinX1 hown hK hP 0 rfl rfl 0 (by decide) fl9 (fun _ h9 => h9) rfl dX1_doTake_13 ?_
  refine lv_isub hx hb dX1_doTake_16 ?_
  refine va_put (D := D) (ci := 0) (v := .int (1 - c_mover)) (ty := .int) (C := RX1) (T := TX1) (N := 13) hx hb hts hinX1 tyX1 tyX1_ok nmX1 hown hK hP hD hS 0 rfl rfl 4 (by decide) fl24 (fun _ h9 => h9) rfl (by decide +kernel) rfl rfl (Nat.le_of_ble_eq_true rfl) dX1_doTake_17 (fun H locs hP hD hS => ?_)
  have hP : va_P D vwCl (wG h0 c_mover c_phase c_dice (2 * c_stake) (1 - c_mover) c_pieces0 c_pieces1 c_score0 c_score1 c_hits0 c_hits1 c_stopped c_stopPart) H := hP
  have hD : va_D A (wG h0 c_mover c_phase c_dice (2 * c_stake) (1 - c_mover) c_pieces0 c_pieces1 c_score0 c_score1 c_hits0 c_hits1 c_stopped c_stopPart) := hD
  refine lv_aload_n hx hb dX1_doTake_20 rfl (lv_at hl 0 rfl) ?_
  refine lv_iconst (v := 0) hx hb dX1_doTake_21 (by decide) ?_
  refine va_put (D := D) (ci := 0) (v := .int 0) (ty := .int) (C := RX1) (T := TX1) (N := 13) hx hb hts hinX1 tyX1 tyX1_ok nmX1 hown hK hP hD hS 0 rfl rfl 1 (by decide) fl15 (fun _ h9 => h9) rfl (by decide +kernel) rfl rfl (Nat.le_of_ble_eq_true rfl) dX1_doTake_22 (fun H locs hP hD hS => ?_)
  have hP : va_P D vwCl (wG h0 c_mover 0 c_dice (2 * c_stake) (1 - c_mover) c_pieces0 c_pieces1 c_score0 c_score1 c_hits0 c_hits1 c_stopped c_stopPart) H := hP
  have hD : va_D A (wG h0 c_mover 0 c_dice (2 * c_stake) (1 - c_mover) c_pieces0 c_pieces1 c_score0 c_score1 c_hits0 c_hits1 c_stopped c_stopPart) := hD
  cases hm
  exact k_end_v hx hb hr hlocks hK hP hD hS dX1_doTake_25

abbrev rmX1_doDrop : Room := { frames := 1, cells := 0, slots := 0, locals := 21 }
set_option maxHeartbeats 4000000 in
set_option maxRecDepth 100000 in
theorem zX1_doDrop {l : Launch} {D : va_G} {cI cJ cC cG : ClassId} {sz : Nat} {h0 : Nat} {c_mover : Int32} {c_phase : Int32} {c_dice : Int32} {c_stake : Int32} {c_cube : Int32} {c_pieces0 : Int64} {c_pieces1 : Int64} {c_score0 : Int32} {c_score1 : Int32} {c_hits0 : Int32} {c_hits1 : Int32} {c_stopped : Bool} {c_stopPart : Int32} {c_phase' : Int32} {c_dice' : Int32} {c_score0' : Int32} {c_score1' : Int32} (hm : mX1_doDrop c_mover c_phase c_dice c_stake c_score0 c_score1 = some (c_phase', c_dice', c_score0', c_score1')) : k_Mv l yX1_doDrop wsX1_doDrop rmX1_doDrop D (kT cI cJ cC cG) sz ([.ref h0] : List Value) (wG h0 c_mover c_phase c_dice c_stake c_cube c_pieces0 c_pieces1 c_score0 c_score1 c_hits0 c_hits1 c_stopped c_stopPart) (wG h0 c_mover c_phase' c_dice' c_stake c_cube c_pieces0 c_pieces1 c_score0' c_score1' c_hits0 c_hits1 c_stopped c_stopPart) := by
  refine k_st_v (cc := cX1_doDrop) (maxL := 1) (by decide) rfl (Nat.le_of_ble_eq_true rfl) ?_
  intro p e z m below meth c A hx hb hr hml hts hown hlocks hsz hN hA hK hP hD hS ls hl
  have hown : z.vm.findClass RX1 = some m.cls := hown
  have hinX1 : ∀ w ∈ wsX10, w ∈ wsX1_doDrop := by decide +kernel
  have fl21 := hts (.fieldLink RX1 21 "MagpieRuns$Game" "stake" "I") (by decide +kernel)
  have hl : lv_has ls 1 [(0, .ref h0)] := hl
  unfold mX1_doDrop at hm
  refine lv_aload_n hx hb dX1_doDrop_0 rfl (lv_at hl 0 rfl) ?_
  refine lv_aload_n hx hb dX1_doDrop_1 rfl (lv_at hl 0 rfl) ?_
  refine va_get (D := D) (ci := 0) (v := .int c_stake) (C := RX1) (T := TX1) (N := 13) hx hb hts hinX1 hown hK hP 0 rfl rfl 3 (by decide) fl21 (fun _ h9 => h9) rfl dX1_doDrop_2 ?_
  obtain ⟨w1, w2, w3, w4, hc5, hm⟩ := k_bd4s hm
  refine k_v_s (k_rV (As := [.int c_stake]) (rest := []) ⟨hx, hb, hml, hown, hts⟩ hK hN hP hD (zX1_winBy hc5) (cwV 1 hts gX1_doDrop_X1_winBy rfl rfl rfl (by decide +kernel) ⟨Nat.le_of_ble_eq_true rfl, Nat.le_of_ble_eq_true rfl⟩) rfl rfl rfl hl.1 rfl (Nat.le_of_ble_eq_true rfl) dX1_doDrop_5 ⟨Nat.zero_le _, Nat.zero_le _⟩) hD hS hA (fun H locs hP hD hS => ?_)
  cases hm
  exact k_end_v hx hb hr hlocks hK hP hD hS dX1_doDrop_8

abbrev rmX1_isOver : Room := { frames := 0, cells := 0, slots := 0, locals := 0 }
set_option maxHeartbeats 4000000 in
set_option maxRecDepth 100000 in
theorem zX1_isOver {l : Launch} {D : va_G} {cI cJ cC cG : ClassId} {sz : Nat} {h0 : Nat} {c_mover : Int32} {c_phase : Int32} {c_dice : Int32} {c_stake : Int32} {c_cube : Int32} {c_pieces0 : Int64} {c_pieces1 : Int64} {c_score0 : Int32} {c_score1 : Int32} {c_hits0 : Int32} {c_hits1 : Int32} {c_stopped : Bool} {c_stopPart : Int32} {r : Bool} (hm : mX1_isOver c_phase = some (r)) : k_Mi l yX1_isOver wsX1_isOver rmX1_isOver D (kT cI cJ cC cG) sz ([.ref h0] : List Value) (wG h0 c_mover c_phase c_dice c_stake c_cube c_pieces0 c_pieces1 c_score0 c_score1 c_hits0 c_hits1 c_stopped c_stopPart) (wG h0 c_mover c_phase c_dice c_stake c_cube c_pieces0 c_pieces1 c_score0 c_score1 c_hits0 c_hits1 c_stopped c_stopPart) (k_b r) := by
  refine k_st_i (cc := cX1_isOver) (maxL := 1) (by decide) rfl (Nat.le_of_ble_eq_true rfl) ?_
  intro p e z m below meth c A hx hb hr hml hts hown hlocks hsz hN hA hK hP hD hS ls hl
  have hown : z.vm.findClass RX1 = some m.cls := hown
  have hinX1 : ∀ w ∈ wsX10, w ∈ wsX1_isOver := by decide +kernel
  have fl15 := hts (.fieldLink RX1 15 "MagpieRuns$Game" "phase" "I") (by decide +kernel)
  have hl : lv_has ls 1 [(0, .ref h0)] := hl
  unfold mX1_isOver at hm
  refine lv_aload_n hx hb dX1_isOver_0 rfl (lv_at hl 0 rfl) ?_
  refine va_get (D := D) (ci := 0) (v := .int c_phase) (C := RX1) (T := TX1) (N := 13) hx hb hts hinX1 hown hK hP 0 rfl rfl 1 (by decide) fl15 (fun _ h9 => h9) rfl dX1_isOver_1 ?_
  refine lv_iconst (v := 3) hx hb dX1_isOver_4 (by decide) ?_
  refine lv_icmp_ne (tgt := 12) hx hb dX1_isOver_5 (by decide) (fun cc5 => ?_) (fun cc5 => ?_)
  · have hm := k_in cc5 hm
    refine lv_iconst (v := 0) hx hb dX1_isOver_12 (by decide) ?_
    cases hm
    exact k_end_z false hx hb hr hlocks hK hP hD hS dX1_isOver_13
  · have hm := k_ip cc5 hm
    refine lv_iconst (v := 1) hx hb dX1_isOver_8 (by decide) ?_
    refine lv_goto (tgt := 13) hx hb dX1_isOver_9 (by decide) ?_
    cases hm
    exact k_end_z true hx hb hr hlocks hK hP hD hS dX1_isOver_13

abbrev rmX1_doNewGame : Room := { frames := 0, cells := 0, slots := 0, locals := 0 }
set_option maxHeartbeats 4000000 in
set_option maxRecDepth 100000 in
theorem zX1_doNewGame {l : Launch} {D : va_G} {cI cJ cC cG : ClassId} {sz : Nat} {h0 : Nat} {c_mover : Int32} {c_phase : Int32} {c_dice : Int32} {c_stake : Int32} {c_cube : Int32} {c_pieces0 : Int64} {c_pieces1 : Int64} {c_score0 : Int32} {c_score1 : Int32} {c_hits0 : Int32} {c_hits1 : Int32} {c_stopped : Bool} {c_stopPart : Int32} {c_mover' : Int32} {c_phase' : Int32} {c_stake' : Int32} {c_cube' : Int32} {c_pieces0' : Int64} {c_pieces1' : Int64} (hm : mX1_doNewGame c_mover c_phase c_stake c_cube c_pieces0 c_pieces1 = some (c_mover', c_phase', c_stake', c_cube', c_pieces0', c_pieces1')) : k_Mv l yX1_doNewGame wsX1_doNewGame rmX1_doNewGame D (kT cI cJ cC cG) sz ([.ref h0] : List Value) (wG h0 c_mover c_phase c_dice c_stake c_cube c_pieces0 c_pieces1 c_score0 c_score1 c_hits0 c_hits1 c_stopped c_stopPart) (wG h0 c_mover' c_phase' c_dice c_stake' c_cube' c_pieces0' c_pieces1' c_score0 c_score1 c_hits0 c_hits1 c_stopped c_stopPart) := by
  refine k_st_v (cc := cX1_doNewGame) (maxL := 1) (by decide) rfl (Nat.le_of_ble_eq_true rfl) ?_
  intro p e z m below meth c A hx hb hr hml hts hown hlocks hsz hN hA hK hP hD hS ls hl
  have hown : z.vm.findClass RX1 = some m.cls := hown
  have hinX1 : ∀ w ∈ wsX10, w ∈ wsX1_doNewGame := by decide +kernel
  have fl9 := hts (.fieldLink RX1 9 "MagpieRuns$Game" "mover" "I") (by decide +kernel)
  have fl15 := hts (.fieldLink RX1 15 "MagpieRuns$Game" "phase" "I") (by decide +kernel)
  have fl21 := hts (.fieldLink RX1 21 "MagpieRuns$Game" "stake" "I") (by decide +kernel)
  have fl24 := hts (.fieldLink RX1 24 "MagpieRuns$Game" "cube" "I") (by decide +kernel)
  have fl31 := hts (.fieldLink RX1 31 "MagpieRuns$Game" "pieces0" "J") (by decide +kernel)
  have fl35 := hts (.fieldLink RX1 35 "MagpieRuns$Game" "pieces1" "J") (by decide +kernel)
  have hl : lv_has ls 1 [(0, .ref h0)] := hl
  unfold mX1_doNewGame at hm
  refine lv_aload_n hx hb dX1_doNewGame_0 rfl (lv_at hl 0 rfl) ?_
  refine lv_iconst (v := 1) hx hb dX1_doNewGame_1 (by decide) ?_
  refine lv_aload_n hx hb dX1_doNewGame_2 rfl (lv_at hl 0 rfl) ?_
  refine va_get (D := D) (ci := 0) (v := .int c_mover) (C := RX1) (T := TX1) (N := 13) hx hb hts hinX1 hown hK hP 0 rfl rfl 0 (by decide) fl9 (fun _ h9 => h9) rfl dX1_doNewGame_3 ?_
  refine lv_isub hx hb dX1_doNewGame_6 ?_
  refine va_put (D := D) (ci := 0) (v := .int (1 - c_mover)) (ty := .int) (C := RX1) (T := TX1) (N := 13) hx hb hts hinX1 tyX1 tyX1_ok nmX1 hown hK hP hD hS 0 rfl rfl 0 (by decide) fl9 (fun _ h9 => h9) rfl (by decide +kernel) rfl rfl (Nat.le_of_ble_eq_true rfl) dX1_doNewGame_7 (fun H locs hP hD hS => ?_)
  have hP : va_P D vwCl (wG h0 (1 - c_mover) c_phase c_dice c_stake c_cube c_pieces0 c_pieces1 c_score0 c_score1 c_hits0 c_hits1 c_stopped c_stopPart) H := hP
  have hD : va_D A (wG h0 (1 - c_mover) c_phase c_dice c_stake c_cube c_pieces0 c_pieces1 c_score0 c_score1 c_hits0 c_hits1 c_stopped c_stopPart) := hD
  refine lv_aload_n hx hb dX1_doNewGame_10 rfl (lv_at hl 0 rfl) ?_
  refine lv_iconst (v := 0) hx hb dX1_doNewGame_11 (by decide) ?_
  refine va_put (D := D) (ci := 0) (v := .int 0) (ty := .int) (C := RX1) (T := TX1) (N := 13) hx hb hts hinX1 tyX1 tyX1_ok nmX1 hown hK hP hD hS 0 rfl rfl 1 (by decide) fl15 (fun _ h9 => h9) rfl (by decide +kernel) rfl rfl (Nat.le_of_ble_eq_true rfl) dX1_doNewGame_12 (fun H locs hP hD hS => ?_)
  have hP : va_P D vwCl (wG h0 (1 - c_mover) 0 c_dice c_stake c_cube c_pieces0 c_pieces1 c_score0 c_score1 c_hits0 c_hits1 c_stopped c_stopPart) H := hP
  have hD : va_D A (wG h0 (1 - c_mover) 0 c_dice c_stake c_cube c_pieces0 c_pieces1 c_score0 c_score1 c_hits0 c_hits1 c_stopped c_stopPart) := hD
  refine lv_aload_n hx hb dX1_doNewGame_15 rfl (lv_at hl 0 rfl) ?_
  refine lv_iconst (v := 1) hx hb dX1_doNewGame_16 (by decide) ?_
  refine va_put (D := D) (ci := 0) (v := .int 1) (ty := .int) (C := RX1) (T := TX1) (N := 13) hx hb hts hinX1 tyX1 tyX1_ok nmX1 hown hK hP hD hS 0 rfl rfl 3 (by decide) fl21 (fun _ h9 => h9) rfl (by decide +kernel) rfl rfl (Nat.le_of_ble_eq_true rfl) dX1_doNewGame_17 (fun H locs hP hD hS => ?_)
  have hP : va_P D vwCl (wG h0 (1 - c_mover) 0 c_dice 1 c_cube c_pieces0 c_pieces1 c_score0 c_score1 c_hits0 c_hits1 c_stopped c_stopPart) H := hP
  have hD : va_D A (wG h0 (1 - c_mover) 0 c_dice 1 c_cube c_pieces0 c_pieces1 c_score0 c_score1 c_hits0 c_hits1 c_stopped c_stopPart) := hD
  refine lv_aload_n hx hb dX1_doNewGame_20 rfl (lv_at hl 0 rfl) ?_
  refine lv_iconst (v := (-1)) hx hb dX1_doNewGame_21 (by decide) ?_
  refine va_put (D := D) (ci := 0) (v := .int (-1)) (ty := .int) (C := RX1) (T := TX1) (N := 13) hx hb hts hinX1 tyX1 tyX1_ok nmX1 hown hK hP hD hS 0 rfl rfl 4 (by decide) fl24 (fun _ h9 => h9) rfl (by decide +kernel) rfl rfl (Nat.le_of_ble_eq_true rfl) dX1_doNewGame_22 (fun H locs hP hD hS => ?_)
  have hP : va_P D vwCl (wG h0 (1 - c_mover) 0 c_dice 1 (-1) c_pieces0 c_pieces1 c_score0 c_score1 c_hits0 c_hits1 c_stopped c_stopPart) H := hP
  have hD : va_D A (wG h0 (1 - c_mover) 0 c_dice 1 (-1) c_pieces0 c_pieces1 c_score0 c_score1 c_hits0 c_hits1 c_stopped c_stopPart) := hD
  refine lv_aload_n hx hb dX1_doNewGame_25 rfl (lv_at hl 0 rfl) ?_
  refine lv_ldc2 hx hb hown (hts (.constantLong RX1 29 563087660810240) (by decide +kernel)) dX1_doNewGame_26 ?_
  refine va_put (D := D) (ci := 0) (v := .long (563087660810240)) (ty := .long) (C := RX1) (T := TX1) (N := 13) hx hb hts hinX1 tyX1 tyX1_ok nmX1 hown hK hP hD hS 0 rfl rfl 5 (by decide) fl31 (fun _ h9 => h9) rfl (by decide +kernel) rfl rfl (Nat.le_of_ble_eq_true rfl) dX1_doNewGame_29 (fun H locs hP hD hS => ?_)
  have hP : va_P D vwCl (wG h0 (1 - c_mover) 0 c_dice 1 (-1) (563087660810240) c_pieces1 c_score0 c_score1 c_hits0 c_hits1 c_stopped c_stopPart) H := hP
  have hD : va_D A (wG h0 (1 - c_mover) 0 c_dice 1 (-1) (563087660810240) c_pieces1 c_score0 c_score1 c_hits0 c_hits1 c_stopped c_stopPart) := hD
  refine lv_aload_n hx hb dX1_doNewGame_32 rfl (lv_at hl 0 rfl) ?_
  refine lv_ldc2 hx hb hown (hts (.constantLong RX1 29 563087660810240) (by decide +kernel)) dX1_doNewGame_33 ?_
  refine va_put (D := D) (ci := 0) (v := .long (563087660810240)) (ty := .long) (C := RX1) (T := TX1) (N := 13) hx hb hts hinX1 tyX1 tyX1_ok nmX1 hown hK hP hD hS 0 rfl rfl 6 (by decide) fl35 (fun _ h9 => h9) rfl (by decide +kernel) rfl rfl (Nat.le_of_ble_eq_true rfl) dX1_doNewGame_36 (fun H locs hP hD hS => ?_)
  have hP : va_P D vwCl (wG h0 (1 - c_mover) 0 c_dice 1 (-1) (563087660810240) (563087660810240) c_score0 c_score1 c_hits0 c_hits1 c_stopped c_stopPart) H := hP
  have hD : va_D A (wG h0 (1 - c_mover) 0 c_dice 1 (-1) (563087660810240) (563087660810240) c_score0 c_score1 c_hits0 c_hits1 c_stopped c_stopPart) := hD
  cases hm
  exact k_end_v hx hb hr hlocks hK hP hD hS dX1_doNewGame_39

