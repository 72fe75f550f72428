abbrev rmX9_added : Room := { frames := 0, cells := 0, slots := 0, locals := 0 }
set_option maxHeartbeats 4000000 in
set_option maxRecDepth 100000 in
theorem zX9_added {l : Launch} {D : va_G} {cI cJ cC cG : ClassId} {sz : Nat}  {a0 : Int64} {a2 : Int64} {r : Int64} (hm : mX9_added a0 a2 = some (r)) : k_Ml l yX9_added wsX9_added rmX9_added D (kT cI cJ cC cG) sz ([.long a0, .long a2] : List Value) [] [] r := by
  refine k_st_l (cc := cX9_added) (maxL := 4) (by decide) rfl (Nat.le_of_ble_eq_true rfl) ?_
  intro p e z m below meth c A hx hb hr hml hts hown hlocks hsz hN hA hK hP hD hS ls hl
  have hown : z.vm.findClass RX9 = some m.cls := hown
  have hl : lv_has ls 4 [(0, .long a0), (2, .long a2)] := hl
  unfold mX9_added at hm
  refine lv_ldc2 hx hb hown (hts (.constantLong RX9 311 31) (by decide +kernel)) dX9_added_0 ?_
  refine lv_lload_n hx hb dX9_added_3 rfl (lv_at hl 0 rfl) ?_
  refine lv_lmul hx hb dX9_added_4 ?_
  refine lv_lload_n hx hb dX9_added_5 rfl (lv_at hl 1 rfl) ?_
  refine lv_ladd hx hb dX9_added_6 ?_
  cases hm
  exact k_end_l hx hb hr hlocks hK hP hD hS dX9_added_7

abbrev rmX9_addText : Room := { frames := 1, cells := 0, slots := 0, locals := 23 }
set_option maxHeartbeats 4000000 in
set_option maxRecDepth 100000 in
theorem zX9_addText {l : Launch} {D : va_G} {cI cJ cC cG : ClassId} {sz : Nat} {h9 hn h0 : Nat} {ap q ht pa pb pc : Nat → Nat} {jk : JT} {hasS : Bool} {cnt : Int32} {snp : GT} {G : Nat → GT} {c_mover : Int32} {c_phase : Int32} {c_dice : Int32} {c_stake : Int32} {c_cube : Int32} {c_pieces0 : Int64} {c_pieces1 : Int64} {c_score0 : Int32} {c_score1 : Int32} {c_hits0 : Int32} {c_hits1 : Int32} {c_stopped : Bool} {c_stopPart : Int32} {t_signs : Nat → Int32} {t_length : Int32} {a1 : Int64} {r : Int64} (hm : mX9_addText t_signs t_length a1 = some (r)) : k_MlE l yX9_addText wsX9_addText rmX9_addText D (kT cI cJ cC cG) sz ([.ref h9, .long a1] : List Value) (wX cI cJ cC cG h9 hn ap q ht h0 pa pb pc jk hasS cnt snp G c_mover c_phase c_dice c_stake c_cube c_pieces0 c_pieces1 c_score0 c_score1 c_hits0 c_hits1 c_stopped c_stopPart t_signs t_length) (fun u : (Nat → Nat) × (Nat → Nat) × (Nat → Nat) × (JT) => (wX cI cJ cC cG h9 hn ap (u.1) ht h0 (u.2.1) (u.2.2.1) pc (u.2.2.2) hasS cnt snp G c_mover c_phase c_dice c_stake c_cube c_pieces0 c_pieces1 c_score0 c_score1 c_hits0 c_hits1 c_stopped c_stopPart t_signs t_length)) r := by
  refine k_st_lE (cc := cX9_addText) (maxL := 6) (by decide) rfl (Nat.le_of_ble_eq_true rfl) ?_
  intro p e z m below meth c A hx hb hr hml hts hown hlocks hsz hN hA hK hP hD hS ls hl
  have hown : z.vm.findClass RX9 = some m.cls := hown
  have hinX8 : ∀ w ∈ wsX80, w ∈ wsX9_addText := by decide +kernel
  have hinX9 : ∀ w ∈ wsX90, w ∈ wsX9_addText := by decide +kernel
  have fl26 := hts (.fieldLink RX9 26 "MagpieRuns" "text" "LMagpieRuns$Text;") (by decide +kernel)
  have fl150 := hts (.fieldLink RX9 150 "MagpieRuns$Text" "length" "I") (by decide +kernel)
  have hl : lv_has ls 6 [(0, .ref h9), (1, .long a1)] := hl
  have J_16 := k_loop (z := fun _ _ => none) (st := mX9_addText_16 t_signs t_length a1) (fun k16 : (Int64) → (Int32) → Option (Int64) => ∀ (q : Nat → Nat) (pa : Nat → Nat) (pb : Nat → Nat) (jk : JT) (l3 : Int64) (l5 : Int32) (H : Heap) (locs : List Loc), va_P D vwCl (wX cI cJ cC cG h9 hn ap q ht h0 pa pb pc jk hasS cnt snp G c_mover c_phase c_dice c_stake c_cube c_pieces0 c_pieces1 c_score0 c_score1 c_hits0 c_hits1 c_stopped c_stopPart t_signs t_length) H → va_D A (wX cI cJ cC cG h9 hn ap q ht h0 pa pb pc jk hasS cnt snp G c_mover c_phase c_dice c_stake c_cube c_pieces0 c_pieces1 c_score0 c_score1 c_hits0 c_hits1 c_stopped c_stopPart t_signs t_length) → va_S A z.heap H locs → ∀ ls : Array Slot, lv_has ls 6 [(0, .ref h9), (3, .long l3), (5, .int l5)] → k16 l3 l5 = some (r) → W p l e rmX9_addText z m ([.ref h9, .long a1] : List Value).toArray below meth c H locs 0 0 (k_QlE below ([.ref h9, .long a1] : List Value) D (kT cI cJ cC cG) z A (fun u : (Nat → Nat) × (Nat → Nat) × (Nat → Nat) × (JT) => (wX cI cJ cC cG h9 hn ap (u.1) ht h0 (u.2.1) (u.2.2.1) pc (u.2.2.2) hasS cnt snp G c_mover c_phase c_dice c_stake c_cube c_pieces0 c_pieces1 c_score0 c_score1 c_hits0 c_hits1 c_stopped c_stopPart t_signs t_length)) r) (F0 m 16 ls [])) (by intros; contradiction) (by
    intro k16 ih16
    intro q pa pb jk l3 l5 H locs hP hD hS ls hl hm
    unfold mX9_addText_16 at hm
    refine lv_iload hx hb dX9_addText_16 (lv_at hl 2 rfl) ?_
    refine lv_aload_n hx hb dX9_addText_18 rfl (lv_at hl 0 rfl) ?_
    refine va_get (D := D) (ci := 5) (v := .ref (ht 0)) (C := RX9) (T := TX9) (N := 4) hx hb hts hinX9 hown hK hP 0 rfl rfl 2 (by decide) fl26 (fun _ h9 => h9) rfl dX9_addText_19 ?_
    refine va_get (D := D) (ci := 4) (v := .int t_length) (C := RX8) (T := TX8) (N := 2) hx hb hts hinX8 hown hK hP 10 rfl rfl 1 (by decide) fl150 (fun _ h9 => h9) rfl dX9_addText_22 ?_
    refine lv_icmp_ge (tgt := 49) hx hb dX9_addText_25 (by decide) (fun cc25 => ?_) (fun cc25 => ?_)
    · have hm := k_ip cc25 hm
      refine lv_lload_n hx hb dX9_addText_49 rfl (lv_at hl 1 rfl) ?_
      cases hm
      exact k_end_lE (q, pa, pb, jk) hx hb hr hlocks hK hP hD hS dX9_addText_50
    · have hm := k_in cc25 hm
      refine lv_lload_n hx hb dX9_addText_28 rfl (lv_at hl 1 rfl) ?_
      refine lv_aload_n hx hb dX9_addText_29 rfl (lv_at hl 0 rfl) ?_
      refine va_get (D := D) (ci := 5) (v := .ref (ht 0)) (C := RX9) (T := TX9) (N := 4) hx hb hts hinX9 hown hK hP 0 rfl rfl 2 (by decide) fl26 (fun _ h9 => h9) rfl dX9_addText_30 ?_
      refine lv_iload hx hb dX9_addText_33 (lv_at hl 2 rfl) ?_
      obtain ⟨r1, hc35, hm⟩ := k_bds hm
      have hPc : va_P D vwCl (wT cC ht t_signs t_length) _ := k_Psub hP [10, 11] rfl
      have hDc : va_D A (wT cC ht t_signs t_length) := hD.sub [10, 11] (by decide) rfl
      refine k_i_c (Wf := (wX cI cJ cC cG h9 hn ap q ht h0 pa pb pc jk hasS cnt snp G c_mover c_phase c_dice c_stake c_cube c_pieces0 c_pieces1 c_score0 c_score1 c_hits0 c_hits1 c_stopped c_stopPart t_signs t_length)) [10, 11] [0, 1, 2, 3, 4, 5, 6, 7, 8, 9, 12, 13, 14, 15, 16, 17, 18, 19, 20, 21, 22, 23, 24] [0, 1, 2, 3, 4, 5, 6, 7, 8, 9, 23, 24, 10, 11, 12, 13, 14, 15, 16, 17, 18, 19, 20, 21, 22] (k_rV (As := [.int l5]) (rest := [.long l3]) ⟨hx, hb, hml, hown, hts⟩ hK hN hPc hDc (zX8_at hc35) (cwV 1 hts gX9_addText_X8_at rfl rfl rfl (by decide +kernel) ⟨Nat.le_of_ble_eq_true rfl, Nat.le_of_ble_eq_true rfl⟩) rfl rfl rfl hl.1 rfl (Nat.le_of_ble_eq_true rfl) dX9_addText_35 ⟨Nat.zero_le _, Nat.zero_le _⟩) hP hD hS hA rfl rfl (by decide) (by decide) rfl (by decide) (fun H locs hP hD hS => ?_)
      refine lv_i2l (v := (Int32.toInt64 r1)) hx hb dX9_addText_38 rfl ?_
      obtain ⟨r2, hc39, hm⟩ := k_bds hm
      refine k_l_0 (k_rS (As := [.long l3, .long (Int32.toInt64 r1)]) (rest := []) ⟨hx, hb, hml, hown, hts⟩ hK hN k_P0 (k_D0 (A := A)) (zX9_added hc39) (va_cwS 2 hts gX9_addText_X9_added rfl rfl rfl (by decide +kernel) ⟨Nat.le_of_ble_eq_true rfl, Nat.le_of_ble_eq_true rfl⟩) rfl hl.1 rfl (Nat.le_of_ble_eq_true rfl) dX9_addText_39 ⟨Nat.zero_le _, Nat.zero_le _⟩) hP hS hA (fun H locs hP hS => ?_)
      refine lv_lstore_n (lv' := [(3, .long r2), (0, .ref h9), (5, .int l5)]) hx hb dX9_addText_42 rfl hl (by decide) rfl (fun ls hl => ?_)
      refine lv_iinc (v := (l5 + 1)) (lv' := [(5, .int (l5 + 1)), (3, .long r2), (0, .ref h9)]) hx hb dX9_addText_43 hl (k := 2) rfl rfl (by decide) rfl (fun ls hl => ?_)
      refine lv_goto (tgt := 16) hx hb dX9_addText_46 (by decide) ?_
      exact ih16 q pa pb jk r2 (l5 + 1) _ _ hP hD hS _ (lv_sub hl [2, 1, 0] rfl) hm) k_F
  unfold mX9_addText at hm
  refine lv_lload_n hx hb dX9_addText_0 rfl (lv_at hl 1 rfl) ?_
  refine lv_aload_n hx hb dX9_addText_1 rfl (lv_at hl 0 rfl) ?_
  refine va_get (D := D) (ci := 5) (v := .ref (ht 0)) (C := RX9) (T := TX9) (N := 4) hx hb hts hinX9 hown hK hP 0 rfl rfl 2 (by decide) fl26 (fun _ h9 => h9) rfl dX9_addText_2 ?_
  refine va_get (D := D) (ci := 4) (v := .int t_length) (C := RX8) (T := TX8) (N := 2) hx hb hts hinX8 hown hK hP 10 rfl rfl 1 (by decide) fl150 (fun _ h9 => h9) rfl dX9_addText_5 ?_
  refine lv_i2l (v := (Int32.toInt64 t_length)) hx hb dX9_addText_8 rfl ?_
  obtain ⟨r3, hc9, hm⟩ := k_bds hm
  refine k_l_0 (k_rS (As := [.long a1, .long (Int32.toInt64 t_length)]) (rest := []) ⟨hx, hb, hml, hown, hts⟩ hK hN k_P0 (k_D0 (A := A)) (zX9_added hc9) (va_cwS 2 hts gX9_addText_X9_added rfl rfl rfl (by decide +kernel) ⟨Nat.le_of_ble_eq_true rfl, Nat.le_of_ble_eq_true rfl⟩) rfl hl.1 rfl (Nat.le_of_ble_eq_true rfl) dX9_addText_9 ⟨Nat.zero_le _, Nat.zero_le _⟩) hP hS hA (fun H locs hP hS => ?_)
  refine lv_lstore_n (lv' := [(3, .long r3), (0, .ref h9), (1, .long a1)]) hx hb dX9_addText_12 rfl hl (by decide) rfl (fun ls hl => ?_)
  refine lv_iconst (v := 0) hx hb dX9_addText_13 (by decide) ?_
  refine lv_istore (lv' := [(5, .int 0), (3, .long r3), (0, .ref h9), (1, .long a1)]) hx hb dX9_addText_14 hl (by decide) rfl (fun ls hl => ?_)
  exact J_16 q pa pb jk r3 0 _ _ hP hD hS _ (lv_sub hl [2, 1, 0] rfl) hm

abbrev rmX9_addTurn : Room := { frames := 2, cells := 0, slots := 0, locals := 43 }
set_option maxHeartbeats 4000000 in
set_option maxRecDepth 100000 in
theorem zX9_addTurn {l : Launch} {D : va_G} {cI cJ cC cG : ClassId} {sz : Nat} {h9 hn h0 : Nat} {ap q ht pa pb pc : Nat → Nat} {jk : JT} {hasS : Bool} {cnt : Int32} {snp : GT} {G : Nat → GT} {c_mover : Int32} {c_phase : Int32} {c_dice : Int32} {c_stake : Int32} {c_cube : Int32} {c_pieces0 : Int64} {c_pieces1 : Int64} {c_score0 : Int32} {c_score1 : Int32} {c_hits0 : Int32} {c_hits1 : Int32} {c_stopped : Bool} {c_stopPart : Int32} {t_signs : Nat → Int32} {t_length : Int32} {a1 : Int64} {r : Int64} (hm : mX9_addTurn c_mover c_phase c_dice c_stake c_cube a1 = some (r)) : k_MlE l yX9_addTurn wsX9_addTurn rmX9_addTurn D (kT cI cJ cC cG) sz ([.ref h9, .long a1] : List Value) (wX cI cJ cC cG h9 hn ap q ht h0 pa pb pc jk hasS cnt snp G c_mover c_phase c_dice c_stake c_cube c_pieces0 c_pieces1 c_score0 c_score1 c_hits0 c_hits1 c_stopped c_stopPart t_signs t_length) (fun u : (Nat → Nat) × (Nat → Nat) × (Nat → Nat) × (JT) => (wX cI cJ cC cG h9 hn ap (u.1) ht h0 (u.2.1) (u.2.2.1) pc (u.2.2.2) hasS cnt snp G c_mover c_phase c_dice c_stake c_cube c_pieces0 c_pieces1 c_score0 c_score1 c_hits0 c_hits1 c_stopped c_stopPart t_signs t_length)) r := by
  refine k_st_lE (cc := cX9_addTurn) (maxL := 6) (by decide) rfl (Nat.le_of_ble_eq_true rfl) ?_
  intro p e z m below meth c A hx hb hr hml hts hown hlocks hsz hN hA hK hP hD hS ls hl
  have hown : z.vm.findClass RX9 = some m.cls := hown
  have hinX1 : ∀ w ∈ wsX10, w ∈ wsX9_addTurn := by decide +kernel
  have hinX9 : ∀ w ∈ wsX90, w ∈ wsX9_addTurn := by decide +kernel
  have fl10 := hts (.fieldLink RX9 10 "MagpieRuns" "now" "LMagpieRuns$Game;") (by decide +kernel)
  have fl61 := hts (.fieldLink RX9 61 "MagpieRuns$Game" "dice" "I") (by decide +kernel)
  have fl89 := hts (.fieldLink RX9 89 "MagpieRuns$Game" "mover" "I") (by decide +kernel)
  have fl122 := hts (.fieldLink RX9 122 "MagpieRuns$Game" "stake" "I") (by decide +kernel)
  have fl197 := hts (.fieldLink RX9 197 "MagpieRuns$Game" "phase" "I") (by decide +kernel)
  have fl219 := hts (.fieldLink RX9 219 "MagpieRuns$Game" "cube" "I") (by decide +kernel)
  have hl : lv_has ls 6 [(0, .ref h9), (1, .long a1)] := hl
  have J_45 := k_loop (z := fun _ _ => none) (st := mX9_addTurn_45 c_mover c_phase c_dice c_stake c_cube a1) (fun k45 : (Int64) → (Int32) → Option (Int64) => ∀ (q : Nat → Nat) (pa : Nat → Nat) (pb : Nat → Nat) (jk : JT) (l3 : Int64) (l5 : Int32) (H : Heap) (locs : List Loc), va_P D vwCl (wX cI cJ cC cG h9 hn ap q ht h0 pa pb pc jk hasS cnt snp G c_mover c_phase c_dice c_stake c_cube c_pieces0 c_pieces1 c_score0 c_score1 c_hits0 c_hits1 c_stopped c_stopPart t_signs t_length) H → va_D A (wX cI cJ cC cG h9 hn ap q ht h0 pa pb pc jk hasS cnt snp G c_mover c_phase c_dice c_stake c_cube c_pieces0 c_pieces1 c_score0 c_score1 c_hits0 c_hits1 c_stopped c_stopPart t_signs t_length) → va_S A z.heap H locs → ∀ ls : Array Slot, lv_has ls 6 [(0, .ref h9), (3, .long l3), (5, .int l5)] → k45 l3 l5 = some (r) → W p l e rmX9_addTurn z m ([.ref h9, .long a1] : List Value).toArray below meth c H locs 0 0 (k_QlE below ([.ref h9, .long a1] : List Value) D (kT cI cJ cC cG) z A (fun u : (Nat → Nat) × (Nat → Nat) × (Nat → Nat) × (JT) => (wX cI cJ cC cG h9 hn ap (u.1) ht h0 (u.2.1) (u.2.2.1) pc (u.2.2.2) hasS cnt snp G c_mover c_phase c_dice c_stake c_cube c_pieces0 c_pieces1 c_score0 c_score1 c_hits0 c_hits1 c_stopped c_stopPart t_signs t_length)) r) (F0 m 45 ls [])) (by intros; contradiction) (by
    intro k45 ih45
    intro q pa pb jk l3 l5 H locs hP hD hS ls hl hm
    unfold mX9_addTurn_45 at hm
    refine lv_iload hx hb dX9_addTurn_45 (lv_at hl 2 rfl) ?_
    refine lv_aload_n hx hb dX9_addTurn_47 rfl (lv_at hl 0 rfl) ?_
    refine va_get (D := D) (ci := 5) (v := .ref hn) (C := RX9) (T := TX9) (N := 4) hx hb hts hinX9 hown hK hP 0 rfl rfl 0 (by decide) fl10 (fun _ h9 => h9) rfl dX9_addTurn_48 ?_
    refine va_get (D := D) (ci := 0) (v := .int c_dice) (C := RX1) (T := TX1) (N := 13) hx hb hts hinX1 hown hK hP 1 rfl rfl 2 (by decide) fl61 (fun _ h9 => h9) rfl dX9_addTurn_51 ?_
    obtain ⟨r1, hc54, hm⟩ := k_bds hm
    refine k_i_0 (k_rS (As := [.int c_dice]) (rest := [.int l5]) ⟨hx, hb, hml, hown, hts⟩ hK hN k_P0 (k_D0 (A := A)) (zX0_count hc54) (va_cwS 1 hts gX9_addTurn_X0_count rfl rfl rfl (by decide +kernel) ⟨Nat.le_of_ble_eq_true rfl, Nat.le_of_ble_eq_true rfl⟩) rfl hl.1 rfl (Nat.le_of_ble_eq_true rfl) dX9_addTurn_54 ⟨Nat.zero_le _, Nat.zero_le _⟩) hP hS hA (fun H locs hP hS => ?_)
    refine lv_icmp_ge (tgt := 84) hx hb dX9_addTurn_57 (by decide) (fun cc57 => ?_) (fun cc57 => ?_)
    · have hm := k_ip cc57 hm
      refine lv_lload_n hx hb dX9_addTurn_84 rfl (lv_at hl 1 rfl) ?_
      refine lv_aload_n hx hb dX9_addTurn_85 rfl (lv_at hl 0 rfl) ?_
      refine va_get (D := D) (ci := 5) (v := .ref hn) (C := RX9) (T := TX9) (N := 4) hx hb hts hinX9 hown hK hP 0 rfl rfl 0 (by decide) fl10 (fun _ h9 => h9) rfl dX9_addTurn_86 ?_
      refine va_get (D := D) (ci := 0) (v := .int c_stake) (C := RX1) (T := TX1) (N := 13) hx hb hts hinX1 hown hK hP 1 rfl rfl 3 (by decide) fl122 (fun _ h9 => h9) rfl dX9_addTurn_89 ?_
      refine lv_i2l (v := (Int32.toInt64 c_stake)) hx hb dX9_addTurn_92 rfl ?_
      obtain ⟨r2, hc93, hm⟩ := k_bds hm
      refine k_l_0 (k_rS (As := [.long l3, .long (Int32.toInt64 c_stake)]) (rest := []) ⟨hx, hb, hml, hown, hts⟩ hK hN k_P0 (k_D0 (A := A)) (zX9_added hc93) (va_cwS 2 hts gX9_addTurn_X9_added rfl rfl rfl (by decide +kernel) ⟨Nat.le_of_ble_eq_true rfl, Nat.le_of_ble_eq_true rfl⟩) rfl hl.1 rfl (Nat.le_of_ble_eq_true rfl) dX9_addTurn_93 ⟨Nat.zero_le _, Nat.zero_le _⟩) hP hS hA (fun H locs hP hS => ?_)
      refine lv_lstore_n (lv' := [(3, .long r2), (0, .ref h9), (5, .int l5)]) hx hb dX9_addTurn_96 rfl hl (by decide) rfl (fun ls hl => ?_)
      refine lv_lload_n hx hb dX9_addTurn_97 rfl (lv_at hl 0 rfl) ?_
      refine lv_aload_n hx hb dX9_addTurn_98 rfl (lv_at hl 1 rfl) ?_
      refine va_get (D := D) (ci := 5) (v := .ref hn) (C := RX9) (T := TX9) (N := 4) hx hb hts hinX9 hown hK hP 0 rfl rfl 0 (by decide) fl10 (fun _ h9 => h9) rfl dX9_addTurn_99 ?_
      refine va_get (D := D) (ci := 0) (v := .int c_cube) (C := RX1) (T := TX1) (N := 13) hx hb hts hinX1 hown hK hP 1 rfl rfl 4 (by decide) fl219 (fun _ h9 => h9) rfl dX9_addTurn_102 ?_
      refine lv_i2l (v := (Int32.toInt64 c_cube)) hx hb dX9_addTurn_105 rfl ?_
      obtain ⟨r3, hc106, hm⟩ := k_bds hm
      refine k_l_0 (k_rS (As := [.long r2, .long (Int32.toInt64 c_cube)]) (rest := []) ⟨hx, hb, hml, hown, hts⟩ hK hN k_P0 (k_D0 (A := A)) (zX9_added hc106) (va_cwS 2 hts gX9_addTurn_X9_added rfl rfl rfl (by decide +kernel) ⟨Nat.le_of_ble_eq_true rfl, Nat.le_of_ble_eq_true rfl⟩) rfl hl.1 rfl (Nat.le_of_ble_eq_true rfl) dX9_addTurn_106 ⟨Nat.zero_le _, Nat.zero_le _⟩) hP hS hA (fun H locs hP hS => ?_)
      cases hm
      exact k_end_lE (q, pa, pb, jk) hx hb hr hlocks hK hP hD hS dX9_addTurn_109
    · have hm := k_in cc57 hm
      refine lv_lload_n hx hb dX9_addTurn_60 rfl (lv_at hl 1 rfl) ?_
      refine lv_aload_n hx hb dX9_addTurn_61 rfl (lv_at hl 0 rfl) ?_
      refine va_get (D := D) (ci := 5) (v := .ref hn) (C := RX9) (T := TX9) (N := 4) hx hb hts hinX9 hown hK hP 0 rfl rfl 0 (by decide) fl10 (fun _ h9 => h9) rfl dX9_addTurn_62 ?_
      refine va_get (D := D) (ci := 0) (v := .int c_dice) (C := RX1) (T := TX1) (N := 13) hx hb hts hinX1 hown hK hP 1 rfl rfl 2 (by decide) fl61 (fun _ h9 => h9) rfl dX9_addTurn_65 ?_
      refine lv_iload hx hb dX9_addTurn_68 (lv_at hl 2 rfl) ?_
      obtain ⟨r4, hc70, hm⟩ := k_bds hm
      refine k_i_0 (k_rS (As := [.int c_dice, .int l5]) (rest := [.long l3]) ⟨hx, hb, hml, hown, hts⟩ hK hN k_P0 (k_D0 (A := A)) (zX0_at hc70) (va_cwS 2 hts gX9_addTurn_X0_at rfl rfl rfl (by decide +kernel) ⟨Nat.le_of_ble_eq_true rfl, Nat.le_of_ble_eq_true rfl⟩) rfl hl.1 rfl (Nat.le_of_ble_eq_true rfl) dX9_addTurn_70 ⟨Nat.zero_le _, Nat.zero_le _⟩) hP hS hA (fun H locs hP hS => ?_)
      refine lv_i2l (v := (Int32.toInt64 r4)) hx hb dX9_addTurn_73 rfl ?_
      obtain ⟨r5, hc74, hm⟩ := k_bds hm
      refine k_l_0 (k_rS (As := [.long l3, .long (Int32.toInt64 r4)]) (rest := []) ⟨hx, hb, hml, hown, hts⟩ hK hN k_P0 (k_D0 (A := A)) (zX9_added hc74) (va_cwS 2 hts gX9_addTurn_X9_added rfl rfl rfl (by decide +kernel) ⟨Nat.le_of_ble_eq_true rfl, Nat.le_of_ble_eq_true rfl⟩) rfl hl.1 rfl (Nat.le_of_ble_eq_true rfl) dX9_addTurn_74 ⟨Nat.zero_le _, Nat.zero_le _⟩) hP hS hA (fun H locs hP hS => ?_)
      refine lv_lstore_n (lv' := [(3, .long r5), (0, .ref h9), (5, .int l5)]) hx hb dX9_addTurn_77 rfl hl (by decide) rfl (fun ls hl => ?_)
      refine lv_iinc (v := (l5 + 1)) (lv' := [(5, .int (l5 + 1)), (3, .long r5), (0, .ref h9)]) hx hb dX9_addTurn_78 hl (k := 2) rfl rfl (by decide) rfl (fun ls hl => ?_)
      refine lv_goto (tgt := 45) hx hb dX9_addTurn_81 (by decide) ?_
      exact ih45 q pa pb jk r5 (l5 + 1) _ _ hP hD hS _ (lv_sub hl [2, 1, 0] rfl) hm) k_F
  unfold mX9_addTurn at hm
  refine lv_lload_n hx hb dX9_addTurn_0 rfl (lv_at hl 1 rfl) ?_
  refine lv_aload_n hx hb dX9_addTurn_1 rfl (lv_at hl 0 rfl) ?_
  refine va_get (D := D) (ci := 5) (v := .ref hn) (C := RX9) (T := TX9) (N := 4) hx hb hts hinX9 hown hK hP 0 rfl rfl 0 (by decide) fl10 (fun _ h9 => h9) rfl dX9_addTurn_2 ?_
  refine va_get (D := D) (ci := 0) (v := .int c_mover) (C := RX1) (T := TX1) (N := 13) hx hb hts hinX1 hown hK hP 1 rfl rfl 0 (by decide) fl89 (fun _ h9 => h9) rfl dX9_addTurn_5 ?_
  refine lv_i2l (v := (Int32.toInt64 c_mover)) hx hb dX9_addTurn_8 rfl ?_
  obtain ⟨r6, hc9, hm⟩ := k_bds hm
  refine k_l_0 (k_rS (As := [.long a1, .long (Int32.toInt64 c_mover)]) (rest := []) ⟨hx, hb, hml, hown, hts⟩ hK hN k_P0 (k_D0 (A := A)) (zX9_added hc9) (va_cwS 2 hts gX9_addTurn_X9_added rfl rfl rfl (by decide +kernel) ⟨Nat.le_of_ble_eq_true rfl, Nat.le_of_ble_eq_true rfl⟩) rfl hl.1 rfl (Nat.le_of_ble_eq_true rfl) dX9_addTurn_9 ⟨Nat.zero_le _, Nat.zero_le _⟩) hP hS hA (fun H locs hP hS => ?_)
  refine lv_lstore_n (lv' := [(3, .long r6), (0, .ref h9), (1, .long a1)]) hx hb dX9_addTurn_12 rfl hl (by decide) rfl (fun ls hl => ?_)
  refine lv_lload_n hx hb dX9_addTurn_13 rfl (lv_at hl 0 rfl) ?_
  refine lv_aload_n hx hb dX9_addTurn_14 rfl (lv_at hl 1 rfl) ?_
  refine va_get (D := D) (ci := 5) (v := .ref hn) (C := RX9) (T := TX9) (N := 4) hx hb hts hinX9 hown hK hP 0 rfl rfl 0 (by decide) fl10 (fun _ h9 => h9) rfl dX9_addTurn_15 ?_
  refine va_get (D := D) (ci := 0) (v := .int c_phase) (C := RX1) (T := TX1) (N := 13) hx hb hts hinX1 hown hK hP 1 rfl rfl 1 (by decide) fl197 (fun _ h9 => h9) rfl dX9_addTurn_18 ?_
  refine lv_i2l (v := (Int32.toInt64 c_phase)) hx hb dX9_addTurn_21 rfl ?_
  obtain ⟨r7, hc22, hm⟩ := k_bds hm
  refine k_l_0 (k_rS (As := [.long r6, .long (Int32.toInt64 c_phase)]) (rest := []) ⟨hx, hb, hml, hown, hts⟩ hK hN k_P0 (k_D0 (A := A)) (zX9_added hc22) (va_cwS 2 hts gX9_addTurn_X9_added rfl rfl rfl (by decide +kernel) ⟨Nat.le_of_ble_eq_true rfl, Nat.le_of_ble_eq_true rfl⟩) rfl hl.1 rfl (Nat.le_of_ble_eq_true rfl) dX9_addTurn_22 ⟨Nat.zero_le _, Nat.zero_le _⟩) hP hS hA (fun H locs hP hS => ?_)
  refine lv_lstore_n (lv' := [(3, .long r7), (0, .ref h9), (1, .long a1)]) hx hb dX9_addTurn_25 rfl hl (by decide) rfl (fun ls hl => ?_)
  refine lv_lload_n hx hb dX9_addTurn_26 rfl (lv_at hl 0 rfl) ?_
  refine lv_aload_n hx hb dX9_addTurn_27 rfl (lv_at hl 1 rfl) ?_
  refine va_get (D := D) (ci := 5) (v := .ref hn) (C := RX9) (T := TX9) (N := 4) hx hb hts hinX9 hown hK hP 0 rfl rfl 0 (by decide) fl10 (fun _ h9 => h9) rfl dX9_addTurn_28 ?_
  refine va_get (D := D) (ci := 0) (v := .int c_dice) (C := RX1) (T := TX1) (N := 13) hx hb hts hinX1 hown hK hP 1 rfl rfl 2 (by decide) fl61 (fun _ h9 => h9) rfl dX9_addTurn_31 ?_
  obtain ⟨r8, hc34, hm⟩ := k_bds hm
  refine k_i_0 (k_rS (As := [.int c_dice]) (rest := [.long r7]) ⟨hx, hb, hml, hown, hts⟩ hK hN k_P0 (k_D0 (A := A)) (zX0_count hc34) (va_cwS 1 hts gX9_addTurn_X0_count rfl rfl rfl (by decide +kernel) ⟨Nat.le_of_ble_eq_true rfl, Nat.le_of_ble_eq_true rfl⟩) rfl hl.1 rfl (Nat.le_of_ble_eq_true rfl) dX9_addTurn_34 ⟨Nat.zero_le _, Nat.zero_le _⟩) hP hS hA (fun H locs hP hS => ?_)
  refine lv_i2l (v := (Int32.toInt64 r8)) hx hb dX9_addTurn_37 rfl ?_
  obtain ⟨r9, hc38, hm⟩ := k_bds hm
  refine k_l_0 (k_rS (As := [.long r7, .long (Int32.toInt64 r8)]) (rest := []) ⟨hx, hb, hml, hown, hts⟩ hK hN k_P0 (k_D0 (A := A)) (zX9_added hc38) (va_cwS 2 hts gX9_addTurn_X9_added rfl rfl rfl (by decide +kernel) ⟨Nat.le_of_ble_eq_true rfl, Nat.le_of_ble_eq_true rfl⟩) rfl hl.1 rfl (Nat.le_of_ble_eq_true rfl) dX9_addTurn_38 ⟨Nat.zero_le _, Nat.zero_le _⟩) hP hS hA (fun H locs hP hS => ?_)
  refine lv_lstore_n (lv' := [(3, .long r9), (0, .ref h9), (1, .long a1)]) hx hb dX9_addTurn_41 rfl hl (by decide) rfl (fun ls hl => ?_)
  refine lv_iconst (v := 0) hx hb dX9_addTurn_42 (by decide) ?_
  refine lv_istore (lv' := [(5, .int 0), (3, .long r9), (0, .ref h9), (1, .long a1)]) hx hb dX9_addTurn_43 hl (by decide) rfl (fun ls hl => ?_)
  exact J_45 q pa pb jk r9 0 _ _ hP hD hS _ (lv_sub hl [2, 1, 0] rfl) hm

abbrev rmX9_addPlayer : Room := { frames := 2, cells := 0, slots := 0, locals := 46 }
set_option maxHeartbeats 4000000 in
set_option maxRecDepth 100000 in
theorem zX9_addPlayer {l : Launch} {D : va_G} {cI cJ cC cG : ClassId} {sz : Nat} {h9 hn h0 : Nat} {ap q ht pa pb pc : Nat → Nat} {jk : JT} {hasS : Bool} {cnt : Int32} {snp : GT} {G : Nat → GT} {c_mover : Int32} {c_phase : Int32} {c_dice : Int32} {c_stake : Int32} {c_cube : Int32} {c_pieces0 : Int64} {c_pieces1 : Int64} {c_score0 : Int32} {c_score1 : Int32} {c_hits0 : Int32} {c_hits1 : Int32} {c_stopped : Bool} {c_stopPart : Int32} {t_signs : Nat → Int32} {t_length : Int32} {a1 : Int64} {a3 : Int32} {r : Int64} (hm : mX9_addPlayer c_pieces0 c_pieces1 c_score0 c_score1 c_hits0 c_hits1 a1 a3 = some (r)) : k_MlE l yX9_addPlayer wsX9_addPlayer rmX9_addPlayer D (kT cI cJ cC cG) sz ([.ref h9, .long a1, .int a3] : List Value) (wX cI cJ cC cG h9 hn ap q ht h0 pa pb pc jk hasS cnt snp G c_mover c_phase c_dice c_stake c_cube c_pieces0 c_pieces1 c_score0 c_score1 c_hits0 c_hits1 c_stopped c_stopPart t_signs t_length) (fun u : (Nat → Nat) × (Nat → Nat) × (Nat → Nat) × (JT) => (wX cI cJ cC cG h9 hn ap (u.1) ht h0 (u.2.1) (u.2.2.1) pc (u.2.2.2) hasS cnt snp G c_mover c_phase c_dice c_stake c_cube c_pieces0 c_pieces1 c_score0 c_score1 c_hits0 c_hits1 c_stopped c_stopPart t_signs t_length)) r := by
  refine k_st_lE (cc := cX9_addPlayer) (maxL := 9) (by decide) rfl (Nat.le_of_ble_eq_true rfl) ?_
  intro p e z m below meth c A hx hb hr hml hts hown hlocks hsz hN hA hK hP hD hS ls hl
  have hown : z.vm.findClass RX9 = some m.cls := hown
  have hinX9 : ∀ w ∈ wsX90, w ∈ wsX9_addPlayer := by decide +kernel
  have fl10 := hts (.fieldLink RX9 10 "MagpieRuns" "now" "LMagpieRuns$Game;") (by decide +kernel)
  have hl : lv_has ls 9 [(0, .ref h9), (1, .long a1), (3, .int a3)] := hl
  have J_133 := k_loop (z := fun _ _ => none) (st := mX9_addPlayer_133 c_pieces0 c_pieces1 c_score0 c_score1 c_hits0 c_hits1 a1 a3) (fun k133 : (Int64) → (Int32) → Option (Int64) => ∀ (q : Nat → Nat) (pa : Nat → Nat) (pb : Nat → Nat) (jk : JT) (l6 : Int64) (l8 : Int32) (H : Heap) (locs : List Loc), va_P D vwCl (wX cI cJ cC cG h9 hn ap q ht h0 pa pb pc jk hasS cnt snp G c_mover c_phase c_dice c_stake c_cube c_pieces0 c_pieces1 c_score0 c_score1 c_hits0 c_hits1 c_stopped c_stopPart t_signs t_length) H → va_D A (wX cI cJ cC cG h9 hn ap q ht h0 pa pb pc jk hasS cnt snp G c_mover c_phase c_dice c_stake c_cube c_pieces0 c_pieces1 c_score0 c_score1 c_hits0 c_hits1 c_stopped c_stopPart t_signs t_length) → va_S A z.heap H locs → ∀ ls : Array Slot, lv_has ls 9 [(0, .ref h9), (3, .int a3), (6, .long l6), (8, .int l8)] → k133 l6 l8 = some (r) → W p l e rmX9_addPlayer z m ([.ref h9, .long a1, .int a3] : List Value).toArray below meth c H locs 0 0 (k_QlE below ([.ref h9, .long a1, .int a3] : List Value) D (kT cI cJ cC cG) z A (fun u : (Nat → Nat) × (Nat → Nat) × (Nat → Nat) × (JT) => (wX cI cJ cC cG h9 hn ap (u.1) ht h0 (u.2.1) (u.2.2.1) pc (u.2.2.2) hasS cnt snp G c_mover c_phase c_dice c_stake c_cube c_pieces0 c_pieces1 c_score0 c_score1 c_hits0 c_hits1 c_stopped c_stopPart t_signs t_length)) r) (F0 m 133 ls [])) (by intros; contradiction) (by
    intro k133 ih133
    intro q pa pb jk l6 l8 H locs hP hD hS ls hl hm
    unfold mX9_addPlayer_133 at hm
    refine lv_iload hx hb dX9_addPlayer_133 (lv_at hl 3 rfl) ?_
    refine lv_bipush (v := 16) hx hb dX9_addPlayer_135 (by decide) ?_
    refine lv_icmp_ge (tgt := 164) hx hb dX9_addPlayer_137 (by decide) (fun cc137 => ?_) (fun cc137 => ?_)
    · have hm := k_ip cc137 hm
      refine lv_lload hx hb dX9_addPlayer_164 (lv_at hl 2 rfl) ?_
      cases hm
      exact k_end_lE (q, pa, pb, jk) hx hb hr hlocks hK hP hD hS dX9_addPlayer_166
    · have hm := k_in cc137 hm
      refine lv_lload hx hb dX9_addPlayer_140 (lv_at hl 2 rfl) ?_
      refine lv_aload_n hx hb dX9_addPlayer_142 rfl (lv_at hl 0 rfl) ?_
      refine va_get (D := D) (ci := 5) (v := .ref hn) (C := RX9) (T := TX9) (N := 4) hx hb hts hinX9 hown hK hP 0 rfl rfl 0 (by decide) fl10 (fun _ h9 => h9) rfl dX9_addPlayer_143 ?_
      refine lv_iload_n hx hb dX9_addPlayer_146 rfl (lv_at hl 1 rfl) ?_
      refine lv_iload hx hb dX9_addPlayer_147 (lv_at hl 3 rfl) ?_
      obtain ⟨r1, hc149, hm⟩ := k_bds hm
      have hPc : va_P D vwCl (wG hn c_mover c_phase c_dice c_stake c_cube c_pieces0 c_pieces1 c_score0 c_score1 c_hits0 c_hits1 c_stopped c_stopPart) _ := k_Psub hP [1] rfl
      have hDc : va_D A (wG hn c_mover c_phase c_dice c_stake c_cube c_pieces0 c_pieces1 c_score0 c_score1 c_hits0 c_hits1 c_stopped c_stopPart) := hD.sub [1] (by decide) rfl
      refine k_i_c (Wf := (wX cI cJ cC cG h9 hn ap q ht h0 pa pb pc jk hasS cnt snp G c_mover c_phase c_dice c_stake c_cube c_pieces0 c_pieces1 c_score0 c_score1 c_hits0 c_hits1 c_stopped c_stopPart t_signs t_length)) [1] [0, 2, 3, 4, 5, 6, 7, 8, 9, 10, 11, 12, 13, 14, 15, 16, 17, 18, 19, 20, 21, 22, 23, 24] [0, 24, 1, 2, 3, 4, 5, 6, 7, 8, 9, 10, 11, 12, 13, 14, 15, 16, 17, 18, 19, 20, 21, 22, 23] (k_rV (As := [.int a3, .int l8]) (rest := [.long l6]) ⟨hx, hb, hml, hown, hts⟩ hK hN hPc hDc (zX1_countAt hc149) (cwV 2 hts gX9_addPlayer_X1_countAt rfl rfl rfl (by decide +kernel) ⟨Nat.le_of_ble_eq_true rfl, Nat.le_of_ble_eq_true rfl⟩) rfl rfl rfl hl.1 rfl (Nat.le_of_ble_eq_true rfl) dX9_addPlayer_149 ⟨Nat.zero_le _, Nat.zero_le _⟩) hP hD hS hA rfl rfl (by decide) (by decide) rfl (by decide) (fun H locs hP hD hS => ?_)
      refine lv_i2l (v := (Int32.toInt64 r1)) hx hb dX9_addPlayer_152 rfl ?_
      obtain ⟨r2, hc153, hm⟩ := k_bds hm
      refine k_l_0 (k_rS (As := [.long l6, .long (Int32.toInt64 r1)]) (rest := []) ⟨hx, hb, hml, hown, hts⟩ hK hN k_P0 (k_D0 (A := A)) (zX9_added hc153) (va_cwS 2 hts gX9_addPlayer_X9_added rfl rfl rfl (by decide +kernel) ⟨Nat.le_of_ble_eq_true rfl, Nat.le_of_ble_eq_true rfl⟩) rfl hl.1 rfl (Nat.le_of_ble_eq_true rfl) dX9_addPlayer_153 ⟨Nat.zero_le _, Nat.zero_le _⟩) hP hS hA (fun H locs hP hS => ?_)
      refine lv_lstore (lv' := [(6, .long r2), (0, .ref h9), (3, .int a3), (8, .int l8)]) hx hb dX9_addPlayer_156 hl (by decide) rfl (fun ls hl => ?_)
      refine lv_iinc (v := (l8 + 1)) (lv' := [(8, .int (l8 + 1)), (6, .long r2), (0, .ref h9), (3, .int a3)]) hx hb dX9_addPlayer_158 hl (k := 3) rfl rfl (by decide) rfl (fun ls hl => ?_)
      refine lv_goto (tgt := 133) hx hb dX9_addPlayer_161 (by decide) ?_
      exact ih133 q pa pb jk r2 (l8 + 1) _ _ hP hD hS _ (lv_sub hl [2, 3, 1, 0] rfl) hm) k_F
  unfold mX9_addPlayer at hm
  refine lv_aload_n hx hb dX9_addPlayer_0 rfl (lv_at hl 0 rfl) ?_
  refine va_get (D := D) (ci := 5) (v := .ref hn) (C := RX9) (T := TX9) (N := 4) hx hb hts hinX9 hown hK hP 0 rfl rfl 0 (by decide) fl10 (fun _ h9 => h9) rfl dX9_addPlayer_1 ?_
  refine lv_iload_n hx hb dX9_addPlayer_4 rfl (lv_at hl 2 rfl) ?_
  obtain ⟨r3, hc5, hm⟩ := k_bds hm
  have hPc : va_P D vwCl (wG hn c_mover c_phase c_dice c_stake c_cube c_pieces0 c_pieces1 c_score0 c_score1 c_hits0 c_hits1 c_stopped c_stopPart) _ := k_Psub hP [1] rfl
  have hDc : va_D A (wG hn c_mover c_phase c_dice c_stake c_cube c_pieces0 c_pieces1 c_score0 c_score1 c_hits0 c_hits1 c_stopped c_stopPart) := hD.sub [1] (by decide) rfl
  refine k_l_c (Wf := (wX cI cJ cC cG h9 hn ap q ht h0 pa pb pc jk hasS cnt snp G c_mover c_phase c_dice c_stake c_cube c_pieces0 c_pieces1 c_score0 c_score1 c_hits0 c_hits1 c_stopped c_stopPart t_signs t_length)) [1] [0, 2, 3, 4, 5, 6, 7, 8, 9, 10, 11, 12, 13, 14, 15, 16, 17, 18, 19, 20, 21, 22, 23, 24] [0, 24, 1, 2, 3, 4, 5, 6, 7, 8, 9, 10, 11, 12, 13, 14, 15, 16, 17, 18, 19, 20, 21, 22, 23] (k_rV (As := [.int a3]) (rest := []) ⟨hx, hb, hml, hown, hts⟩ hK hN hPc hDc (zX1_piecesOf hc5) (cwV 1 hts gX9_addPlayer_X1_piecesOf rfl rfl rfl (by decide +kernel) ⟨Nat.le_of_ble_eq_true rfl, Nat.le_of_ble_eq_true rfl⟩) rfl rfl rfl hl.1 rfl (Nat.le_of_ble_eq_true rfl) dX9_addPlayer_5 ⟨Nat.zero_le _, Nat.zero_le _⟩) hP hD hS hA rfl rfl (by decide) (by decide) rfl (by decide) (fun H locs hP hD hS => ?_)
  refine lv_lstore (lv' := [(4, .long r3), (0, .ref h9), (1, .long a1), (3, .int a3)]) hx hb dX9_addPlayer_8 hl (by decide) rfl (fun ls hl => ?_)
  refine lv_lload_n hx hb dX9_addPlayer_10 rfl (lv_at hl 2 rfl) ?_
  refine lv_lload hx hb dX9_addPlayer_11 (lv_at hl 0 rfl) ?_
  refine lv_bipush (v := 17) hx hb dX9_addPlayer_13 (by decide) ?_
  obtain ⟨r4, hc15, hm⟩ := k_bds hm
  refine k_i_0 (k_rS (As := [.long r3, .int 17]) (rest := [.long a1]) ⟨hx, hb, hml, hown, hts⟩ hK hN k_P0 (k_D0 (A := A)) (zX3_on hc15) (va_cwS 2 hts gX9_addPlayer_X3_on rfl rfl rfl (by decide +kernel) ⟨Nat.le_of_ble_eq_true rfl, Nat.le_of_ble_eq_true rfl⟩) rfl hl.1 rfl (Nat.le_of_ble_eq_true rfl) dX9_addPlayer_15 ⟨Nat.zero_le _, Nat.zero_le _⟩) hP hS hA (fun H locs hP hS => ?_)
  refine lv_i2l (v := (Int32.toInt64 r4)) hx hb dX9_addPlayer_18 rfl ?_
  obtain ⟨r5, hc19, hm⟩ := k_bds hm
  refine k_l_0 (k_rS (As := [.long a1, .long (Int32.toInt64 r4)]) (rest := []) ⟨hx, hb, hml, hown, hts⟩ hK hN k_P0 (k_D0 (A := A)) (zX9_added hc19) (va_cwS 2 hts gX9_addPlayer_X9_added rfl rfl rfl (by decide +kernel) ⟨Nat.le_of_ble_eq_true rfl, Nat.le_of_ble_eq_true rfl⟩) rfl hl.1 rfl (Nat.le_of_ble_eq_true rfl) dX9_addPlayer_19 ⟨Nat.zero_le _, Nat.zero_le _⟩) hP hS hA (fun H locs hP hS => ?_)
  refine lv_lstore (lv' := [(6, .long r5), (4, .long r3), (0, .ref h9), (1, .long a1), (3, .int a3)]) hx hb dX9_addPlayer_22 hl (by decide) rfl (fun ls hl => ?_)
  refine lv_lload hx hb dX9_addPlayer_24 (lv_at hl 0 rfl) ?_
  refine lv_lload hx hb dX9_addPlayer_26 (lv_at hl 1 rfl) ?_
  refine lv_iconst (v := 0) hx hb dX9_addPlayer_28 (by decide) ?_
  obtain ⟨r6, hc29, hm⟩ := k_bds hm
  refine k_i_0 (k_rS (As := [.long r3, .int 0]) (rest := [.long r5]) ⟨hx, hb, hml, hown, hts⟩ hK hN k_P0 (k_D0 (A := A)) (zX3_on hc29) (va_cwS 2 hts gX9_addPlayer_X3_on rfl rfl rfl (by decide +kernel) ⟨Nat.le_of_ble_eq_true rfl, Nat.le_of_ble_eq_true rfl⟩) rfl hl.1 rfl (Nat.le_of_ble_eq_true rfl) dX9_addPlayer_29 ⟨Nat.zero_le _, Nat.zero_le _⟩) hP hS hA (fun H locs hP hS => ?_)
  refine lv_i2l (v := (Int32.toInt64 r6)) hx hb dX9_addPlayer_32 rfl ?_
  obtain ⟨r7, hc33, hm⟩ := k_bds hm
  refine k_l_0 (k_rS (As := [.long r5, .long (Int32.toInt64 r6)]) (rest := []) ⟨hx, hb, hml, hown, hts⟩ hK hN k_P0 (k_D0 (A := A)) (zX9_added hc33) (va_cwS 2 hts gX9_addPlayer_X9_added rfl rfl rfl (by decide +kernel) ⟨Nat.le_of_ble_eq_true rfl, Nat.le_of_ble_eq_true rfl⟩) rfl hl.1 rfl (Nat.le_of_ble_eq_true rfl) dX9_addPlayer_33 ⟨Nat.zero_le _, Nat.zero_le _⟩) hP hS hA (fun H locs hP hS => ?_)
  refine lv_lstore (lv' := [(6, .long r7), (4, .long r3), (0, .ref h9), (1, .long a1), (3, .int a3)]) hx hb dX9_addPlayer_36 hl (by decide) rfl (fun ls hl => ?_)
  refine lv_lload hx hb dX9_addPlayer_38 (lv_at hl 0 rfl) ?_
  refine lv_lload hx hb dX9_addPlayer_40 (lv_at hl 1 rfl) ?_
  obtain ⟨r8, hc42, hm⟩ := k_bds hm
  refine k_i_0 (k_rS (As := [.long r3]) (rest := [.long r7]) ⟨hx, hb, hml, hown, hts⟩ hK hN k_P0 (k_D0 (A := A)) (zX3_sumOfWays hc42) (va_cwS 1 hts gX9_addPlayer_X3_sumOfWays rfl rfl rfl (by decide +kernel) ⟨Nat.le_of_ble_eq_true rfl, Nat.le_of_ble_eq_true rfl⟩) rfl hl.1 rfl (Nat.le_of_ble_eq_true rfl) dX9_addPlayer_42 ⟨Nat.zero_le _, Nat.zero_le _⟩) hP hS hA (fun H locs hP hS => ?_)
  refine lv_i2l (v := (Int32.toInt64 r8)) hx hb dX9_addPlayer_45 rfl ?_
  obtain ⟨r9, hc46, hm⟩ := k_bds hm
  refine k_l_0 (k_rS (As := [.long r7, .long (Int32.toInt64 r8)]) (rest := []) ⟨hx, hb, hml, hown, hts⟩ hK hN k_P0 (k_D0 (A := A)) (zX9_added hc46) (va_cwS 2 hts gX9_addPlayer_X9_added rfl rfl rfl (by decide +kernel) ⟨Nat.le_of_ble_eq_true rfl, Nat.le_of_ble_eq_true rfl⟩) rfl hl.1 rfl (Nat.le_of_ble_eq_true rfl) dX9_addPlayer_46 ⟨Nat.zero_le _, Nat.zero_le _⟩) hP hS hA (fun H locs hP hS => ?_)
  refine lv_lstore (lv' := [(6, .long r9), (4, .long r3), (0, .ref h9), (1, .long a1), (3, .int a3)]) hx hb dX9_addPlayer_49 hl (by decide) rfl (fun ls hl => ?_)
  refine lv_lload hx hb dX9_addPlayer_51 (lv_at hl 0 rfl) ?_
  refine lv_lload hx hb dX9_addPlayer_53 (lv_at hl 1 rfl) ?_
  obtain ⟨r10, hc55, hm⟩ := k_bds hm
  refine k_i_0 (k_rS (As := [.long r3]) (rest := [.long r9]) ⟨hx, hb, hml, hown, hts⟩ hK hN k_P0 (k_D0 (A := A)) (zX3_singles hc55) (va_cwS 1 hts gX9_addPlayer_X3_singles rfl rfl rfl (by decide +kernel) ⟨Nat.le_of_ble_eq_true rfl, Nat.le_of_ble_eq_true rfl⟩) rfl hl.1 rfl (Nat.le_of_ble_eq_true rfl) dX9_addPlayer_55 ⟨Nat.zero_le _, Nat.zero_le _⟩) hP hS hA (fun H locs hP hS => ?_)
  refine lv_i2l (v := (Int32.toInt64 r10)) hx hb dX9_addPlayer_58 rfl ?_
  obtain ⟨r11, hc59, hm⟩ := k_bds hm
  refine k_l_0 (k_rS (As := [.long r9, .long (Int32.toInt64 r10)]) (rest := []) ⟨hx, hb, hml, hown, hts⟩ hK hN k_P0 (k_D0 (A := A)) (zX9_added hc59) (va_cwS 2 hts gX9_addPlayer_X9_added rfl rfl rfl (by decide +kernel) ⟨Nat.le_of_ble_eq_true rfl, Nat.le_of_ble_eq_true rfl⟩) rfl hl.1 rfl (Nat.le_of_ble_eq_true rfl) dX9_addPlayer_59 ⟨Nat.zero_le _, Nat.zero_le _⟩) hP hS hA (fun H locs hP hS => ?_)
  refine lv_lstore (lv' := [(6, .long r11), (4, .long r3), (0, .ref h9), (1, .long a1), (3, .int a3)]) hx hb dX9_addPlayer_62 hl (by decide) rfl (fun ls hl => ?_)
  refine lv_lload hx hb dX9_addPlayer_64 (lv_at hl 0 rfl) ?_
  refine lv_lload hx hb dX9_addPlayer_66 (lv_at hl 1 rfl) ?_
  obtain ⟨r12, hc68, hm⟩ := k_bds hm
  refine k_i_0 (k_rS (As := [.long r3]) (rest := [.long r11]) ⟨hx, hb, hml, hown, hts⟩ hK hN k_P0 (k_D0 (A := A)) (zX3_longestWall hc68) (va_cwS 1 hts gX9_addPlayer_X3_longestWall rfl rfl rfl (by decide +kernel) ⟨Nat.le_of_ble_eq_true rfl, Nat.le_of_ble_eq_true rfl⟩) rfl hl.1 rfl (Nat.le_of_ble_eq_true rfl) dX9_addPlayer_68 ⟨Nat.zero_le _, Nat.zero_le _⟩) hP hS hA (fun H locs hP hS => ?_)
  refine lv_i2l (v := (Int32.toInt64 r12)) hx hb dX9_addPlayer_71 rfl ?_
  obtain ⟨r13, hc72, hm⟩ := k_bds hm
  refine k_l_0 (k_rS (As := [.long r11, .long (Int32.toInt64 r12)]) (rest := []) ⟨hx, hb, hml, hown, hts⟩ hK hN k_P0 (k_D0 (A := A)) (zX9_added hc72) (va_cwS 2 hts gX9_addPlayer_X9_added rfl rfl rfl (by decide +kernel) ⟨Nat.le_of_ble_eq_true rfl, Nat.le_of_ble_eq_true rfl⟩) rfl hl.1 rfl (Nat.le_of_ble_eq_true rfl) dX9_addPlayer_72 ⟨Nat.zero_le _, Nat.zero_le _⟩) hP hS hA (fun H locs hP hS => ?_)
  refine lv_lstore (lv' := [(6, .long r13), (4, .long r3), (0, .ref h9), (1, .long a1), (3, .int a3)]) hx hb dX9_addPlayer_75 hl (by decide) rfl (fun ls hl => ?_)
  refine lv_lload hx hb dX9_addPlayer_77 (lv_at hl 0 rfl) ?_
  refine lv_aload_n hx hb dX9_addPlayer_79 rfl (lv_at hl 2 rfl) ?_
  refine va_get (D := D) (ci := 5) (v := .ref hn) (C := RX9) (T := TX9) (N := 4) hx hb hts hinX9 hown hK hP 0 rfl rfl 0 (by decide) fl10 (fun _ h9 => h9) rfl dX9_addPlayer_80 ?_
  refine lv_iload_n hx hb dX9_addPlayer_83 rfl (lv_at hl 4 rfl) ?_
  obtain ⟨r14, hc84, hm⟩ := k_bds hm
  have hPc : va_P D vwCl (wG hn c_mover c_phase c_dice c_stake c_cube c_pieces0 c_pieces1 c_score0 c_score1 c_hits0 c_hits1 c_stopped c_stopPart) _ := k_Psub hP [1] rfl
  have hDc : va_D A (wG hn c_mover c_phase c_dice c_stake c_cube c_pieces0 c_pieces1 c_score0 c_score1 c_hits0 c_hits1 c_stopped c_stopPart) := hD.sub [1] (by decide) rfl
  refine k_i_c (Wf := (wX cI cJ cC cG h9 hn ap q ht h0 pa pb pc jk hasS cnt snp G c_mover c_phase c_dice c_stake c_cube c_pieces0 c_pieces1 c_score0 c_score1 c_hits0 c_hits1 c_stopped c_stopPart t_signs t_length)) [1] [0, 2, 3, 4, 5, 6, 7, 8, 9, 10, 11, 12, 13, 14, 15, 16, 17, 18, 19, 20, 21, 22, 23, 24] [0, 24, 1, 2, 3, 4, 5, 6, 7, 8, 9, 10, 11, 12, 13, 14, 15, 16, 17, 18, 19, 20, 21, 22, 23] (k_rV (As := [.int a3]) (rest := [.long r13]) ⟨hx, hb, hml, hown, hts⟩ hK hN hPc hDc (zX1_scoreOf hc84) (cwV 1 hts gX9_addPlayer_X1_scoreOf rfl rfl rfl (by decide +kernel) ⟨Nat.le_of_ble_eq_true rfl, Nat.le_of_ble_eq_true rfl⟩) rfl rfl rfl hl.1 rfl (Nat.le_of_ble_eq_true rfl) dX9_addPlayer_84 ⟨Nat.zero_le _, Nat.zero_le _⟩) hP hD hS hA rfl rfl (by decide) (by decide) rfl (by decide) (fun H locs hP hD hS => ?_)
  refine lv_i2l (v := (Int32.toInt64 r14)) hx hb dX9_addPlayer_87 rfl ?_
  obtain ⟨r15, hc88, hm⟩ := k_bds hm
  refine k_l_0 (k_rS (As := [.long r13, .long (Int32.toInt64 r14)]) (rest := []) ⟨hx, hb, hml, hown, hts⟩ hK hN k_P0 (k_D0 (A := A)) (zX9_added hc88) (va_cwS 2 hts gX9_addPlayer_X9_added rfl rfl rfl (by decide +kernel) ⟨Nat.le_of_ble_eq_true rfl, Nat.le_of_ble_eq_true rfl⟩) rfl hl.1 rfl (Nat.le_of_ble_eq_true rfl) dX9_addPlayer_88 ⟨Nat.zero_le _, Nat.zero_le _⟩) hP hS hA (fun H locs hP hS => ?_)
  refine lv_lstore (lv' := [(6, .long r15), (4, .long r3), (0, .ref h9), (1, .long a1), (3, .int a3)]) hx hb dX9_addPlayer_91 hl (by decide) rfl (fun ls hl => ?_)
  refine lv_lload hx hb dX9_addPlayer_93 (lv_at hl 0 rfl) ?_
  refine lv_aload_n hx hb dX9_addPlayer_95 rfl (lv_at hl 2 rfl) ?_
  refine va_get (D := D) (ci := 5) (v := .ref hn) (C := RX9) (T := TX9) (N := 4) hx hb hts hinX9 hown hK hP 0 rfl rfl 0 (by decide) fl10 (fun _ h9 => h9) rfl dX9_addPlayer_96 ?_
  refine lv_iload_n hx hb dX9_addPlayer_99 rfl (lv_at hl 4 rfl) ?_
  obtain ⟨r16, hc100, hm⟩ := k_bds hm
  have hPc : va_P D vwCl (wG hn c_mover c_phase c_dice c_stake c_cube c_pieces0 c_pieces1 c_score0 c_score1 c_hits0 c_hits1 c_stopped c_stopPart) _ := k_Psub hP [1] rfl
  have hDc : va_D A (wG hn c_mover c_phase c_dice c_stake c_cube c_pieces0 c_pieces1 c_score0 c_score1 c_hits0 c_hits1 c_stopped c_stopPart) := hD.sub [1] (by decide) rfl
  refine k_i_c (Wf := (wX cI cJ cC cG h9 hn ap q ht h0 pa pb pc jk hasS cnt snp G c_mover c_phase c_dice c_stake c_cube c_pieces0 c_pieces1 c_score0 c_score1 c_hits0 c_hits1 c_stopped c_stopPart t_signs t_length)) [1] [0, 2, 3, 4, 5, 6, 7, 8, 9, 10, 11, 12, 13, 14, 15, 16, 17, 18, 19, 20, 21, 22, 23, 24] [0, 24, 1, 2, 3, 4, 5, 6, 7, 8, 9, 10, 11, 12, 13, 14, 15, 16, 17, 18, 19, 20, 21, 22, 23] (k_rV (As := [.int a3]) (rest := [.long r15]) ⟨hx, hb, hml, hown, hts⟩ hK hN hPc hDc (zX1_hitsOf hc100) (cwV 1 hts gX9_addPlayer_X1_hitsOf rfl rfl rfl (by decide +kernel) ⟨Nat.le_of_ble_eq_true rfl, Nat.le_of_ble_eq_true rfl⟩) rfl rfl rfl hl.1 rfl (Nat.le_of_ble_eq_true rfl) dX9_addPlayer_100 ⟨Nat.zero_le _, Nat.zero_le _⟩) hP hD hS hA rfl rfl (by decide) (by decide) rfl (by decide) (fun H locs hP hD hS => ?_)
  refine lv_i2l (v := (Int32.toInt64 r16)) hx hb dX9_addPlayer_103 rfl ?_
  obtain ⟨r17, hc104, hm⟩ := k_bds hm
  refine k_l_0 (k_rS (As := [.long r15, .long (Int32.toInt64 r16)]) (rest := []) ⟨hx, hb, hml, hown, hts⟩ hK hN k_P0 (k_D0 (A := A)) (zX9_added hc104) (va_cwS 2 hts gX9_addPlayer_X9_added rfl rfl rfl (by decide +kernel) ⟨Nat.le_of_ble_eq_true rfl, Nat.le_of_ble_eq_true rfl⟩) rfl hl.1 rfl (Nat.le_of_ble_eq_true rfl) dX9_addPlayer_104 ⟨Nat.zero_le _, Nat.zero_le _⟩) hP hS hA (fun H locs hP hS => ?_)
  refine lv_lstore (lv' := [(6, .long r17), (4, .long r3), (0, .ref h9), (1, .long a1), (3, .int a3)]) hx hb dX9_addPlayer_107 hl (by decide) rfl (fun ls hl => ?_)
  refine lv_lload hx hb dX9_addPlayer_109 (lv_at hl 0 rfl) ?_
  refine lv_aload_n hx hb dX9_addPlayer_111 rfl (lv_at hl 2 rfl) ?_
  refine va_get (D := D) (ci := 5) (v := .ref hn) (C := RX9) (T := TX9) (N := 4) hx hb hts hinX9 hown hK hP 0 rfl rfl 0 (by decide) fl10 (fun _ h9 => h9) rfl dX9_addPlayer_112 ?_
  refine lv_iconst (v := 1) hx hb dX9_addPlayer_115 (by decide) ?_
  refine lv_iload_n hx hb dX9_addPlayer_116 rfl (lv_at hl 4 rfl) ?_
  refine lv_isub hx hb dX9_addPlayer_117 ?_
  obtain ⟨r18, hc118, hm⟩ := k_bds hm
  have hPc : va_P D vwCl (wG hn c_mover c_phase c_dice c_stake c_cube c_pieces0 c_pieces1 c_score0 c_score1 c_hits0 c_hits1 c_stopped c_stopPart) _ := k_Psub hP [1] rfl
  have hDc : va_D A (wG hn c_mover c_phase c_dice c_stake c_cube c_pieces0 c_pieces1 c_score0 c_score1 c_hits0 c_hits1 c_stopped c_stopPart) := hD.sub [1] (by decide) rfl
  refine k_l_c (Wf := (wX cI cJ cC cG h9 hn ap q ht h0 pa pb pc jk hasS cnt snp G c_mover c_phase c_dice c_stake c_cube c_pieces0 c_pieces1 c_score0 c_score1 c_hits0 c_hits1 c_stopped c_stopPart t_signs t_length)) [1] [0, 2, 3, 4, 5, 6, 7, 8, 9, 10, 11, 12, 13, 14, 15, 16, 17, 18, 19, 20, 21, 22, 23, 24] [0, 24, 1, 2, 3, 4, 5, 6, 7, 8, 9, 10, 11, 12, 13, 14, 15, 16, 17, 18, 19, 20, 21, 22, 23] (k_rV (As := [.int (1 - a3)]) (rest := [.long r17]) ⟨hx, hb, hml, hown, hts⟩ hK hN hPc hDc (zX1_piecesOf hc118) (cwV 1 hts gX9_addPlayer_X1_piecesOf rfl rfl rfl (by decide +kernel) ⟨Nat.le_of_ble_eq_true rfl, Nat.le_of_ble_eq_true rfl⟩) rfl rfl rfl hl.1 rfl (Nat.le_of_ble_eq_true rfl) dX9_addPlayer_118 ⟨Nat.zero_le _, Nat.zero_le _⟩) hP hD hS hA rfl rfl (by decide) (by decide) rfl (by decide) (fun H locs hP hD hS => ?_)
  obtain ⟨r19, hc121, hm⟩ := k_bds hm
  refine k_i_0 (k_rS (As := [.long r18]) (rest := [.long r17]) ⟨hx, hb, hml, hown, hts⟩ hK hN k_P0 (k_D0 (A := A)) (zX6_rollsThatEnter hc121) (va_cwS 1 hts gX9_addPlayer_X6_rollsThatEnter rfl rfl rfl (by decide +kernel) ⟨Nat.le_of_ble_eq_true rfl, Nat.le_of_ble_eq_true rfl⟩) rfl hl.1 rfl (Nat.le_of_ble_eq_true rfl) dX9_addPlayer_121 ⟨Nat.zero_le _, Nat.zero_le _⟩) hP hS hA (fun H locs hP hS => ?_)
  refine lv_i2l (v := (Int32.toInt64 r19)) hx hb dX9_addPlayer_124 rfl ?_
  obtain ⟨r20, hc125, hm⟩ := k_bds hm
  refine k_l_0 (k_rS (As := [.long r17, .long (Int32.toInt64 r19)]) (rest := []) ⟨hx, hb, hml, hown, hts⟩ hK hN k_P0 (k_D0 (A := A)) (zX9_added hc125) (va_cwS 2 hts gX9_addPlayer_X9_added rfl rfl rfl (by decide +kernel) ⟨Nat.le_of_ble_eq_true rfl, Nat.le_of_ble_eq_true rfl⟩) rfl hl.1 rfl (Nat.le_of_ble_eq_true rfl) dX9_addPlayer_125 ⟨Nat.zero_le _, Nat.zero_le _⟩) hP hS hA (fun H locs hP hS => ?_)
  refine lv_lstore (lv' := [(6, .long r20), (4, .long r3), (0, .ref h9), (1, .long a1), (3, .int a3)]) hx hb dX9_addPlayer_128 hl (by decide) rfl (fun ls hl => ?_)
  refine lv_iconst (v := 0) hx hb dX9_addPlayer_130 (by decide) ?_
  refine lv_istore (lv' := [(8, .int 0), (6, .long r20), (4, .long r3), (0, .ref h9), (1, .long a1), (3, .int a3)]) hx hb dX9_addPlayer_131 hl (by decide) rfl (fun ls hl => ?_)
  exact J_133 q pa pb jk r20 0 _ _ hP hD hS _ (lv_sub hl [3, 5, 1, 0] rfl) hm

abbrev rmX9_digest : Room := { frames := 15, cells := 0, slots := 0, locals := 529 }
set_option maxHeartbeats 4000000 in
set_option maxRecDepth 100000 in
theorem zX9_digest {l : Launch} {D : va_G} {cI cJ cC cG : ClassId} {sz : Nat} {h9 hn h0 : Nat} {ap q ht pa pb pc : Nat → Nat} {jk : JT} {hasS : Bool} {cnt : Int32} {snp : GT} {G : Nat → GT} {c_mover : Int32} {c_phase : Int32} {c_dice : Int32} {c_stake : Int32} {c_cube : Int32} {c_pieces0 : Int64} {c_pieces1 : Int64} {c_score0 : Int32} {c_score1 : Int32} {c_hits0 : Int32} {c_hits1 : Int32} {c_stopped : Bool} {c_stopPart : Int32} {t_signs : Nat → Int32} {t_length : Int32} {r : Int64} (hm : mX9_digest cnt c_mover c_phase c_dice c_stake c_cube c_pieces0 c_pieces1 c_score0 c_score1 c_hits0 c_hits1 c_stopped c_stopPart t_signs t_length = some (r)) : k_MlE l yX9_digest wsX9_digest rmX9_digest D (kT cI cJ cC cG) sz ([.ref h9] : List Value) (wX cI cJ cC cG h9 hn ap q ht h0 pa pb pc jk hasS cnt snp G c_mover c_phase c_dice c_stake c_cube c_pieces0 c_pieces1 c_score0 c_score1 c_hits0 c_hits1 c_stopped c_stopPart t_signs t_length) (fun u : (Nat → Nat) × (Nat → Nat) × (Nat → Nat) × (JT) => (wX cI cJ cC cG h9 hn ap (u.1) ht h0 (u.2.1) (u.2.2.1) pc (u.2.2.2) hasS cnt snp G c_mover c_phase c_dice c_stake c_cube c_pieces0 c_pieces1 c_score0 c_score1 c_hits0 c_hits1 c_stopped c_stopPart t_signs t_length)) r := by
  refine k_st_lE (cc := cX9_digest) (maxL := 8) (by decide) rfl (Nat.le_of_ble_eq_true rfl) ?_
  intro p e z m below meth c A hx hb hr hml hts hown hlocks hsz hN hA hK hP hD hS ls hl
  have hown : z.vm.findClass RX9 = some m.cls := hown
  have hinX1 : ∀ w ∈ wsX10, w ∈ wsX9_digest := by decide +kernel
  have hinX2 : ∀ w ∈ wsX20, w ∈ wsX9_digest := by decide +kernel
  have hinX9 : ∀ w ∈ wsX90, w ∈ wsX9_digest := by decide +kernel
  have fl10 := hts (.fieldLink RX9 10 "MagpieRuns" "now" "LMagpieRuns$Game;") (by decide +kernel)
  have fl19 := hts (.fieldLink RX9 19 "MagpieRuns" "past" "LMagpieRuns$Past;") (by decide +kernel)
  have fl33 := hts (.fieldLink RX9 33 "MagpieRuns" "counter" "LMagpieRuns$Plays;") (by decide +kernel)
  have fl61 := hts (.fieldLink RX9 61 "MagpieRuns$Game" "dice" "I") (by decide +kernel)
  have fl176 := hts (.fieldLink RX9 176 "MagpieRuns$Game" "stopped" "Z") (by decide +kernel)
  have fl180 := hts (.fieldLink RX9 180 "MagpieRuns$Game" "stopPart" "I") (by decide +kernel)
  have fl183 := hts (.fieldLink RX9 183 "MagpieRuns$Past" "count" "I") (by decide +kernel)
  have hl : lv_has ls 8 [(0, .ref h9)] := hl
  have J_258 : ∀ (q : Nat → Nat) (pa : Nat → Nat) (pb : Nat → Nat) (jk : JT) (l5 : Int64) (H : Heap) (locs : List Loc), va_P D vwCl (wX cI cJ cC cG h9 hn ap q ht h0 pa pb pc jk hasS cnt snp G c_mover c_phase c_dice c_stake c_cube c_pieces0 c_pieces1 c_score0 c_score1 c_hits0 c_hits1 c_stopped c_stopPart t_signs t_length) H → va_D A (wX cI cJ cC cG h9 hn ap q ht h0 pa pb pc jk hasS cnt snp G c_mover c_phase c_dice c_stake c_cube c_pieces0 c_pieces1 c_score0 c_score1 c_hits0 c_hits1 c_stopped c_stopPart t_signs t_length) → va_S A z.heap H locs → ∀ ls : Array Slot, lv_has ls 8 [(0, .ref h9), (5, .long l5)] → mX9_digest_258 cnt c_mover c_phase c_dice c_stake c_cube c_pieces0 c_pieces1 c_score0 c_score1 c_hits0 c_hits1 c_stopped c_stopPart t_signs t_length l5 = some (r) → W p l e rmX9_digest z m ([.ref h9] : List Value).toArray below meth c H locs 0 0 (k_QlE below ([.ref h9] : List Value) D (kT cI cJ cC cG) z A (fun u : (Nat → Nat) × (Nat → Nat) × (Nat → Nat) × (JT) => (wX cI cJ cC cG h9 hn ap (u.1) ht h0 (u.2.1) (u.2.2.1) pc (u.2.2.2) hasS cnt snp G c_mover c_phase c_dice c_stake c_cube c_pieces0 c_pieces1 c_score0 c_score1 c_hits0 c_hits1 c_stopped c_stopPart t_signs t_length)) r) (F0 m 258 ls []) := by
    intro q pa pb jk l5 H locs hP hD hS ls hl hm
    unfold mX9_digest_258 at hm
    refine lv_lload hx hb dX9_digest_258 (lv_at hl 1 rfl) ?_
    refine lv_aload_n hx hb dX9_digest_260 rfl (lv_at hl 0 rfl) ?_
    obtain ⟨r1, hc261, hm⟩ := k_bds hm
    refine k_d_sE (k_rV (As := []) (rest := [.long l5]) ⟨hx, hb, hml, hown, hts⟩ hK hN hP hD (zX9_shareOfMover hc261) (cwV 0 hts gX9_digest_X9_shareOfMover rfl rfl rfl (by decide +kernel) ⟨Nat.le_of_ble_eq_true rfl, Nat.le_of_ble_eq_true rfl⟩) rfl rfl rfl hl.1 rfl (Nat.le_of_ble_eq_true rfl) dX9_digest_261 ⟨Nat.zero_le _, Nat.zero_le _⟩) hD hS hA (fun u9 H locs hP hD hS => ?_)
    obtain ⟨u2, u3, u4, u5⟩ := u9
    have hP : va_P D vwCl (wX cI cJ cC cG h9 hn ap u2 ht h0 u3 u4 pc u5 hasS cnt snp G c_mover c_phase c_dice c_stake c_cube c_pieces0 c_pieces1 c_score0 c_score1 c_hits0 c_hits1 c_stopped c_stopPart t_signs t_length) H := hP
    have hD : va_D A (wX cI cJ cC cG h9 hn ap u2 ht h0 u3 u4 pc u5 hasS cnt snp G c_mover c_phase c_dice c_stake c_cube c_pieces0 c_pieces1 c_score0 c_score1 c_hits0 c_hits1 c_stopped c_stopPart t_signs t_length) := hD
    obtain ⟨r6, hc264, hm⟩ := k_bds hm
    refine k_l_0 (k_rS (As := [.double r1]) (rest := [.long l5]) ⟨hx, hb, hml, hown, hts⟩ hK hN k_P0 (k_D0 (A := A)) (zX9_bitsOf hc264) (va_cwS 1 hts gX9_digest_X9_bitsOf rfl rfl rfl (by decide +kernel) ⟨Nat.le_of_ble_eq_true rfl, Nat.le_of_ble_eq_true rfl⟩) rfl hl.1 rfl (Nat.le_of_ble_eq_true rfl) dX9_digest_264 ⟨Nat.zero_le _, Nat.zero_le _⟩) hP hS hA (fun H locs hP hS => ?_)
    obtain ⟨r7, hc267, hm⟩ := k_bds hm
    refine k_l_0 (k_rS (As := [.long l5, .long r6]) (rest := []) ⟨hx, hb, hml, hown, hts⟩ hK hN k_P0 (k_D0 (A := A)) (zX9_added hc267) (va_cwS 2 hts gX9_digest_X9_added rfl rfl rfl (by decide +kernel) ⟨Nat.le_of_ble_eq_true rfl, Nat.le_of_ble_eq_true rfl⟩) rfl hl.1 rfl (Nat.le_of_ble_eq_true rfl) dX9_digest_267 ⟨Nat.zero_le _, Nat.zero_le _⟩) hP hS hA (fun H locs hP hS => ?_)
    refine lv_lstore (lv' := [(5, .long r7), (0, .ref h9)]) hx hb dX9_digest_270 hl (by decide) rfl (fun ls hl => ?_)
    refine lv_aload_n hx hb dX9_digest_272 rfl (lv_at hl 1 rfl) ?_
    refine lv_lload hx hb dX9_digest_273 (lv_at hl 0 rfl) ?_
    obtain ⟨r8, hc275, hm⟩ := k_bds hm
    refine k_l_sE (k_rV (As := [.long r7]) (rest := []) ⟨hx, hb, hml, hown, hts⟩ hK hN hP hD (zX9_addText hc275) (cwV 1 hts gX9_digest_X9_addText rfl rfl rfl (by decide +kernel) ⟨Nat.le_of_ble_eq_true rfl, Nat.le_of_ble_eq_true rfl⟩) rfl rfl rfl hl.1 rfl (Nat.le_of_ble_eq_true rfl) dX9_digest_275 ⟨Nat.zero_le _, Nat.zero_le _⟩) hD hS hA (fun u9 H locs hP hD hS => ?_)
    obtain ⟨u9, u10, u11, u12⟩ := u9
    have hP : va_P D vwCl (wX cI cJ cC cG h9 hn ap u9 ht h0 u10 u11 pc u12 hasS cnt snp G c_mover c_phase c_dice c_stake c_cube c_pieces0 c_pieces1 c_score0 c_score1 c_hits0 c_hits1 c_stopped c_stopPart t_signs t_length) H := hP
    have hD : va_D A (wX cI cJ cC cG h9 hn ap u9 ht h0 u10 u11 pc u12 hasS cnt snp G c_mover c_phase c_dice c_stake c_cube c_pieces0 c_pieces1 c_score0 c_score1 c_hits0 c_hits1 c_stopped c_stopPart t_signs t_length) := hD
    cases hm
    exact k_end_lE (u9, u10, u11, u12) hx hb hr hlocks hK hP hD hS dX9_digest_278
  have J_228 : ∀ (q : Nat → Nat) (pa : Nat → Nat) (pb : Nat → Nat) (jk : JT) (t0 : Int64) (t1 : Int64) (H : Heap) (locs : List Loc), va_P D vwCl (wX cI cJ cC cG h9 hn ap q ht h0 pa pb pc jk hasS cnt snp G c_mover c_phase c_dice c_stake c_cube c_pieces0 c_pieces1 c_score0 c_score1 c_hits0 c_hits1 c_stopped c_stopPart t_signs t_length) H → va_D A (wX cI cJ cC cG h9 hn ap q ht h0 pa pb pc jk hasS cnt snp G c_mover c_phase c_dice c_stake c_cube c_pieces0 c_pieces1 c_score0 c_score1 c_hits0 c_hits1 c_stopped c_stopPart t_signs t_length) → va_S A z.heap H locs → ∀ ls : Array Slot, lv_has ls 8 [(0, .ref h9)] → mX9_digest_228 cnt c_mover c_phase c_dice c_stake c_cube c_pieces0 c_pieces1 c_score0 c_score1 c_hits0 c_hits1 c_stopped c_stopPart t_signs t_length t0 t1 = some (r) → W p l e rmX9_digest z m ([.ref h9] : List Value).toArray below meth c H locs 0 0 (k_QlE below ([.ref h9] : List Value) D (kT cI cJ cC cG) z A (fun u : (Nat → Nat) × (Nat → Nat) × (Nat → Nat) × (JT) => (wX cI cJ cC cG h9 hn ap (u.1) ht h0 (u.2.1) (u.2.2.1) pc (u.2.2.2) hasS cnt snp G c_mover c_phase c_dice c_stake c_cube c_pieces0 c_pieces1 c_score0 c_score1 c_hits0 c_hits1 c_stopped c_stopPart t_signs t_length)) r) (F0 m 228 ls [.long t0, .long t1]) := by
    intro q pa pb jk t0 t1 H locs hP hD hS ls hl hm
    unfold mX9_digest_228 at hm
    obtain ⟨r13, hc228, hm⟩ := k_bds hm
    refine k_l_0 (k_rS (As := [.long t1, .long t0]) (rest := []) ⟨hx, hb, hml, hown, hts⟩ hK hN k_P0 (k_D0 (A := A)) (zX9_added hc228) (va_cwS 2 hts gX9_digest_X9_added rfl rfl rfl (by decide +kernel) ⟨Nat.le_of_ble_eq_true rfl, Nat.le_of_ble_eq_true rfl⟩) rfl hl.1 rfl (Nat.le_of_ble_eq_true rfl) dX9_digest_228 ⟨Nat.zero_le _, Nat.zero_le _⟩) hP hS hA (fun H locs hP hS => ?_)
    refine lv_lstore (lv' := [(5, .long r13), (0, .ref h9)]) hx hb dX9_digest_231 hl (by decide) rfl (fun ls hl => ?_)
    refine lv_aload_n hx hb dX9_digest_233 rfl (lv_at hl 1 rfl) ?_
    refine va_get (D := D) (ci := 5) (v := .ref hn) (C := RX9) (T := TX9) (N := 4) hx hb hts hinX9 hown hK hP 0 rfl rfl 0 (by decide) fl10 (fun _ h9 => h9) rfl dX9_digest_234 ?_
    refine va_get (D := D) (ci := 0) (v := .int (k_b c_stopped)) (C := RX1) (T := TX1) (N := 13) hx hb hts hinX1 hown hK hP 1 rfl rfl 11 (by decide) fl176 (fun _ h9 => h9) rfl dX9_digest_237 ?_
    refine lv_if_eq (tgt := 258) hx hb dX9_digest_240 (by decide) (fun cc240 => ?_) (fun cc240 => ?_)
    · have hm := k_ip cc240 hm
      exact J_258 q pa pb jk r13 _ _ hP hD hS _ (lv_sub hl [1, 0] rfl) hm
    · have hm := k_in cc240 hm
      refine lv_lload hx hb dX9_digest_243 (lv_at hl 0 rfl) ?_
      refine lv_aload_n hx hb dX9_digest_245 rfl (lv_at hl 1 rfl) ?_
      refine va_get (D := D) (ci := 5) (v := .ref hn) (C := RX9) (T := TX9) (N := 4) hx hb hts hinX9 hown hK hP 0 rfl rfl 0 (by decide) fl10 (fun _ h9 => h9) rfl dX9_digest_246 ?_
      refine va_get (D := D) (ci := 0) (v := .int c_stopPart) (C := RX1) (T := TX1) (N := 13) hx hb hts hinX1 hown hK hP 1 rfl rfl 12 (by decide) fl180 (fun _ h9 => h9) rfl dX9_digest_249 ?_
      refine lv_i2l (v := (Int32.toInt64 c_stopPart)) hx hb dX9_digest_252 rfl ?_
      obtain ⟨r14, hc253, hm⟩ := k_bds hm
      refine k_l_0 (k_rS (As := [.long r13, .long (Int32.toInt64 c_stopPart)]) (rest := []) ⟨hx, hb, hml, hown, hts⟩ hK hN k_P0 (k_D0 (A := A)) (zX9_added hc253) (va_cwS 2 hts gX9_digest_X9_added rfl rfl rfl (by decide +kernel) ⟨Nat.le_of_ble_eq_true rfl, Nat.le_of_ble_eq_true rfl⟩) rfl hl.1 rfl (Nat.le_of_ble_eq_true rfl) dX9_digest_253 ⟨Nat.zero_le _, Nat.zero_le _⟩) hP hS hA (fun H locs hP hS => ?_)
      refine lv_lstore (lv' := [(5, .long r14), (0, .ref h9)]) hx hb dX9_digest_256 hl (by decide) rfl (fun ls hl => ?_)
      exact J_258 q pa pb jk r14 _ _ hP hD hS _ (lv_sub hl [1, 0] rfl) hm
  have J_170 := k_loop (z := fun _ _ => none) (st := mX9_digest_170 cnt c_mover c_phase c_dice c_stake c_cube c_pieces0 c_pieces1 c_score0 c_score1 c_hits0 c_hits1 c_stopped c_stopPart t_signs t_length) (fun k170 : (Int64) → (Int32) → Option (Int64) => ∀ (q : Nat → Nat) (pa : Nat → Nat) (pb : Nat → Nat) (jk : JT) (l5 : Int64) (l7 : Int32) (H : Heap) (locs : List Loc), va_P D vwCl (wX cI cJ cC cG h9 hn ap q ht h0 pa pb pc jk hasS cnt snp G c_mover c_phase c_dice c_stake c_cube c_pieces0 c_pieces1 c_score0 c_score1 c_hits0 c_hits1 c_stopped c_stopPart t_signs t_length) H → va_D A (wX cI cJ cC cG h9 hn ap q ht h0 pa pb pc jk hasS cnt snp G c_mover c_phase c_dice c_stake c_cube c_pieces0 c_pieces1 c_score0 c_score1 c_hits0 c_hits1 c_stopped c_stopPart t_signs t_length) → va_S A z.heap H locs → ∀ ls : Array Slot, lv_has ls 8 [(0, .ref h9), (5, .long l5), (7, .int l7)] → k170 l5 l7 = some (r) → W p l e rmX9_digest z m ([.ref h9] : List Value).toArray below meth c H locs 0 0 (k_QlE below ([.ref h9] : List Value) D (kT cI cJ cC cG) z A (fun u : (Nat → Nat) × (Nat → Nat) × (Nat → Nat) × (JT) => (wX cI cJ cC cG h9 hn ap (u.1) ht h0 (u.2.1) (u.2.2.1) pc (u.2.2.2) hasS cnt snp G c_mover c_phase c_dice c_stake c_cube c_pieces0 c_pieces1 c_score0 c_score1 c_hits0 c_hits1 c_stopped c_stopPart t_signs t_length)) r) (F0 m 170 ls [])) (by intros; contradiction) (by
    intro k170 ih170
    intro q pa pb jk l5 l7 H locs hP hD hS ls hl hm
    unfold mX9_digest_170 at hm
    refine lv_iload hx hb dX9_digest_170 (lv_at hl 2 rfl) ?_
    refine lv_bipush (v := 16) hx hb dX9_digest_172 (by decide) ?_
    refine lv_icmp_ge (tgt := 211) hx hb dX9_digest_174 (by decide) (fun cc174 => ?_) (fun cc174 => ?_)
    · have hm := k_ip cc174 hm
      refine lv_lload hx hb dX9_digest_211 (lv_at hl 1 rfl) ?_
      refine lv_aload_n hx hb dX9_digest_213 rfl (lv_at hl 0 rfl) ?_
      refine va_get (D := D) (ci := 5) (v := .ref hn) (C := RX9) (T := TX9) (N := 4) hx hb hts hinX9 hown hK hP 0 rfl rfl 0 (by decide) fl10 (fun _ h9 => h9) rfl dX9_digest_214 ?_
      refine va_get (D := D) (ci := 0) (v := .int (k_b c_stopped)) (C := RX1) (T := TX1) (N := 13) hx hb hts hinX1 hown hK hP 1 rfl rfl 11 (by decide) fl176 (fun _ h9 => h9) rfl dX9_digest_217 ?_
      refine lv_if_eq (tgt := 227) hx hb dX9_digest_220 (by decide) (fun cc220 => ?_) (fun cc220 => ?_)
      · have hm := k_ip cc220 hm
        refine lv_lconst (v := 0) hx hb dX9_digest_227 (by decide) ?_
        exact J_228 q pa pb jk 0 l5 _ _ hP hD hS _ (lv_sub hl [0] rfl) hm
      · have hm := k_in cc220 hm
        refine lv_lconst (v := 1) hx hb dX9_digest_223 (by decide) ?_
        refine lv_goto (tgt := 228) hx hb dX9_digest_224 (by decide) ?_
        exact J_228 q pa pb jk 1 l5 _ _ hP hD hS _ (lv_sub hl [0] rfl) hm
    · have hm := k_in cc174 hm
      refine lv_lload hx hb dX9_digest_177 (lv_at hl 1 rfl) ?_
      refine lv_aload_n hx hb dX9_digest_179 rfl (lv_at hl 0 rfl) ?_
      refine lv_iload hx hb dX9_digest_180 (lv_at hl 2 rfl) ?_
      obtain ⟨r15, hc182, hm⟩ := k_bds hm
      refine k_i_sE (k_rV (As := [.int l7]) (rest := [.long l5]) ⟨hx, hb, hml, hown, hts⟩ hK hN hP hD (zX9_shotsRollByRoll hc182) (cwV 1 hts gX9_digest_X9_shotsRollByRoll rfl rfl rfl (by decide +kernel) ⟨Nat.le_of_ble_eq_true rfl, Nat.le_of_ble_eq_true rfl⟩) rfl rfl rfl hl.1 rfl (Nat.le_of_ble_eq_true rfl) dX9_digest_182 ⟨Nat.zero_le _, Nat.zero_le _⟩) hD hS hA (fun u9 H locs hP hD hS => ?_)
      obtain ⟨u16, u17, u18, u19⟩ := u9
      have hP : va_P D vwCl (wX cI cJ cC cG h9 hn ap u16 ht h0 u17 u18 pc u19 hasS cnt snp G c_mover c_phase c_dice c_stake c_cube c_pieces0 c_pieces1 c_score0 c_score1 c_hits0 c_hits1 c_stopped c_stopPart t_signs t_length) H := hP
      have hD : va_D A (wX cI cJ cC cG h9 hn ap u16 ht h0 u17 u18 pc u19 hasS cnt snp G c_mover c_phase c_dice c_stake c_cube c_pieces0 c_pieces1 c_score0 c_score1 c_hits0 c_hits1 c_stopped c_stopPart t_signs t_length) := hD
      refine lv_i2l (v := (Int32.toInt64 r15)) hx hb dX9_digest_185 rfl ?_
      obtain ⟨r20, hc186, hm⟩ := k_bds hm
      refine k_l_0 (k_rS (As := [.long l5, .long (Int32.toInt64 r15)]) (rest := []) ⟨hx, hb, hml, hown, hts⟩ hK hN k_P0 (k_D0 (A := A)) (zX9_added hc186) (va_cwS 2 hts gX9_digest_X9_added rfl rfl rfl (by decide +kernel) ⟨Nat.le_of_ble_eq_true rfl, Nat.le_of_ble_eq_true rfl⟩) rfl hl.1 rfl (Nat.le_of_ble_eq_true rfl) dX9_digest_186 ⟨Nat.zero_le _, Nat.zero_le _⟩) hP hS hA (fun H locs hP hS => ?_)
      refine lv_lstore (lv' := [(5, .long r20), (0, .ref h9), (7, .int l7)]) hx hb dX9_digest_189 hl (by decide) rfl (fun ls hl => ?_)
      refine lv_lload hx hb dX9_digest_191 (lv_at hl 0 rfl) ?_
      refine lv_aload_n hx hb dX9_digest_193 rfl (lv_at hl 1 rfl) ?_
      refine lv_iload hx hb dX9_digest_194 (lv_at hl 2 rfl) ?_
      obtain ⟨r21, hc196, hm⟩ := k_bds hm
      refine k_i_sE (k_rV (As := [.int l7]) (rest := [.long r20]) ⟨hx, hb, hml, hown, hts⟩ hK hN hP hD (zX9_shotsKindByKind hc196) (cwV 1 hts gX9_digest_X9_shotsKindByKind rfl rfl rfl (by decide +kernel) ⟨Nat.le_of_ble_eq_true rfl, Nat.le_of_ble_eq_true rfl⟩) rfl rfl rfl hl.1 rfl (Nat.le_of_ble_eq_true rfl) dX9_digest_196 ⟨Nat.zero_le _, Nat.zero_le _⟩) hD hS hA (fun u9 H locs hP hD hS => ?_)
      obtain ⟨u22, u23, u24, u25⟩ := u9
      have hP : va_P D vwCl (wX cI cJ cC cG h9 hn ap u22 ht h0 u23 u24 pc u25 hasS cnt snp G c_mover c_phase c_dice c_stake c_cube c_pieces0 c_pieces1 c_score0 c_score1 c_hits0 c_hits1 c_stopped c_stopPart t_signs t_length) H := hP
      have hD : va_D A (wX cI cJ cC cG h9 hn ap u22 ht h0 u23 u24 pc u25 hasS cnt snp G c_mover c_phase c_dice c_stake c_cube c_pieces0 c_pieces1 c_score0 c_score1 c_hits0 c_hits1 c_stopped c_stopPart t_signs t_length) := hD
      refine lv_i2l (v := (Int32.toInt64 r21)) hx hb dX9_digest_199 rfl ?_
      obtain ⟨r26, hc200, hm⟩ := k_bds hm
      refine k_l_0 (k_rS (As := [.long r20, .long (Int32.toInt64 r21)]) (rest := []) ⟨hx, hb, hml, hown, hts⟩ hK hN k_P0 (k_D0 (A := A)) (zX9_added hc200) (va_cwS 2 hts gX9_digest_X9_added rfl rfl rfl (by decide +kernel) ⟨Nat.le_of_ble_eq_true rfl, Nat.le_of_ble_eq_true rfl⟩) rfl hl.1 rfl (Nat.le_of_ble_eq_true rfl) dX9_digest_200 ⟨Nat.zero_le _, Nat.zero_le _⟩) hP hS hA (fun H locs hP hS => ?_)
      refine lv_lstore (lv' := [(5, .long r26), (0, .ref h9), (7, .int l7)]) hx hb dX9_digest_203 hl (by decide) rfl (fun ls hl => ?_)
      refine lv_iinc (v := (l7 + 1)) (lv' := [(7, .int (l7 + 1)), (5, .long r26), (0, .ref h9)]) hx hb dX9_digest_205 hl (k := 2) rfl rfl (by decide) rfl (fun ls hl => ?_)
      refine lv_goto (tgt := 170) hx hb dX9_digest_208 (by decide) ?_
      exact ih170 u22 u23 u24 u25 r26 (l7 + 1) _ _ hP hD hS _ (lv_sub hl [2, 1, 0] rfl) hm) k_F
  unfold mX9_digest at hm
  refine lv_aload_n hx hb dX9_digest_0 rfl (lv_at hl 0 rfl) ?_
  refine va_get (D := D) (ci := 5) (v := .ref hn) (C := RX9) (T := TX9) (N := 4) hx hb hts hinX9 hown hK hP 0 rfl rfl 0 (by decide) fl10 (fun _ h9 => h9) rfl dX9_digest_1 ?_
  obtain ⟨r27, hc4, hm⟩ := k_bds hm
  have hPc : va_P D vwCl (wG hn c_mover c_phase c_dice c_stake c_cube c_pieces0 c_pieces1 c_score0 c_score1 c_hits0 c_hits1 c_stopped c_stopPart) _ := k_Psub hP [1] rfl
  have hDc : va_D A (wG hn c_mover c_phase c_dice c_stake c_cube c_pieces0 c_pieces1 c_score0 c_score1 c_hits0 c_hits1 c_stopped c_stopPart) := hD.sub [1] (by decide) rfl
  refine k_l_c (Wf := (wX cI cJ cC cG h9 hn ap q ht h0 pa pb pc jk hasS cnt snp G c_mover c_phase c_dice c_stake c_cube c_pieces0 c_pieces1 c_score0 c_score1 c_hits0 c_hits1 c_stopped c_stopPart t_signs t_length)) [1] [0, 2, 3, 4, 5, 6, 7, 8, 9, 10, 11, 12, 13, 14, 15, 16, 17, 18, 19, 20, 21, 22, 23, 24] [0, 24, 1, 2, 3, 4, 5, 6, 7, 8, 9, 10, 11, 12, 13, 14, 15, 16, 17, 18, 19, 20, 21, 22, 23] (k_rV (As := []) (rest := []) ⟨hx, hb, hml, hown, hts⟩ hK hN hPc hDc (zX1_moversPieces hc4) (cwV 0 hts gX9_digest_X1_moversPieces rfl rfl rfl (by decide +kernel) ⟨Nat.le_of_ble_eq_true rfl, Nat.le_of_ble_eq_true rfl⟩) rfl rfl rfl hl.1 rfl (Nat.le_of_ble_eq_true rfl) dX9_digest_4 ⟨Nat.zero_le _, Nat.zero_le _⟩) hP hD hS hA rfl rfl (by decide) (by decide) rfl (by decide) (fun H locs hP hD hS => ?_)
  refine lv_lstore_n (lv' := [(1, .long r27), (0, .ref h9)]) hx hb dX9_digest_7 rfl hl (by decide) rfl (fun ls hl => ?_)
  refine lv_aload_n hx hb dX9_digest_8 rfl (lv_at hl 1 rfl) ?_
  refine va_get (D := D) (ci := 5) (v := .ref hn) (C := RX9) (T := TX9) (N := 4) hx hb hts hinX9 hown hK hP 0 rfl rfl 0 (by decide) fl10 (fun _ h9 => h9) rfl dX9_digest_9 ?_
  obtain ⟨r28, hc12, hm⟩ := k_bds hm
  have hPc : va_P D vwCl (wG hn c_mover c_phase c_dice c_stake c_cube c_pieces0 c_pieces1 c_score0 c_score1 c_hits0 c_hits1 c_stopped c_stopPart) _ := k_Psub hP [1] rfl
  have hDc : va_D A (wG hn c_mover c_phase c_dice c_stake c_cube c_pieces0 c_pieces1 c_score0 c_score1 c_hits0 c_hits1 c_stopped c_stopPart) := hD.sub [1] (by decide) rfl
  refine k_l_c (Wf := (wX cI cJ cC cG h9 hn ap q ht h0 pa pb pc jk hasS cnt snp G c_mover c_phase c_dice c_stake c_cube c_pieces0 c_pieces1 c_score0 c_score1 c_hits0 c_hits1 c_stopped c_stopPart t_signs t_length)) [1] [0, 2, 3, 4, 5, 6, 7, 8, 9, 10, 11, 12, 13, 14, 15, 16, 17, 18, 19, 20, 21, 22, 23, 24] [0, 24, 1, 2, 3, 4, 5, 6, 7, 8, 9, 10, 11, 12, 13, 14, 15, 16, 17, 18, 19, 20, 21, 22, 23] (k_rV (As := []) (rest := []) ⟨hx, hb, hml, hown, hts⟩ hK hN hPc hDc (zX1_othersPieces hc12) (cwV 0 hts gX9_digest_X1_othersPieces rfl rfl rfl (by decide +kernel) ⟨Nat.le_of_ble_eq_true rfl, Nat.le_of_ble_eq_true rfl⟩) rfl rfl rfl hl.1 rfl (Nat.le_of_ble_eq_true rfl) dX9_digest_12 ⟨Nat.zero_le _, Nat.zero_le _⟩) hP hD hS hA rfl rfl (by decide) (by decide) rfl (by decide) (fun H locs hP hD hS => ?_)
  refine lv_lstore_n (lv' := [(3, .long r28), (1, .long r27), (0, .ref h9)]) hx hb dX9_digest_15 rfl hl (by decide) rfl (fun ls hl => ?_)
  refine lv_aload_n hx hb dX9_digest_16 rfl (lv_at hl 2 rfl) ?_
  refine lv_ldc2 hx hb hown (hts (.constantLong RX9 270 4517) (by decide +kernel)) dX9_digest_17 ?_
  obtain ⟨r29, hc20, hm⟩ := k_bds hm
  refine k_l_sE (k_rV (As := [.long (4517)]) (rest := []) ⟨hx, hb, hml, hown, hts⟩ hK hN hP hD (zX9_addTurn hc20) (cwV 1 hts gX9_digest_X9_addTurn rfl rfl rfl (by decide +kernel) ⟨Nat.le_of_ble_eq_true rfl, Nat.le_of_ble_eq_true rfl⟩) rfl rfl rfl hl.1 rfl (Nat.le_of_ble_eq_true rfl) dX9_digest_20 ⟨Nat.zero_le _, Nat.zero_le _⟩) hD hS hA (fun u9 H locs hP hD hS => ?_)
  obtain ⟨u30, u31, u32, u33⟩ := u9
  have hP : va_P D vwCl (wX cI cJ cC cG h9 hn ap u30 ht h0 u31 u32 pc u33 hasS cnt snp G c_mover c_phase c_dice c_stake c_cube c_pieces0 c_pieces1 c_score0 c_score1 c_hits0 c_hits1 c_stopped c_stopPart t_signs t_length) H := hP
  have hD : va_D A (wX cI cJ cC cG h9 hn ap u30 ht h0 u31 u32 pc u33 hasS cnt snp G c_mover c_phase c_dice c_stake c_cube c_pieces0 c_pieces1 c_score0 c_score1 c_hits0 c_hits1 c_stopped c_stopPart t_signs t_length) := hD
  refine lv_lstore (lv' := [(5, .long r29), (3, .long r28), (1, .long r27), (0, .ref h9)]) hx hb dX9_digest_23 hl (by decide) rfl (fun ls hl => ?_)
  refine lv_lload hx hb dX9_digest_25 (lv_at hl 0 rfl) ?_
  refine lv_lload_n hx hb dX9_digest_27 rfl (lv_at hl 2 rfl) ?_
  refine lv_lload_n hx hb dX9_digest_28 rfl (lv_at hl 1 rfl) ?_
  refine lv_aload_n hx hb dX9_digest_29 rfl (lv_at hl 3 rfl) ?_
  refine va_get (D := D) (ci := 5) (v := .ref hn) (C := RX9) (T := TX9) (N := 4) hx hb hts hinX9 hown hK hP 0 rfl rfl 0 (by decide) fl10 (fun _ h9 => h9) rfl dX9_digest_30 ?_
  refine va_get (D := D) (ci := 0) (v := .int c_dice) (C := RX1) (T := TX1) (N := 13) hx hb hts hinX1 hown hK hP 1 rfl rfl 2 (by decide) fl61 (fun _ h9 => h9) rfl dX9_digest_33 ?_
  obtain ⟨r34, hc36, hm⟩ := k_bds hm
  refine k_i_0 (k_rS (As := [.long r27, .long r28, .int c_dice]) (rest := [.long r29]) ⟨hx, hb, hml, hown, hts⟩ hK hN k_P0 (k_D0 (A := A)) (zX7_countPossible hc36) (va_cwS 3 hts gX9_digest_X7_countPossible rfl rfl rfl (by decide +kernel) ⟨Nat.le_of_ble_eq_true rfl, Nat.le_of_ble_eq_true rfl⟩) rfl hl.1 rfl (Nat.le_of_ble_eq_true rfl) dX9_digest_36 ⟨Nat.zero_le _, Nat.zero_le _⟩) hP hS hA (fun H locs hP hS => ?_)
  refine lv_i2l (v := (Int32.toInt64 r34)) hx hb dX9_digest_39 rfl ?_
  obtain ⟨r35, hc40, hm⟩ := k_bds hm
  refine k_l_0 (k_rS (As := [.long r29, .long (Int32.toInt64 r34)]) (rest := []) ⟨hx, hb, hml, hown, hts⟩ hK hN k_P0 (k_D0 (A := A)) (zX9_added hc40) (va_cwS 2 hts gX9_digest_X9_added rfl rfl rfl (by decide +kernel) ⟨Nat.le_of_ble_eq_true rfl, Nat.le_of_ble_eq_true rfl⟩) rfl hl.1 rfl (Nat.le_of_ble_eq_true rfl) dX9_digest_40 ⟨Nat.zero_le _, Nat.zero_le _⟩) hP hS hA (fun H locs hP hS => ?_)
  refine lv_lstore (lv' := [(5, .long r35), (3, .long r28), (1, .long r27), (0, .ref h9)]) hx hb dX9_digest_43 hl (by decide) rfl (fun ls hl => ?_)
  refine lv_lload hx hb dX9_digest_45 (lv_at hl 0 rfl) ?_
  refine lv_aload_n hx hb dX9_digest_47 rfl (lv_at hl 3 rfl) ?_
  refine va_get (D := D) (ci := 5) (v := .ref hn) (C := RX9) (T := TX9) (N := 4) hx hb hts hinX9 hown hK hP 0 rfl rfl 0 (by decide) fl10 (fun _ h9 => h9) rfl dX9_digest_48 ?_
  obtain ⟨r36, hc51, hm⟩ := k_bds hm
  have hPc : va_P D vwCl (wG hn c_mover c_phase c_dice c_stake c_cube c_pieces0 c_pieces1 c_score0 c_score1 c_hits0 c_hits1 c_stopped c_stopPart) _ := k_Psub hP [1] rfl
  have hDc : va_D A (wG hn c_mover c_phase c_dice c_stake c_cube c_pieces0 c_pieces1 c_score0 c_score1 c_hits0 c_hits1 c_stopped c_stopPart) := hD.sub [1] (by decide) rfl
  refine k_i_c (Wf := (wX cI cJ cC cG h9 hn ap u30 ht h0 u31 u32 pc u33 hasS cnt snp G c_mover c_phase c_dice c_stake c_cube c_pieces0 c_pieces1 c_score0 c_score1 c_hits0 c_hits1 c_stopped c_stopPart t_signs t_length)) [1] [0, 2, 3, 4, 5, 6, 7, 8, 9, 10, 11, 12, 13, 14, 15, 16, 17, 18, 19, 20, 21, 22, 23, 24] [0, 24, 1, 2, 3, 4, 5, 6, 7, 8, 9, 10, 11, 12, 13, 14, 15, 16, 17, 18, 19, 20, 21, 22, 23] (k_rV (As := []) (rest := [.long r35]) ⟨hx, hb, hml, hown, hts⟩ hK hN hPc hDc (zX1_reachNow hc51) (cwV 0 hts gX9_digest_X1_reachNow rfl rfl rfl (by decide +kernel) ⟨Nat.le_of_ble_eq_true rfl, Nat.le_of_ble_eq_true rfl⟩) rfl rfl rfl hl.1 rfl (Nat.le_of_ble_eq_true rfl) dX9_digest_51 ⟨Nat.zero_le _, Nat.zero_le _⟩) hP hD hS hA rfl rfl (by decide) (by decide) rfl (by decide) (fun H locs hP hD hS => ?_)
  refine lv_i2l (v := (Int32.toInt64 r36)) hx hb dX9_digest_54 rfl ?_
  obtain ⟨r37, hc55, hm⟩ := k_bds hm
  refine k_l_0 (k_rS (As := [.long r35, .long (Int32.toInt64 r36)]) (rest := []) ⟨hx, hb, hml, hown, hts⟩ hK hN k_P0 (k_D0 (A := A)) (zX9_added hc55) (va_cwS 2 hts gX9_digest_X9_added rfl rfl rfl (by decide +kernel) ⟨Nat.le_of_ble_eq_true rfl, Nat.le_of_ble_eq_true rfl⟩) rfl hl.1 rfl (Nat.le_of_ble_eq_true rfl) dX9_digest_55 ⟨Nat.zero_le _, Nat.zero_le _⟩) hP hS hA (fun H locs hP hS => ?_)
  refine lv_lstore (lv' := [(5, .long r37), (3, .long r28), (1, .long r27), (0, .ref h9)]) hx hb dX9_digest_58 hl (by decide) rfl (fun ls hl => ?_)
  refine lv_lload hx hb dX9_digest_60 (lv_at hl 0 rfl) ?_
  refine lv_aload_n hx hb dX9_digest_62 rfl (lv_at hl 3 rfl) ?_
  refine va_get (D := D) (ci := 5) (v := .ref h0) (C := RX9) (T := TX9) (N := 4) hx hb hts hinX9 hown hK hP 0 rfl rfl 3 (by decide) fl33 (fun _ h9 => h9) rfl dX9_digest_63 ?_
  refine lv_lload_n hx hb dX9_digest_66 rfl (lv_at hl 2 rfl) ?_
  refine lv_lload_n hx hb dX9_digest_67 rfl (lv_at hl 1 rfl) ?_
  refine lv_aload_n hx hb dX9_digest_68 rfl (lv_at hl 3 rfl) ?_
  refine va_get (D := D) (ci := 5) (v := .ref hn) (C := RX9) (T := TX9) (N := 4) hx hb hts hinX9 hown hK hP 0 rfl rfl 0 (by decide) fl10 (fun _ h9 => h9) rfl dX9_digest_69 ?_
  refine va_get (D := D) (ci := 0) (v := .int c_dice) (C := RX1) (T := TX1) (N := 13) hx hb hts hinX1 hown hK hP 1 rfl rfl 2 (by decide) fl61 (fun _ h9 => h9) rfl dX9_digest_72 ?_
  refine lv_iconst (v := 0) hx hb dX9_digest_75 (by decide) ?_
  obtain ⟨r38, hc76, hm⟩ := k_bds hm
  have hPc : va_P D vwCl (wPj cI cJ h0 u31 u32 pc u33 ) _ := k_Psub hP [12, 13, 14, 15, 16, 17, 18, 19, 20, 21, 22, 23, 24] rfl
  have hDc : va_D A (wPj cI cJ h0 u31 u32 pc u33 ) := hD.sub [12, 13, 14, 15, 16, 17, 18, 19, 20, 21, 22, 23, 24] (by decide) rfl
  refine k_i_cE (fun u : (Nat → Nat) × (Nat → Nat) × (JT) => (wX cI cJ cC cG h9 hn ap u30 ht h0 (u.1) (u.2.1) pc (u.2.2) hasS cnt snp G c_mover c_phase c_dice c_stake c_cube c_pieces0 c_pieces1 c_score0 c_score1 c_hits0 c_hits1 c_stopped c_stopPart t_signs t_length)) [12, 13, 14, 15, 16, 17, 18, 19, 20, 21, 22, 23, 24] [0, 1, 2, 3, 4, 5, 6, 7, 8, 9, 10, 11] [0, 1, 2, 3, 4, 5, 6, 7, 8, 9, 10, 11, 12, 13, 14, 15, 16, 17, 18, 19, 20, 21, 22, 23, 24] (k_rV (As := [.long r27, .long r28, .int c_dice, .int (k_b false)]) (rest := [.long r37]) ⟨hx, hb, hml, hown, hts⟩ hK hN hPc hDc (zX4_pE hc76) (cwV 4 hts gX9_digest_X4_countEnds rfl rfl rfl (by decide +kernel) ⟨Nat.le_of_ble_eq_true rfl, Nat.le_of_ble_eq_true rfl⟩) rfl rfl rfl hl.1 rfl (Nat.le_of_ble_eq_true rfl) dX9_digest_76 ⟨Nat.zero_le _, Nat.zero_le _⟩) hP hD hS hA rfl rfl (by decide) (by decide) (fun u => rfl) (by decide) (fun u9 H locs hP hD hS => ?_)
  obtain ⟨u39, u40, u41⟩ := u9
  have hP : va_P D vwCl (wX cI cJ cC cG h9 hn ap u30 ht h0 u39 u40 pc u41 hasS cnt snp G c_mover c_phase c_dice c_stake c_cube c_pieces0 c_pieces1 c_score0 c_score1 c_hits0 c_hits1 c_stopped c_stopPart t_signs t_length) H := hP
  have hD : va_D A (wX cI cJ cC cG h9 hn ap u30 ht h0 u39 u40 pc u41 hasS cnt snp G c_mover c_phase c_dice c_stake c_cube c_pieces0 c_pieces1 c_score0 c_score1 c_hits0 c_hits1 c_stopped c_stopPart t_signs t_length) := hD
  refine lv_i2l (v := (Int32.toInt64 r38)) hx hb dX9_digest_79 rfl ?_
  obtain ⟨r42, hc80, hm⟩ := k_bds hm
  refine k_l_0 (k_rS (As := [.long r37, .long (Int32.toInt64 r38)]) (rest := []) ⟨hx, hb, hml, hown, hts⟩ hK hN k_P0 (k_D0 (A := A)) (zX9_added hc80) (va_cwS 2 hts gX9_digest_X9_added rfl rfl rfl (by decide +kernel) ⟨Nat.le_of_ble_eq_true rfl, Nat.le_of_ble_eq_true rfl⟩) rfl hl.1 rfl (Nat.le_of_ble_eq_true rfl) dX9_digest_80 ⟨Nat.zero_le _, Nat.zero_le _⟩) hP hS hA (fun H locs hP hS => ?_)
  refine lv_lstore (lv' := [(5, .long r42), (3, .long r28), (1, .long r27), (0, .ref h9)]) hx hb dX9_digest_83 hl (by decide) rfl (fun ls hl => ?_)
  refine lv_lload hx hb dX9_digest_85 (lv_at hl 0 rfl) ?_
  refine lv_aload_n hx hb dX9_digest_87 rfl (lv_at hl 3 rfl) ?_
  refine va_get (D := D) (ci := 5) (v := .ref h0) (C := RX9) (T := TX9) (N := 4) hx hb hts hinX9 hown hK hP 0 rfl rfl 3 (by decide) fl33 (fun _ h9 => h9) rfl dX9_digest_88 ?_
  refine lv_lload_n hx hb dX9_digest_91 rfl (lv_at hl 2 rfl) ?_
  refine lv_lload_n hx hb dX9_digest_92 rfl (lv_at hl 1 rfl) ?_
  refine lv_aload_n hx hb dX9_digest_93 rfl (lv_at hl 3 rfl) ?_
  refine va_get (D := D) (ci := 5) (v := .ref hn) (C := RX9) (T := TX9) (N := 4) hx hb hts hinX9 hown hK hP 0 rfl rfl 0 (by decide) fl10 (fun _ h9 => h9) rfl dX9_digest_94 ?_
  refine va_get (D := D) (ci := 0) (v := .int c_dice) (C := RX1) (T := TX1) (N := 13) hx hb hts hinX1 hown hK hP 1 rfl rfl 2 (by decide) fl61 (fun _ h9 => h9) rfl dX9_digest_97 ?_
  refine lv_iconst (v := 1) hx hb dX9_digest_100 (by decide) ?_
  obtain ⟨r43, hc101, hm⟩ := k_bds hm
  have hPc : va_P D vwCl (wPj cI cJ h0 u39 u40 pc u41 ) _ := k_Psub hP [12, 13, 14, 15, 16, 17, 18, 19, 20, 21, 22, 23, 24] rfl
  have hDc : va_D A (wPj cI cJ h0 u39 u40 pc u41 ) := hD.sub [12, 13, 14, 15, 16, 17, 18, 19, 20, 21, 22, 23, 24] (by decide) rfl
  refine k_i_cE (fun u : (Nat → Nat) × (Nat → Nat) × (JT) => (wX cI cJ cC cG h9 hn ap u30 ht h0 (u.1) (u.2.1) pc (u.2.2) hasS cnt snp G c_mover c_phase c_dice c_stake c_cube c_pieces0 c_pieces1 c_score0 c_score1 c_hits0 c_hits1 c_stopped c_stopPart t_signs t_length)) [12, 13, 14, 15, 16, 17, 18, 19, 20, 21, 22, 23, 24] [0, 1, 2, 3, 4, 5, 6, 7, 8, 9, 10, 11] [0, 1, 2, 3, 4, 5, 6, 7, 8, 9, 10, 11, 12, 13, 14, 15, 16, 17, 18, 19, 20, 21, 22, 23, 24] (k_rV (As := [.long r27, .long r28, .int c_dice, .int (k_b true)]) (rest := [.long r42]) ⟨hx, hb, hml, hown, hts⟩ hK hN hPc hDc (zX4_pE hc101) (cwV 4 hts gX9_digest_X4_countEnds rfl rfl rfl (by decide +kernel) ⟨Nat.le_of_ble_eq_true rfl, Nat.le_of_ble_eq_true rfl⟩) rfl rfl rfl hl.1 rfl (Nat.le_of_ble_eq_true rfl) dX9_digest_101 ⟨Nat.zero_le _, Nat.zero_le _⟩) hP hD hS hA rfl rfl (by decide) (by decide) (fun u => rfl) (by decide) (fun u9 H locs hP hD hS => ?_)
  obtain ⟨u44, u45, u46⟩ := u9
  have hP : va_P D vwCl (wX cI cJ cC cG h9 hn ap u30 ht h0 u44 u45 pc u46 hasS cnt snp G c_mover c_phase c_dice c_stake c_cube c_pieces0 c_pieces1 c_score0 c_score1 c_hits0 c_hits1 c_stopped c_stopPart t_signs t_length) H := hP
  have hD : va_D A (wX cI cJ cC cG h9 hn ap u30 ht h0 u44 u45 pc u46 hasS cnt snp G c_mover c_phase c_dice c_stake c_cube c_pieces0 c_pieces1 c_score0 c_score1 c_hits0 c_hits1 c_stopped c_stopPart t_signs t_length) := hD
  refine lv_i2l (v := (Int32.toInt64 r43)) hx hb dX9_digest_104 rfl ?_
  obtain ⟨r47, hc105, hm⟩ := k_bds hm
  refine k_l_0 (k_rS (As := [.long r42, .long (Int32.toInt64 r43)]) (rest := []) ⟨hx, hb, hml, hown, hts⟩ hK hN k_P0 (k_D0 (A := A)) (zX9_added hc105) (va_cwS 2 hts gX9_digest_X9_added rfl rfl rfl (by decide +kernel) ⟨Nat.le_of_ble_eq_true rfl, Nat.le_of_ble_eq_true rfl⟩) rfl hl.1 rfl (Nat.le_of_ble_eq_true rfl) dX9_digest_105 ⟨Nat.zero_le _, Nat.zero_le _⟩) hP hS hA (fun H locs hP hS => ?_)
  refine lv_lstore (lv' := [(5, .long r47), (3, .long r28), (1, .long r27), (0, .ref h9)]) hx hb dX9_digest_108 hl (by decide) rfl (fun ls hl => ?_)
  refine lv_lload hx hb dX9_digest_110 (lv_at hl 0 rfl) ?_
  refine lv_aload_n hx hb dX9_digest_112 rfl (lv_at hl 3 rfl) ?_
  refine va_get (D := D) (ci := 5) (v := .ref h0) (C := RX9) (T := TX9) (N := 4) hx hb hts hinX9 hown hK hP 0 rfl rfl 3 (by decide) fl33 (fun _ h9 => h9) rfl dX9_digest_113 ?_
  refine lv_lload_n hx hb dX9_digest_116 rfl (lv_at hl 2 rfl) ?_
  refine lv_lload_n hx hb dX9_digest_117 rfl (lv_at hl 1 rfl) ?_
  refine lv_bipush (v := 6) hx hb dX9_digest_118 (by decide) ?_
  refine lv_iconst (v := 5) hx hb dX9_digest_120 (by decide) ?_
  obtain ⟨r48, hc121, hm⟩ := k_bds hm
  refine k_i_0 (k_rS (As := [.int 6, .int 5]) (rest := [.long r28, .long r27, .ref h0, .long r47]) ⟨hx, hb, hml, hown, hts⟩ hK hN k_P0 (k_D0 (A := A)) (zX0_rolled hc121) (va_cwS 2 hts gX9_digest_X0_rolled rfl rfl rfl (by decide +kernel) ⟨Nat.le_of_ble_eq_true rfl, Nat.le_of_ble_eq_true rfl⟩) rfl hl.1 rfl (Nat.le_of_ble_eq_true rfl) dX9_digest_121 ⟨Nat.zero_le _, Nat.zero_le _⟩) hP hS hA (fun H locs hP hS => ?_)
  refine lv_iconst (v := 0) hx hb dX9_digest_124 (by decide) ?_
  obtain ⟨r49, hc125, hm⟩ := k_bds hm
  have hPc : va_P D vwCl (wPj cI cJ h0 u44 u45 pc u46 ) _ := k_Psub hP [12, 13, 14, 15, 16, 17, 18, 19, 20, 21, 22, 23, 24] rfl
  have hDc : va_D A (wPj cI cJ h0 u44 u45 pc u46 ) := hD.sub [12, 13, 14, 15, 16, 17, 18, 19, 20, 21, 22, 23, 24] (by decide) rfl
  refine k_i_cE (fun u : (Nat → Nat) × (Nat → Nat) × (JT) => (wX cI cJ cC cG h9 hn ap u30 ht h0 (u.1) (u.2.1) pc (u.2.2) hasS cnt snp G c_mover c_phase c_dice c_stake c_cube c_pieces0 c_pieces1 c_score0 c_score1 c_hits0 c_hits1 c_stopped c_stopPart t_signs t_length)) [12, 13, 14, 15, 16, 17, 18, 19, 20, 21, 22, 23, 24] [0, 1, 2, 3, 4, 5, 6, 7, 8, 9, 10, 11] [0, 1, 2, 3, 4, 5, 6, 7, 8, 9, 10, 11, 12, 13, 14, 15, 16, 17, 18, 19, 20, 21, 22, 23, 24] (k_rV (As := [.long r27, .long r28, .int r48, .int (k_b false)]) (rest := [.long r47]) ⟨hx, hb, hml, hown, hts⟩ hK hN hPc hDc (zX4_pE hc125) (cwV 4 hts gX9_digest_X4_countEnds rfl rfl rfl (by decide +kernel) ⟨Nat.le_of_ble_eq_true rfl, Nat.le_of_ble_eq_true rfl⟩) rfl rfl rfl hl.1 rfl (Nat.le_of_ble_eq_true rfl) dX9_digest_125 ⟨Nat.zero_le _, Nat.zero_le _⟩) hP hD hS hA rfl rfl (by decide) (by decide) (fun u => rfl) (by decide) (fun u9 H locs hP hD hS => ?_)
  obtain ⟨u50, u51, u52⟩ := u9
  have hP : va_P D vwCl (wX cI cJ cC cG h9 hn ap u30 ht h0 u50 u51 pc u52 hasS cnt snp G c_mover c_phase c_dice c_stake c_cube c_pieces0 c_pieces1 c_score0 c_score1 c_hits0 c_hits1 c_stopped c_stopPart t_signs t_length) H := hP
  have hD : va_D A (wX cI cJ cC cG h9 hn ap u30 ht h0 u50 u51 pc u52 hasS cnt snp G c_mover c_phase c_dice c_stake c_cube c_pieces0 c_pieces1 c_score0 c_score1 c_hits0 c_hits1 c_stopped c_stopPart t_signs t_length) := hD
  refine lv_i2l (v := (Int32.toInt64 r49)) hx hb dX9_digest_128 rfl ?_
  obtain ⟨r53, hc129, hm⟩ := k_bds hm
  refine k_l_0 (k_rS (As := [.long r47, .long (Int32.toInt64 r49)]) (rest := []) ⟨hx, hb, hml, hown, hts⟩ hK hN k_P0 (k_D0 (A := A)) (zX9_added hc129) (va_cwS 2 hts gX9_digest_X9_added rfl rfl rfl (by decide +kernel) ⟨Nat.le_of_ble_eq_true rfl, Nat.le_of_ble_eq_true rfl⟩) rfl hl.1 rfl (Nat.le_of_ble_eq_true rfl) dX9_digest_129 ⟨Nat.zero_le _, Nat.zero_le _⟩) hP hS hA (fun H locs hP hS => ?_)
  refine lv_lstore (lv' := [(5, .long r53), (3, .long r28), (1, .long r27), (0, .ref h9)]) hx hb dX9_digest_132 hl (by decide) rfl (fun ls hl => ?_)
  refine lv_lload hx hb dX9_digest_134 (lv_at hl 0 rfl) ?_
  refine lv_aload_n hx hb dX9_digest_136 rfl (lv_at hl 3 rfl) ?_
  refine va_get (D := D) (ci := 5) (v := .ref (ap 0)) (C := RX9) (T := TX9) (N := 4) hx hb hts hinX9 hown hK hP 0 rfl rfl 1 (by decide) fl19 (fun _ h9 => h9) rfl dX9_digest_137 ?_
  refine va_get (D := D) (ci := 1) (v := .int cnt) (C := RX2) (T := TX2) (N := 4) hx hb hts hinX2 hown hK hP 2 rfl rfl 3 (by decide) fl183 (fun _ h9 => h9) rfl dX9_digest_140 ?_
  refine lv_i2l (v := (Int32.toInt64 cnt)) hx hb dX9_digest_143 rfl ?_
  obtain ⟨r54, hc144, hm⟩ := k_bds hm
  refine k_l_0 (k_rS (As := [.long r53, .long (Int32.toInt64 cnt)]) (rest := []) ⟨hx, hb, hml, hown, hts⟩ hK hN k_P0 (k_D0 (A := A)) (zX9_added hc144) (va_cwS 2 hts gX9_digest_X9_added rfl rfl rfl (by decide +kernel) ⟨Nat.le_of_ble_eq_true rfl, Nat.le_of_ble_eq_true rfl⟩) rfl hl.1 rfl (Nat.le_of_ble_eq_true rfl) dX9_digest_144 ⟨Nat.zero_le _, Nat.zero_le _⟩) hP hS hA (fun H locs hP hS => ?_)
  refine lv_lstore (lv' := [(5, .long r54), (3, .long r28), (1, .long r27), (0, .ref h9)]) hx hb dX9_digest_147 hl (by decide) rfl (fun ls hl => ?_)
  refine lv_aload_n hx hb dX9_digest_149 rfl (lv_at hl 3 rfl) ?_
  refine lv_lload hx hb dX9_digest_150 (lv_at hl 0 rfl) ?_
  refine lv_iconst (v := 0) hx hb dX9_digest_152 (by decide) ?_
  obtain ⟨r55, hc153, hm⟩ := k_bds hm
  refine k_l_sE (k_rV (As := [.long r54, .int 0]) (rest := []) ⟨hx, hb, hml, hown, hts⟩ hK hN hP hD (zX9_addPlayer hc153) (cwV 2 hts gX9_digest_X9_addPlayer rfl rfl rfl (by decide +kernel) ⟨Nat.le_of_ble_eq_true rfl, Nat.le_of_ble_eq_true rfl⟩) rfl rfl rfl hl.1 rfl (Nat.le_of_ble_eq_true rfl) dX9_digest_153 ⟨Nat.zero_le _, Nat.zero_le _⟩) hD hS hA (fun u9 H locs hP hD hS => ?_)
  obtain ⟨u56, u57, u58, u59⟩ := u9
  have hP : va_P D vwCl (wX cI cJ cC cG h9 hn ap u56 ht h0 u57 u58 pc u59 hasS cnt snp G c_mover c_phase c_dice c_stake c_cube c_pieces0 c_pieces1 c_score0 c_score1 c_hits0 c_hits1 c_stopped c_stopPart t_signs t_length) H := hP
  have hD : va_D A (wX cI cJ cC cG h9 hn ap u56 ht h0 u57 u58 pc u59 hasS cnt snp G c_mover c_phase c_dice c_stake c_cube c_pieces0 c_pieces1 c_score0 c_score1 c_hits0 c_hits1 c_stopped c_stopPart t_signs t_length) := hD
  refine lv_lstore (lv' := [(5, .long r55), (3, .long r28), (1, .long r27), (0, .ref h9)]) hx hb dX9_digest_156 hl (by decide) rfl (fun ls hl => ?_)
  refine lv_aload_n hx hb dX9_digest_158 rfl (lv_at hl 3 rfl) ?_
  refine lv_lload hx hb dX9_digest_159 (lv_at hl 0 rfl) ?_
  refine lv_iconst (v := 1) hx hb dX9_digest_161 (by decide) ?_
  obtain ⟨r60, hc162, hm⟩ := k_bds hm
  refine k_l_sE (k_rV (As := [.long r55, .int 1]) (rest := []) ⟨hx, hb, hml, hown, hts⟩ hK hN hP hD (zX9_addPlayer hc162) (cwV 2 hts gX9_digest_X9_addPlayer rfl rfl rfl (by decide +kernel) ⟨Nat.le_of_ble_eq_true rfl, Nat.le_of_ble_eq_true rfl⟩) rfl rfl rfl hl.1 rfl (Nat.le_of_ble_eq_true rfl) dX9_digest_162 ⟨Nat.zero_le _, Nat.zero_le _⟩) hD hS hA (fun u9 H locs hP hD hS => ?_)
  obtain ⟨u61, u62, u63, u64⟩ := u9
  have hP : va_P D vwCl (wX cI cJ cC cG h9 hn ap u61 ht h0 u62 u63 pc u64 hasS cnt snp G c_mover c_phase c_dice c_stake c_cube c_pieces0 c_pieces1 c_score0 c_score1 c_hits0 c_hits1 c_stopped c_stopPart t_signs t_length) H := hP
  have hD : va_D A (wX cI cJ cC cG h9 hn ap u61 ht h0 u62 u63 pc u64 hasS cnt snp G c_mover c_phase c_dice c_stake c_cube c_pieces0 c_pieces1 c_score0 c_score1 c_hits0 c_hits1 c_stopped c_stopPart t_signs t_length) := hD
  refine lv_lstore (lv' := [(5, .long r60), (3, .long r28), (1, .long r27), (0, .ref h9)]) hx hb dX9_digest_165 hl (by decide) rfl (fun ls hl => ?_)
  refine lv_iconst (v := 0) hx hb dX9_digest_167 (by decide) ?_
  refine lv_istore (lv' := [(7, .int 0), (5, .long r60), (3, .long r28), (1, .long r27), (0, .ref h9)]) hx hb dX9_digest_168 hl (by decide) rfl (fun ls hl => ?_)
  exact J_170 u61 u62 u63 u64 r60 0 _ _ hP hD hS _ (lv_sub hl [4, 1, 0] rfl) hm

