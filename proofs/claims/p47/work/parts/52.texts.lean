abbrev rmX5_isIn : Room := { frames := 0, cells := 0, slots := 0, locals := 0 }
set_option maxHeartbeats 4000000 in
set_option maxRecDepth 100000 in
theorem zX5_isIn {l : Launch} {D : va_G} {cI cJ cC cG : ClassId} {sz : Nat} {ad : Nat → Nat} {c_mine : Nat → Int64} {c_theirs : Nat → Int64} {c_dice : Nat → Int32} {c_size : Int32} {a1 : Int32} {r : Bool} (hm : mX5_isIn c_size a1 = some (r)) : k_Mi l yX5_isIn wsX5_isIn rmX5_isIn D (kT cI cJ cC cG) sz ([.ref (ad 0), .int a1] : List Value) (wPo cI cJ ad c_mine c_theirs c_dice c_size) (wPo cI cJ ad c_mine c_theirs c_dice c_size) (k_b r) := by
  refine k_st_i (cc := cX5_isIn) (maxL := 2) (by decide) rfl (Nat.le_of_ble_eq_true rfl) ?_
  intro p e z m below meth c A hx hb hr hml hts hown hlocks hsz hN hA hK hP hD hS ls hl
  have hown : z.vm.findClass RX5 = some m.cls := hown
  have hinX5 : ∀ w ∈ wsX50, w ∈ wsX5_isIn := by decide +kernel
  have fl20 := hts (.fieldLink RX5 20 "MagpieRuns$Positions" "size" "I") (by decide +kernel)
  have hl : lv_has ls 2 [(0, .ref (ad 0)), (1, .int a1)] := hl
  unfold mX5_isIn at hm
  refine lv_iload_n hx hb dX5_isIn_0 rfl (lv_at hl 1 rfl) ?_
  refine lv_if_lt (tgt := 23) hx hb dX5_isIn_1 (by decide) (fun cc1 => ?_) (fun cc1 => ?_)
  · have hm := k_ip cc1 hm
    refine lv_iconst (v := 0) hx hb dX5_isIn_23 (by decide) ?_
    cases hm
    exact k_end_z false hx hb hr hlocks hK hP hD hS dX5_isIn_24
  · have hm := k_in cc1 hm
    refine lv_iload_n hx hb dX5_isIn_4 rfl (lv_at hl 1 rfl) ?_
    refine lv_aload_n hx hb dX5_isIn_5 rfl (lv_at hl 0 rfl) ?_
    refine va_get (D := D) (ci := 3) (v := .int c_size) (C := RX5) (T := TX5) (N := 4) hx hb hts hinX5 hown hK hP 0 rfl rfl 3 (by decide) fl20 (fun _ h9 => h9) rfl dX5_isIn_6 ?_
    refine lv_icmp_ge (tgt := 23) hx hb dX5_isIn_9 (by decide) (fun cc9 => ?_) (fun cc9 => ?_)
    · have hm := k_ip cc9 hm
      refine lv_iconst (v := 0) hx hb dX5_isIn_23 (by decide) ?_
      cases hm
      exact k_end_z false hx hb hr hlocks hK hP hD hS dX5_isIn_24
    · have hm := k_in cc9 hm
      refine lv_iload_n hx hb dX5_isIn_12 rfl (lv_at hl 1 rfl) ?_
      refine lv_sipush (v := 128) hx hb dX5_isIn_13 (by decide) ?_
      refine lv_icmp_ge (tgt := 23) hx hb dX5_isIn_16 (by decide) (fun cc16 => ?_) (fun cc16 => ?_)
      · have hm := k_ip cc16 hm
        refine lv_iconst (v := 0) hx hb dX5_isIn_23 (by decide) ?_
        cases hm
        exact k_end_z false hx hb hr hlocks hK hP hD hS dX5_isIn_24
      · have hm := k_in cc16 hm
        refine lv_iconst (v := 1) hx hb dX5_isIn_19 (by decide) ?_
        refine lv_goto (tgt := 24) hx hb dX5_isIn_20 (by decide) ?_
        cases hm
        exact k_end_z true hx hb hr hlocks hK hP hD hS dX5_isIn_24

abbrev rmX5_mineAt : Room := { frames := 1, cells := 0, slots := 0, locals := 21 }
set_option maxHeartbeats 4000000 in
set_option maxRecDepth 100000 in
theorem zX5_mineAt {l : Launch} {D : va_G} {cI cJ cC cG : ClassId} {sz : Nat} {ad : Nat → Nat} {c_mine : Nat → Int64} {c_theirs : Nat → Int64} {c_dice : Nat → Int32} {c_size : Int32} {a1 : Int32} {r : Int64} (hm : mX5_mineAt c_mine c_size a1 = some (r)) : k_Ml l yX5_mineAt wsX5_mineAt rmX5_mineAt D (kT cI cJ cC cG) sz ([.ref (ad 0), .int a1] : List Value) (wPo cI cJ ad c_mine c_theirs c_dice c_size) (wPo cI cJ ad c_mine c_theirs c_dice c_size) r := by
  refine k_st_l (cc := cX5_mineAt) (maxL := 2) (by decide) rfl (Nat.le_of_ble_eq_true rfl) ?_
  intro p e z m below meth c A hx hb hr hml hts hown hlocks hsz hN hA hK hP hD hS ls hl
  have hown : z.vm.findClass RX5 = some m.cls := hown
  have hinX5 : ∀ w ∈ wsX50, w ∈ wsX5_mineAt := by decide +kernel
  have fl9 := hts (.fieldLink RX5 9 "MagpieRuns$Positions" "mine" "[J") (by decide +kernel)
  have hl : lv_has ls 2 [(0, .ref (ad 0)), (1, .int a1)] := hl
  unfold mX5_mineAt at hm
  refine lv_aload_n hx hb dX5_mineAt_0 rfl (lv_at hl 0 rfl) ?_
  refine lv_iload_n hx hb dX5_mineAt_1 rfl (lv_at hl 1 rfl) ?_
  obtain ⟨r1, hc2, hm⟩ := k_bds hm
  refine k_i_s (k_rV (As := [.int a1]) (rest := []) ⟨hx, hb, hml, hown, hts⟩ hK hN hP hD (zX5_isIn hc2) (cwV 1 hts gX5_mineAt_X5_isIn rfl rfl rfl (by decide +kernel) ⟨Nat.le_of_ble_eq_true rfl, Nat.le_of_ble_eq_true rfl⟩) rfl rfl rfl hl.1 rfl (Nat.le_of_ble_eq_true rfl) dX5_mineAt_2 ⟨Nat.zero_le _, Nat.zero_le _⟩) hD hS hA (fun H locs hP hD hS => ?_)
  refine lv_if_eq (tgt := 17) hx hb dX5_mineAt_5 (by decide) (fun cc5 => ?_) (fun cc5 => ?_)
  · have hm := k_ip cc5 hm
    refine lv_lconst (v := 0) hx hb dX5_mineAt_17 (by decide) ?_
    cases hm
    exact k_end_l hx hb hr hlocks hK hP hD hS dX5_mineAt_18
  · have hm := k_in cc5 hm
    refine lv_aload_n hx hb dX5_mineAt_8 rfl (lv_at hl 0 rfl) ?_
    refine va_get (D := D) (ci := 3) (v := .ref (ad 1)) (C := RX5) (T := TX5) (N := 4) hx hb hts hinX5 hown hK hP 0 rfl rfl 0 (by decide) fl9 (fun _ h9 => h9) rfl dX5_mineAt_9 ?_
    refine lv_iload_n hx hb dX5_mineAt_12 rfl (lv_at hl 1 rfl) ?_
    obtain ⟨gi13, hm⟩ := k_gs hm
    refine va_lald hx hb hK hP 1 1 rfl rfl gi13 dX5_mineAt_13 ?_
    refine lv_goto (tgt := 18) hx hb dX5_mineAt_14 (by decide) ?_
    cases hm
    exact k_end_l hx hb hr hlocks hK hP hD hS dX5_mineAt_18

abbrev rmX5_theirsAt : Room := { frames := 1, cells := 0, slots := 0, locals := 21 }
set_option maxHeartbeats 4000000 in
set_option maxRecDepth 100000 in
theorem zX5_theirsAt {l : Launch} {D : va_G} {cI cJ cC cG : ClassId} {sz : Nat} {ad : Nat → Nat} {c_mine : Nat → Int64} {c_theirs : Nat → Int64} {c_dice : Nat → Int32} {c_size : Int32} {a1 : Int32} {r : Int64} (hm : mX5_theirsAt c_theirs c_size a1 = some (r)) : k_Ml l yX5_theirsAt wsX5_theirsAt rmX5_theirsAt D (kT cI cJ cC cG) sz ([.ref (ad 0), .int a1] : List Value) (wPo cI cJ ad c_mine c_theirs c_dice c_size) (wPo cI cJ ad c_mine c_theirs c_dice c_size) r := by
  refine k_st_l (cc := cX5_theirsAt) (maxL := 2) (by decide) rfl (Nat.le_of_ble_eq_true rfl) ?_
  intro p e z m below meth c A hx hb hr hml hts hown hlocks hsz hN hA hK hP hD hS ls hl
  have hown : z.vm.findClass RX5 = some m.cls := hown
  have hinX5 : ∀ w ∈ wsX50, w ∈ wsX5_theirsAt := by decide +kernel
  have fl13 := hts (.fieldLink RX5 13 "MagpieRuns$Positions" "theirs" "[J") (by decide +kernel)
  have hl : lv_has ls 2 [(0, .ref (ad 0)), (1, .int a1)] := hl
  unfold mX5_theirsAt at hm
  refine lv_aload_n hx hb dX5_theirsAt_0 rfl (lv_at hl 0 rfl) ?_
  refine lv_iload_n hx hb dX5_theirsAt_1 rfl (lv_at hl 1 rfl) ?_
  obtain ⟨r1, hc2, hm⟩ := k_bds hm
  refine k_i_s (k_rV (As := [.int a1]) (rest := []) ⟨hx, hb, hml, hown, hts⟩ hK hN hP hD (zX5_isIn hc2) (cwV 1 hts gX5_theirsAt_X5_isIn rfl rfl rfl (by decide +kernel) ⟨Nat.le_of_ble_eq_true rfl, Nat.le_of_ble_eq_true rfl⟩) rfl rfl rfl hl.1 rfl (Nat.le_of_ble_eq_true rfl) dX5_theirsAt_2 ⟨Nat.zero_le _, Nat.zero_le _⟩) hD hS hA (fun H locs hP hD hS => ?_)
  refine lv_if_eq (tgt := 17) hx hb dX5_theirsAt_5 (by decide) (fun cc5 => ?_) (fun cc5 => ?_)
  · have hm := k_ip cc5 hm
    refine lv_lconst (v := 0) hx hb dX5_theirsAt_17 (by decide) ?_
    cases hm
    exact k_end_l hx hb hr hlocks hK hP hD hS dX5_theirsAt_18
  · have hm := k_in cc5 hm
    refine lv_aload_n hx hb dX5_theirsAt_8 rfl (lv_at hl 0 rfl) ?_
    refine va_get (D := D) (ci := 3) (v := .ref (ad 2)) (C := RX5) (T := TX5) (N := 4) hx hb hts hinX5 hown hK hP 0 rfl rfl 1 (by decide) fl13 (fun _ h9 => h9) rfl dX5_theirsAt_9 ?_
    refine lv_iload_n hx hb dX5_theirsAt_12 rfl (lv_at hl 1 rfl) ?_
    obtain ⟨gi13, hm⟩ := k_gs hm
    refine va_lald hx hb hK hP 2 1 rfl rfl gi13 dX5_theirsAt_13 ?_
    refine lv_goto (tgt := 18) hx hb dX5_theirsAt_14 (by decide) ?_
    cases hm
    exact k_end_l hx hb hr hlocks hK hP hD hS dX5_theirsAt_18

abbrev rmX5_diceAt : Room := { frames := 1, cells := 0, slots := 0, locals := 21 }
set_option maxHeartbeats 4000000 in
set_option maxRecDepth 100000 in
theorem zX5_diceAt {l : Launch} {D : va_G} {cI cJ cC cG : ClassId} {sz : Nat} {ad : Nat → Nat} {c_mine : Nat → Int64} {c_theirs : Nat → Int64} {c_dice : Nat → Int32} {c_size : Int32} {a1 : Int32} {r : Int32} (hm : mX5_diceAt c_dice c_size a1 = some (r)) : k_Mi l yX5_diceAt wsX5_diceAt rmX5_diceAt D (kT cI cJ cC cG) sz ([.ref (ad 0), .int a1] : List Value) (wPo cI cJ ad c_mine c_theirs c_dice c_size) (wPo cI cJ ad c_mine c_theirs c_dice c_size) r := by
  refine k_st_i (cc := cX5_diceAt) (maxL := 2) (by decide) rfl (Nat.le_of_ble_eq_true rfl) ?_
  intro p e z m below meth c A hx hb hr hml hts hown hlocks hsz hN hA hK hP hD hS ls hl
  have hown : z.vm.findClass RX5 = some m.cls := hown
  have hinX5 : ∀ w ∈ wsX50, w ∈ wsX5_diceAt := by decide +kernel
  have fl16 := hts (.fieldLink RX5 16 "MagpieRuns$Positions" "dice" "[I") (by decide +kernel)
  have hl : lv_has ls 2 [(0, .ref (ad 0)), (1, .int a1)] := hl
  unfold mX5_diceAt at hm
  refine lv_aload_n hx hb dX5_diceAt_0 rfl (lv_at hl 0 rfl) ?_
  refine lv_iload_n hx hb dX5_diceAt_1 rfl (lv_at hl 1 rfl) ?_
  obtain ⟨r1, hc2, hm⟩ := k_bds hm
  refine k_i_s (k_rV (As := [.int a1]) (rest := []) ⟨hx, hb, hml, hown, hts⟩ hK hN hP hD (zX5_isIn hc2) (cwV 1 hts gX5_diceAt_X5_isIn rfl rfl rfl (by decide +kernel) ⟨Nat.le_of_ble_eq_true rfl, Nat.le_of_ble_eq_true rfl⟩) rfl rfl rfl hl.1 rfl (Nat.le_of_ble_eq_true rfl) dX5_diceAt_2 ⟨Nat.zero_le _, Nat.zero_le _⟩) hD hS hA (fun H locs hP hD hS => ?_)
  refine lv_if_eq (tgt := 17) hx hb dX5_diceAt_5 (by decide) (fun cc5 => ?_) (fun cc5 => ?_)
  · have hm := k_ip cc5 hm
    refine lv_iconst (v := 0) hx hb dX5_diceAt_17 (by decide) ?_
    cases hm
    exact k_end_i hx hb hr hlocks hK hP hD hS dX5_diceAt_18
  · have hm := k_in cc5 hm
    refine lv_aload_n hx hb dX5_diceAt_8 rfl (lv_at hl 0 rfl) ?_
    refine va_get (D := D) (ci := 3) (v := .ref (ad 3)) (C := RX5) (T := TX5) (N := 4) hx hb hts hinX5 hown hK hP 0 rfl rfl 2 (by decide) fl16 (fun _ h9 => h9) rfl dX5_diceAt_9 ?_
    refine lv_iload_n hx hb dX5_diceAt_12 rfl (lv_at hl 1 rfl) ?_
    obtain ⟨gi13, hm⟩ := k_gs hm
    refine va_iald hx hb hK hP 3 0 rfl rfl gi13 dX5_diceAt_13 ?_
    refine lv_goto (tgt := 18) hx hb dX5_diceAt_14 (by decide) ?_
    cases hm
    exact k_end_i hx hb hr hlocks hK hP hD hS dX5_diceAt_18

abbrev rmX5_clear : Room := { frames := 0, cells := 0, slots := 0, locals := 0 }
set_option maxHeartbeats 4000000 in
set_option maxRecDepth 100000 in
theorem zX5_clear {l : Launch} {D : va_G} {cI cJ cC cG : ClassId} {sz : Nat} {ad : Nat → Nat} {c_mine : Nat → Int64} {c_theirs : Nat → Int64} {c_dice : Nat → Int32} {c_size : Int32} {c_size' : Int32} (hm : mX5_clear c_size = some (c_size')) : k_Mv l yX5_clear wsX5_clear rmX5_clear D (kT cI cJ cC cG) sz ([.ref (ad 0)] : List Value) (wPo cI cJ ad c_mine c_theirs c_dice c_size) (wPo cI cJ ad c_mine c_theirs c_dice c_size') := by
  refine k_st_v (cc := cX5_clear) (maxL := 1) (by decide) rfl (Nat.le_of_ble_eq_true rfl) ?_
  intro p e z m below meth c A hx hb hr hml hts hown hlocks hsz hN hA hK hP hD hS ls hl
  have hown : z.vm.findClass RX5 = some m.cls := hown
  have hinX5 : ∀ w ∈ wsX50, w ∈ wsX5_clear := by decide +kernel
  have fl20 := hts (.fieldLink RX5 20 "MagpieRuns$Positions" "size" "I") (by decide +kernel)
  have hl : lv_has ls 1 [(0, .ref (ad 0))] := hl
  unfold mX5_clear at hm
  refine lv_aload_n hx hb dX5_clear_0 rfl (lv_at hl 0 rfl) ?_
  refine lv_iconst (v := 0) hx hb dX5_clear_1 (by decide) ?_
  refine va_put (D := D) (ci := 3) (v := .int 0) (ty := .int) (C := RX5) (T := TX5) (N := 4) hx hb hts hinX5 tyX5 tyX5_ok nmX5 hown hK hP hD hS 0 rfl rfl 3 (by decide) fl20 (fun _ h9 => h9) rfl (by decide +kernel) rfl rfl (Nat.le_of_ble_eq_true rfl) dX5_clear_2 (fun H locs hP hD hS => ?_)
  have hP : va_P D vwCl (wPo cI cJ ad c_mine c_theirs c_dice 0) H := hP
  have hD : va_D A (wPo cI cJ ad c_mine c_theirs c_dice 0) := hD
  cases hm
  exact k_end_v hx hb hr hlocks hK hP hD hS dX5_clear_5

abbrev rmX5_add : Room := { frames := 0, cells := 0, slots := 0, locals := 0 }
set_option maxHeartbeats 4000000 in
set_option maxRecDepth 100000 in
theorem zX5_add {l : Launch} {D : va_G} {cI cJ cC cG : ClassId} {sz : Nat} {ad : Nat → Nat} {c_mine : Nat → Int64} {c_theirs : Nat → Int64} {c_dice : Nat → Int32} {c_size : Int32} {a1 : Int64} {a3 : Int64} {a5 : Int32} {c_mine' : Nat → Int64} {c_theirs' : Nat → Int64} {c_dice' : Nat → Int32} {c_size' : Int32} (hm : mX5_add c_mine c_theirs c_dice c_size a1 a3 a5 = some (c_mine', c_theirs', c_dice', c_size')) : k_Mv l yX5_add wsX5_add rmX5_add D (kT cI cJ cC cG) sz ([.ref (ad 0), .long a1, .long a3, .int a5] : List Value) (wPo cI cJ ad c_mine c_theirs c_dice c_size) (wPo cI cJ ad c_mine' c_theirs' c_dice' c_size') := by
  refine k_st_v (cc := cX5_add) (maxL := 7) (by decide) rfl (Nat.le_of_ble_eq_true rfl) ?_
  intro p e z m below meth c A hx hb hr hml hts hown hlocks hsz hN hA hK hP hD hS ls hl
  have hown : z.vm.findClass RX5 = some m.cls := hown
  have hinX5 : ∀ w ∈ wsX50, w ∈ wsX5_add := by decide +kernel
  have fl9 := hts (.fieldLink RX5 9 "MagpieRuns$Positions" "mine" "[J") (by decide +kernel)
  have fl13 := hts (.fieldLink RX5 13 "MagpieRuns$Positions" "theirs" "[J") (by decide +kernel)
  have fl16 := hts (.fieldLink RX5 16 "MagpieRuns$Positions" "dice" "[I") (by decide +kernel)
  have fl20 := hts (.fieldLink RX5 20 "MagpieRuns$Positions" "size" "I") (by decide +kernel)
  have hl : lv_has ls 7 [(0, .ref (ad 0)), (1, .long a1), (3, .long a3), (5, .int a5)] := hl
  have J_63 : ∀ (c_mine : Nat → Int64) (c_theirs : Nat → Int64) (c_dice : Nat → Int32) (c_size : Int32) (H : Heap) (locs : List Loc), va_P D vwCl (wPo cI cJ ad c_mine c_theirs c_dice c_size) H → va_D A (wPo cI cJ ad c_mine c_theirs c_dice c_size) → va_S A z.heap H locs → ∀ ls : Array Slot, lv_has ls 7 [(0, .ref (ad 0)), (1, .long a1), (3, .long a3), (5, .int a5)] → mX5_add_63 a1 a3 a5 c_mine c_theirs c_dice c_size = some (c_mine', c_theirs', c_dice', c_size') → W p l e rmX5_add z m ([.ref (ad 0), .long a1, .long a3, .int a5] : List Value).toArray below meth c H locs 0 0 (k_Qv below ([.ref (ad 0), .long a1, .long a3, .int a5] : List Value) D (kT cI cJ cC cG) z A (wPo cI cJ ad c_mine' c_theirs' c_dice' c_size')) (F0 m 63 ls []) := by
    intro c_mine c_theirs c_dice c_size H locs hP hD hS ls hl hm
    unfold mX5_add_63 at hm
    refine lv_aload_n hx hb dX5_add_63 rfl (lv_at hl 0 rfl) ?_
    refine va_get (D := D) (ci := 3) (v := .int c_size) (C := RX5) (T := TX5) (N := 4) hx hb hts hinX5 hown hK hP 0 rfl rfl 3 (by decide) fl20 (fun _ h9 => h9) rfl dX5_add_64 ?_
    refine lv_if_lt (tgt := 121) hx hb dX5_add_67 (by decide) (fun cc67 => ?_) (fun cc67 => ?_)
    · have hm := k_ip cc67 hm
      cases hm
      exact k_end_v hx hb hr hlocks hK hP hD hS dX5_add_121
    · have hm := k_in cc67 hm
      refine lv_aload_n hx hb dX5_add_70 rfl (lv_at hl 0 rfl) ?_
      refine va_get (D := D) (ci := 3) (v := .int c_size) (C := RX5) (T := TX5) (N := 4) hx hb hts hinX5 hown hK hP 0 rfl rfl 3 (by decide) fl20 (fun _ h9 => h9) rfl dX5_add_71 ?_
      refine lv_sipush (v := 128) hx hb dX5_add_74 (by decide) ?_
      refine lv_icmp_ge (tgt := 121) hx hb dX5_add_77 (by decide) (fun cc77 => ?_) (fun cc77 => ?_)
      · have hm := k_ip cc77 hm
        cases hm
        exact k_end_v hx hb hr hlocks hK hP hD hS dX5_add_121
      · have hm := k_in cc77 hm
        refine lv_aload_n hx hb dX5_add_80 rfl (lv_at hl 0 rfl) ?_
        refine va_get (D := D) (ci := 3) (v := .ref (ad 1)) (C := RX5) (T := TX5) (N := 4) hx hb hts hinX5 hown hK hP 0 rfl rfl 0 (by decide) fl9 (fun _ h9 => h9) rfl dX5_add_81 ?_
        refine lv_aload_n hx hb dX5_add_84 rfl (lv_at hl 0 rfl) ?_
        refine va_get (D := D) (ci := 3) (v := .int c_size) (C := RX5) (T := TX5) (N := 4) hx hb hts hinX5 hown hK hP 0 rfl rfl 3 (by decide) fl20 (fun _ h9 => h9) rfl dX5_add_85 ?_
        refine lv_lload_n hx hb dX5_add_88 rfl (lv_at hl 1 rfl) ?_
        obtain ⟨gi89, hm⟩ := k_gs hm
        refine va_last hx hb hK hP hD hS 1 1 rfl rfl gi89 dX5_add_89 (fun H locs hP hD hS => ?_)
        have hP : va_P D vwCl (wPo cI cJ ad (vp_updL c_mine (Int32.toNatClampNeg c_size) a1) c_theirs c_dice c_size) H := hP
        have hD : va_D A (wPo cI cJ ad (vp_updL c_mine (Int32.toNatClampNeg c_size) a1) c_theirs c_dice c_size) := hD
        refine lv_aload_n hx hb dX5_add_90 rfl (lv_at hl 0 rfl) ?_
        refine va_get (D := D) (ci := 3) (v := .ref (ad 2)) (C := RX5) (T := TX5) (N := 4) hx hb hts hinX5 hown hK hP 0 rfl rfl 1 (by decide) fl13 (fun _ h9 => h9) rfl dX5_add_91 ?_
        refine lv_aload_n hx hb dX5_add_94 rfl (lv_at hl 0 rfl) ?_
        refine va_get (D := D) (ci := 3) (v := .int c_size) (C := RX5) (T := TX5) (N := 4) hx hb hts hinX5 hown hK hP 0 rfl rfl 3 (by decide) fl20 (fun _ h9 => h9) rfl dX5_add_95 ?_
        refine lv_lload_n hx hb dX5_add_98 rfl (lv_at hl 2 rfl) ?_
        obtain ⟨gi99, hm⟩ := k_gs hm
        refine va_last hx hb hK hP hD hS 2 1 rfl rfl gi99 dX5_add_99 (fun H locs hP hD hS => ?_)
        have hP : va_P D vwCl (wPo cI cJ ad (vp_updL c_mine (Int32.toNatClampNeg c_size) a1) (vp_updL c_theirs (Int32.toNatClampNeg c_size) a3) c_dice c_size) H := hP
        have hD : va_D A (wPo cI cJ ad (vp_updL c_mine (Int32.toNatClampNeg c_size) a1) (vp_updL c_theirs (Int32.toNatClampNeg c_size) a3) c_dice c_size) := hD
        refine lv_aload_n hx hb dX5_add_100 rfl (lv_at hl 0 rfl) ?_
        refine va_get (D := D) (ci := 3) (v := .ref (ad 3)) (C := RX5) (T := TX5) (N := 4) hx hb hts hinX5 hown hK hP 0 rfl rfl 2 (by decide) fl16 (fun _ h9 => h9) rfl dX5_add_101 ?_
        refine lv_aload_n hx hb dX5_add_104 rfl (lv_at hl 0 rfl) ?_
        refine va_get (D := D) (ci := 3) (v := .int c_size) (C := RX5) (T := TX5) (N := 4) hx hb hts hinX5 hown hK hP 0 rfl rfl 3 (by decide) fl20 (fun _ h9 => h9) rfl dX5_add_105 ?_
        refine lv_iload hx hb dX5_add_108 (lv_at hl 3 rfl) ?_
        obtain ⟨gi110, hm⟩ := k_gs hm
        refine va_iast hx hb hK hP hD hS 3 0 rfl rfl gi110 dX5_add_110 (fun H locs hP hD hS => ?_)
        have hP : va_P D vwCl (wPo cI cJ ad (vp_updL c_mine (Int32.toNatClampNeg c_size) a1) (vp_updL c_theirs (Int32.toNatClampNeg c_size) a3) (upd c_dice (Int32.toNatClampNeg c_size) a5) c_size) H := hP
        have hD : va_D A (wPo cI cJ ad (vp_updL c_mine (Int32.toNatClampNeg c_size) a1) (vp_updL c_theirs (Int32.toNatClampNeg c_size) a3) (upd c_dice (Int32.toNatClampNeg c_size) a5) c_size) := hD
        refine lv_aload_n hx hb dX5_add_111 rfl (lv_at hl 0 rfl) ?_
        refine lv_dup hx hb dX5_add_112 rfl ?_
        refine va_get (D := D) (ci := 3) (v := .int c_size) (C := RX5) (T := TX5) (N := 4) hx hb hts hinX5 hown hK hP 0 rfl rfl 3 (by decide) fl20 (fun _ h9 => h9) rfl dX5_add_113 ?_
        refine lv_iconst (v := 1) hx hb dX5_add_116 (by decide) ?_
        refine lv_iadd hx hb dX5_add_117 ?_
        refine va_put (D := D) (ci := 3) (v := .int (c_size + 1)) (ty := .int) (C := RX5) (T := TX5) (N := 4) hx hb hts hinX5 tyX5 tyX5_ok nmX5 hown hK hP hD hS 0 rfl rfl 3 (by decide) fl20 (fun _ h9 => h9) rfl (by decide +kernel) rfl rfl (Nat.le_of_ble_eq_true rfl) dX5_add_118 (fun H locs hP hD hS => ?_)
        have hP : va_P D vwCl (wPo cI cJ ad (vp_updL c_mine (Int32.toNatClampNeg c_size) a1) (vp_updL c_theirs (Int32.toNatClampNeg c_size) a3) (upd c_dice (Int32.toNatClampNeg c_size) a5) (c_size + 1)) H := hP
        have hD : va_D A (wPo cI cJ ad (vp_updL c_mine (Int32.toNatClampNeg c_size) a1) (vp_updL c_theirs (Int32.toNatClampNeg c_size) a3) (upd c_dice (Int32.toNatClampNeg c_size) a5) (c_size + 1)) := hD
        cases hm
        exact k_end_v hx hb hr hlocks hK hP hD hS dX5_add_121
  have J_3 := k_loop (z := fun _ _ _ _ _ => none) (st := mX5_add_3 a1 a3 a5) (fun k3 : (Int32) → (Nat → Int64) → (Nat → Int64) → (Nat → Int32) → (Int32) → Option ((Nat → Int64) × (Nat → Int64) × (Nat → Int32) × (Int32)) => ∀ (l6 : Int32) (c_mine : Nat → Int64) (c_theirs : Nat → Int64) (c_dice : Nat → Int32) (c_size : Int32) (H : Heap) (locs : List Loc), va_P D vwCl (wPo cI cJ ad c_mine c_theirs c_dice c_size) H → va_D A (wPo cI cJ ad c_mine c_theirs c_dice c_size) → va_S A z.heap H locs → ∀ ls : Array Slot, lv_has ls 7 [(0, .ref (ad 0)), (1, .long a1), (3, .long a3), (5, .int a5), (6, .int l6)] → k3 l6 c_mine c_theirs c_dice c_size = some (c_mine', c_theirs', c_dice', c_size') → W p l e rmX5_add z m ([.ref (ad 0), .long a1, .long a3, .int a5] : List Value).toArray below meth c H locs 0 0 (k_Qv below ([.ref (ad 0), .long a1, .long a3, .int a5] : List Value) D (kT cI cJ cC cG) z A (wPo cI cJ ad c_mine' c_theirs' c_dice' c_size')) (F0 m 3 ls [])) (by intros; contradiction) (by
    intro k3 ih3
    intro l6 c_mine c_theirs c_dice c_size H locs hP hD hS ls hl hm
    unfold mX5_add_3 at hm
    refine lv_iload hx hb dX5_add_3 (lv_at hl 4 rfl) ?_
    refine lv_aload_n hx hb dX5_add_5 rfl (lv_at hl 0 rfl) ?_
    refine va_get (D := D) (ci := 3) (v := .int c_size) (C := RX5) (T := TX5) (N := 4) hx hb hts hinX5 hown hK hP 0 rfl rfl 3 (by decide) fl20 (fun _ h9 => h9) rfl dX5_add_6 ?_
    refine lv_icmp_ge (tgt := 63) hx hb dX5_add_9 (by decide) (fun cc9 => ?_) (fun cc9 => ?_)
    · have hm := k_ip cc9 hm
      exact J_63 c_mine c_theirs c_dice c_size _ _ hP hD hS _ (lv_sub hl [0, 1, 2, 3] rfl) hm
    · have hm := k_in cc9 hm
      refine lv_iload hx hb dX5_add_12 (lv_at hl 4 rfl) ?_
      refine lv_sipush (v := 128) hx hb dX5_add_14 (by decide) ?_
      refine lv_icmp_ge (tgt := 63) hx hb dX5_add_17 (by decide) (fun cc17 => ?_) (fun cc17 => ?_)
      · have hm := k_ip cc17 hm
        exact J_63 c_mine c_theirs c_dice c_size _ _ hP hD hS _ (lv_sub hl [0, 1, 2, 3] rfl) hm
      · have hm := k_in cc17 hm
        refine lv_aload_n hx hb dX5_add_20 rfl (lv_at hl 0 rfl) ?_
        refine va_get (D := D) (ci := 3) (v := .ref (ad 1)) (C := RX5) (T := TX5) (N := 4) hx hb hts hinX5 hown hK hP 0 rfl rfl 0 (by decide) fl9 (fun _ h9 => h9) rfl dX5_add_21 ?_
        refine lv_iload hx hb dX5_add_24 (lv_at hl 4 rfl) ?_
        obtain ⟨gi26, hm⟩ := k_gs hm
        refine va_lald hx hb hK hP 1 1 rfl rfl gi26 dX5_add_26 ?_
        refine lv_lload_n hx hb dX5_add_27 rfl (lv_at hl 1 rfl) ?_
        refine W.lcmp hx hb dX5_add_28 ?_
        refine lv_if_ne (tgt := 57) hx hb dX5_add_29 (by decide) (fun cc29 => ?_) (fun cc29 => ?_)
        · have hm := k_in cc29 hm
          refine lv_iinc (v := (l6 + 1)) (lv' := [(6, .int (l6 + 1)), (0, .ref (ad 0)), (1, .long a1), (3, .long a3), (5, .int a5)]) hx hb dX5_add_57 hl (k := 4) rfl rfl (by decide) rfl (fun ls hl => ?_)
          refine lv_goto (tgt := 3) hx hb dX5_add_60 (by decide) ?_
          exact ih3 (l6 + 1) c_mine c_theirs c_dice c_size _ _ hP hD hS _ (lv_sub hl [1, 2, 3, 4, 0] rfl) hm
        · have hm := k_ip cc29 hm
          refine lv_aload_n hx hb dX5_add_32 rfl (lv_at hl 0 rfl) ?_
          refine va_get (D := D) (ci := 3) (v := .ref (ad 2)) (C := RX5) (T := TX5) (N := 4) hx hb hts hinX5 hown hK hP 0 rfl rfl 1 (by decide) fl13 (fun _ h9 => h9) rfl dX5_add_33 ?_
          refine lv_iload hx hb dX5_add_36 (lv_at hl 4 rfl) ?_
          obtain ⟨gi38, hm⟩ := k_gs hm
          refine va_lald hx hb hK hP 2 1 rfl rfl gi38 dX5_add_38 ?_
          refine lv_lload_n hx hb dX5_add_39 rfl (lv_at hl 2 rfl) ?_
          refine W.lcmp hx hb dX5_add_40 ?_
          refine lv_if_ne (tgt := 57) hx hb dX5_add_41 (by decide) (fun cc41 => ?_) (fun cc41 => ?_)
          · have hm := k_in cc41 hm
            refine lv_iinc (v := (l6 + 1)) (lv' := [(6, .int (l6 + 1)), (0, .ref (ad 0)), (1, .long a1), (3, .long a3), (5, .int a5)]) hx hb dX5_add_57 hl (k := 4) rfl rfl (by decide) rfl (fun ls hl => ?_)
            refine lv_goto (tgt := 3) hx hb dX5_add_60 (by decide) ?_
            exact ih3 (l6 + 1) c_mine c_theirs c_dice c_size _ _ hP hD hS _ (lv_sub hl [1, 2, 3, 4, 0] rfl) hm
          · have hm := k_ip cc41 hm
            refine lv_aload_n hx hb dX5_add_44 rfl (lv_at hl 0 rfl) ?_
            refine va_get (D := D) (ci := 3) (v := .ref (ad 3)) (C := RX5) (T := TX5) (N := 4) hx hb hts hinX5 hown hK hP 0 rfl rfl 2 (by decide) fl16 (fun _ h9 => h9) rfl dX5_add_45 ?_
            refine lv_iload hx hb dX5_add_48 (lv_at hl 4 rfl) ?_
            obtain ⟨gi50, hm⟩ := k_gs hm
            refine va_iald hx hb hK hP 3 0 rfl rfl gi50 dX5_add_50 ?_
            refine lv_iload hx hb dX5_add_51 (lv_at hl 3 rfl) ?_
            refine lv_icmp_ne (tgt := 57) hx hb dX5_add_53 (by decide) (fun cc53 => ?_) (fun cc53 => ?_)
            · have hm := k_in cc53 hm
              refine lv_iinc (v := (l6 + 1)) (lv' := [(6, .int (l6 + 1)), (0, .ref (ad 0)), (1, .long a1), (3, .long a3), (5, .int a5)]) hx hb dX5_add_57 hl (k := 4) rfl rfl (by decide) rfl (fun ls hl => ?_)
              refine lv_goto (tgt := 3) hx hb dX5_add_60 (by decide) ?_
              exact ih3 (l6 + 1) c_mine c_theirs c_dice c_size _ _ hP hD hS _ (lv_sub hl [1, 2, 3, 4, 0] rfl) hm
            · have hm := k_ip cc53 hm
              cases hm
              exact k_end_v hx hb hr hlocks hK hP hD hS dX5_add_56) k_F
  unfold mX5_add at hm
  refine lv_iconst (v := 0) hx hb dX5_add_0 (by decide) ?_
  refine lv_istore (lv' := [(6, .int 0), (0, .ref (ad 0)), (1, .long a1), (3, .long a3), (5, .int a5)]) hx hb dX5_add_1 hl (by decide) rfl (fun ls hl => ?_)
  exact J_3 0 c_mine c_theirs c_dice c_size _ _ hP hD hS _ (lv_sub hl [1, 2, 3, 4, 0] rfl) hm

