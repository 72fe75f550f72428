abbrev rmX5_isIn : Room := { frames := 0, cells := 0, slots := 0, locals := 0 }
set_option maxHeartbeats 4000000 in
set_option maxRecDepth 100000 in
theorem zX5_isIn {l : Launch} {D : va_G} {cI cJ cC cG : ClassId} {sz : Nat} {ad : Nat → Nat} {c_mine : Nat → Int64} {c_theirs : Nat → Int64} {c_dice : Nat → Int32} {c_size : Int32} {a1 : Int32} {r : Bool} (hm : mX5_isIn c_size a1 = some (r)) : k_Mi l yX5_isIn wsX5_isIn rmX5_isIn D (kT cI cJ cC cG) sz ([.ref (ad 0), .int a1] : List Value) (wPo cI cJ ad c_mine c_theirs c_dice c_size) (wPo cI cJ ad c_mine c_theirs c_dice c_size) (k_b r) := by
  refine k_st_i (cc := cX5_isIn) (maxL := 2) (by decide) rfl (Nat.le_of_ble_eq_true rfl) ?_
  intro p e z m below meth c A hx hb hr hml hts hown hlocks hsz hN hA hK hP hD hS ls hl
  have hown : z.vm.findClass RX5 = some m.cls := hown
  have hinX5 : ∀ w ∈ wsX50, w ∈ wsX5_isIn := by decide +kernel
  have fl20 := hts (.fieldLink RX5 20 "MagpieRuns$Positions" "size" "I") (by decide +kernel)
  have hl : lv_has ls 2 [(0, .ref (ad 0)), (1, .int a1)] := hl
  unfold mX5_isIn at hm
  refine lv_iload_n hx hb dX5_isIn_0 rfl (lv_at hl 1 rfl) ?_
  refine lv_if_lt (tgt := 23) hx hb dX5_isIn_1 (by decide) (fun cc1 => ?_) (fun cc1 => ?_)
  · have hm := k_ip cc1 hm
    refine lv_iconst (v := 0) hx hb dX5_isIn_23 (by decide) ?_
    cases hm
    exact k_end_z false hx hb hr hlocks hK hP hD hS dX5_isIn_24
  · have hm := k_in cc1 hm
    refine lv_iload_n hx hb dX5_isIn_4 rfl (lv_at hl 1 rfl) ?_
    refine lv_aload_n hx hb dX5_isIn_5 rfl (lv_at hl 0 rfl) ?_
    refine va_get (D := D) (ci := 3) (v := .int c_size) (C := RX5) (T := TX5) (N := 4) hx hb hts hinX5 hown hK hP 0 rfl rfl 3 (by decide) fl20 (fun _ h9 => h9) rfl dX5_isIn_6 ?_
    refine lv_icmp_ge (tgt := 23) hx hb dX5_isIn_9 (by decide) (fun cc9 => ?_) (fun cc9 => ?_)
    · have hm := k_ip cc9 hm
      refine lv_iconst (v := 0) hx hb dX5_isIn_23 (by decide) ?_
      cases hm
      exact k_end_z false hx hb hr hlocks hK hP hD hS dX5_isIn_24
    · have hm := k_in cc9 hm
      refine lv_iload_n hx hb dX5_isIn_12 rfl (lv_at hl 1 rfl) ?_
      refine lv_sipush (v := 128) hx hb dX5_isIn_13 (by decide) ?_
      refine lv_icmp_ge (tgt := 23) hx hb dX5_isIn_16 (by decide) (fun cc16 => ?_) (fun cc16 => ?_)
      · have hm := k_ip cc16 hm
        refine lv_iconst (v := 0) hx hb dX5_isIn_23 (by decide) ?_
        cases hm
        exact k_end_z false hx hb hr hlocks hK hP hD hS dX5_isIn_24
      · have hm := k_in cc16 hm
        refine lv_iconst (v := 1) hx hb dX5_isIn_19 (by decide) ?_
        refine lv_goto (tgt := 24) hx hb dX5_isIn_20 (by decide) ?_
        cases hm
        exact k_end_z true hx hb hr hlocks hK hP hD hS dX5_isIn_24

abbrev rmX5_mineAt : Room := { frames := 1, cells := 0, slots := 0, locals := 21 }
set_option maxHeartbeats 4000000 in
set_option maxRecDepth 100000 in
theorem zX5_mineAt {l : Launch} {D : va_G} {cI cJ cC cG : ClassId} {sz : Nat} {ad : Nat → Nat} {c_mine : Nat → Int64} {c_theirs : Nat → Int64} {c_dice : Nat → Int32} {c_size : Int32} {a1 : Int32} {r : Int64} (hm : mX5_mineAt c_mine c_size a1 = some (r)) : k_Ml l yX5_mineAt wsX5_mineAt rmX5_mineAt D (kT cI cJ cC cG) sz ([.ref (ad 0), .int a1] : List Value) (wPo cI cJ ad c_mine c_theirs c_dice c_size) (wPo cI cJ ad c_mine c_theirs c_dice c_size) r := by
  refine k_st_l (cc := cX5_mineAt) (maxL := 2) (by decide) rfl (Nat.le_of_ble_eq_true rfl) ?_
  intro p e z m below meth c A hx hb hr hml hts hown hlocks hsz hN hA hK hP hD hS ls hl
  have hown : z.vm.findClass RX5 = some m.cls := hown
  have hinX5 : ∀ w ∈ wsX50, w ∈ wsX5_mineAt := by decide +kernel
  have fl9 := hts (.fieldLink RX5 9 "MagpieRuns$Positions" "mine" "[J") (by decide +kernel)
  have hl : lv_has ls 2 [(0, .ref (ad 0)), (1, .int a1)] := hl
  unfold mX5_mineAt at hm
  refine lv_aload_n hx hb dX5_mineAt_0 rfl (lv_at hl 0 rfl) ?_
  refine lv_iload_n hx hb dX5_mineAt_1 rfl (lv_at hl 1 rfl) ?_
  obtain ⟨r1, hc2, hm⟩ := k_bds hm
  refine k_i_s (k_rV (As := [.int a1]) (rest := []) ⟨hx, hb, hml, hown, hts⟩ hK hN hP hD (zX5_isIn hc2) (cwV 1 hts gX5_mineAt_X5_isIn rfl rfl rfl (by decide +kernel) ⟨Nat.le_of_ble_eq_true rfl, Nat.le_of_ble_eq_true rfl⟩) rfl rfl rfl hl.1 rfl (Nat.le_of_ble_eq_true rfl) dX5_mineAt_2 ⟨Nat.zero_le _, Nat.zero_le _⟩) hD hS hA (fun H locs hP hD hS => ?_)
  refine lv_if_eq (tgt := 17) hx hb dX5_mineAt_5 (by decide) (fun cc5 => ?_) (fun cc5 => ?_)
  · have hm := k_ip cc5 hm
    refine lv_lconst (v := 0) hx hb dX5_mineAt_17 (by decide) ?_
    cases hm
    exact k_end_l hx hb hr hlocks hK hP hD hS dX5_mineAt_18
  · have hm := k_in cc5 hm
    refine lv_aload_n hx hb dX5_mineAt_8 rfl (lv_at hl 0 rfl) ?_
    refine va_get (D := D) (ci := 3) (v := .ref (ad 1)) (C := RX5) (T := TX5) (N := 4) hx hb hts hinX5 hown hK hP 0 rfl rfl 0 (by decide) fl9 (fun _ h9 => h9) rfl dX5_mineAt_9 ?_
    refine lv_iload_n hx hb dX5_mineAt_12 rfl (lv_at hl 1 rfl) ?_
    obtain ⟨gi13, hm⟩ := k_gs hm
    refine va_lald hx hb hK hP 1 1 rfl rfl gi13 dX5_mineAt_13 ?_
    refine lv_goto (tgt := 18) hx hb dX5_mineAt_14 (by decide) ?_
    cases hm
    exact k_end_l hx hb hr hlocks hK hP hD hS dX5_mineAt_18

abbrev rmX5_theirsAt : Room := { frames := 1, cells := 0, slots := 0, locals := 21 }
set_option maxHeartbeats 4000000 in
set_option maxRecDepth 100000 in
theorem zX5_theirsAt {l : Launch} {D : va_G} {cI cJ cC cG : ClassId} {sz : Nat} {ad : Nat → Nat} {c_mine : Nat → Int64} {c_theirs : Nat → Int64} {c_dice : Nat → Int32} {c_size : Int32} {a1 : Int32} {r : Int64} (hm : mX5_theirsAt c_theirs c_size a1 = some (r)) : k_Ml l yX5_theirsAt wsX5_theirsAt rmX5_theirsAt D (kT cI cJ cC cG) sz ([.ref (ad 0), .int a1] : List Value) (wPo cI cJ ad c_mine c_theirs c_dice c_size) (wPo cI cJ ad c_mine c_theirs c_dice c_size) r := by
  refine k_st_l (cc := cX5_theirsAt) (maxL := 2) (by decide) rfl (Nat.le_of_ble_eq_true rfl) ?_
  intro p e z m below meth c A hx hb hr hml hts hown hlocks hsz hN hA hK hP hD hS ls hl
  have hown : z.vm.findClass RX5 = some m.cls := hown
  have hinX5 : ∀ w ∈ wsX50, w ∈ wsX5_theirsAt := by decide +kernel
  have fl13 := hts (.fieldLink RX5 13 "MagpieRuns$Positions" "theirs" "[J") (by decide +kernel)
  have hl : lv_has ls 2 [(0, .ref (ad 0)), (1, .int a1)] := hl
  unfold mX5_theirsAt at hm
  refine lv_aload_n hx hb dX5_theirsAt_0 rfl (lv_at hl 0 rfl) ?_
  refine lv_iload_n hx hb dX5_theirsAt_1 rfl (lv_at hl 1 rfl) ?_
  obtain ⟨r1, hc2, hm⟩ := k_bds hm
  refine k_i_s (k_rV (As := [.int a1]) (rest := []) ⟨hx, hb, hml, hown, hts⟩ hK hN hP hD (zX5_isIn hc2) (cwV 1 hts gX5_theirsAt_X5_isIn rfl rfl rfl (by decide +kernel) ⟨Nat.le_of_ble_eq_true rfl, Nat.le_of_ble_eq_true rfl⟩) rfl rfl rfl hl.1 rfl (Nat.le_of_ble_eq_true rfl) dX5_theirsAt_2 ⟨Nat.zero_le _, Nat.zero_le _⟩) hD hS hA (fun H locs hP hD hS => ?_)
  refine lv_if_eq (tgt := 17) hx hb dX5_theirsAt_5 (by decide) (fun cc5 => ?_) (fun cc5 => ?_)
  · have hm := k_ip cc5 hm
    refine lv_lconst (v := 0) hx hb dX5_theirsAt_17 (by decide) ?_
    cases hm
    exact k_end_l hx hb hr hlocks hK hP hD hS dX5_theirsAt_18
  · have hm := k_in cc5 hm
    refine lv_aload_n hx hb dX5_theirsAt_8 rfl (lv_at hl 0 rfl) ?_
    refine va_get (D := D) (ci := 3) (v := .ref (ad 2)) (C := RX5) (T := TX5) (N := 4) hx hb hts hinX5 hown hK hP 0 rfl rfl 1 (by decide) fl13 (fun _ h9 => h9) rfl dX5_theirsAt_9 ?_
    refine lv_iload_n hx hb dX5_theirsAt_12 rfl (lv_at hl 1 rfl) ?_
    obtain ⟨gi13, hm⟩ := k_gs hm
    refine va_lald hx hb hK hP 2 1 rfl rfl gi13 dX5_theirsAt_13 ?_
    refine lv_goto (tgt := 18) hx hb dX5_theirsAt_14 (by decide) ?_
    cases hm
    exact k_end_l hx hb hr hlocks hK hP hD hS dX5_theirsAt_18

abbrev rmX5_diceAt : Room := { frames := 1, cells := 0, slots := 0, locals := 21 }
set_option maxHeartbeats 4000000 in
set_option maxRecDepth 100000 in
theorem zX5_diceAt {l : Launch} {D : va_G} {cI cJ cC cG : ClassId} {sz : Nat} {ad : Nat → Nat} {c_mine : Nat → Int64} {c_theirs : Nat → Int64} {c_dice : Nat → Int32} {c_size : Int32} {a1 : Int32} {r : Int32} (hm : mX5_diceAt c_dice c_size a1 = some (r)) : k_Mi l yX5_diceAt wsX5_diceAt rmX5_diceAt D (kT cI cJ cC cG) sz ([.ref (ad 0), .int a1] : List Value) (wPo cI cJ ad c_mine c_theirs c_dice c_size) (wPo cI cJ ad c_mine c_theirs c_dice c_size) r := by
  refine k_st_i (cc := cX5_diceAt) (maxL := 2) (by decide) rfl (Nat.le_of_ble_eq_true rfl) ?_
  intro p e z m below meth c A hx hb hr hml hts hown hlocks hsz hN hA hK hP hD hS ls hl
  have hown : z.vm.findClass RX5 = some m.cls := hown
  have hinX5 : ∀ w ∈ wsX50, w ∈ wsX5_diceAt := by decide +kernel
  have fl16 := hts (.fieldLink RX5 16 "MagpieRuns$Positions" "dice" "[I") (by decide +kernel)
  have hl : lv_has ls 2 [(0, .ref (ad 0)), (1, .int a1)] := hl
  unfold mX5_diceAt at hm
  refine lv_aload_n hx hb dX5_diceAt_0 rfl (lv_at hl 0 rfl) ?_
  refine lv_iload_n hx hb dX5_diceAt_1 rfl (lv_at hl 1 rfl) ?_
  obtain ⟨r1, hc2, hm⟩ := k_bds hm
  refine k_i_s (k_rV (As := [.int a1]) (rest := []) ⟨hx, hb, hml, hown, hts⟩ hK hN hP hD (zX5_isIn hc2) (cwV 1 hts gX5_diceAt_X5_isIn rfl rfl rfl (by decide +kernel) ⟨Nat.le_of_ble_eq_true rfl, Nat.le_of_ble_eq_true rfl⟩) rfl rfl rfl hl.1 rfl (Nat.le_of_ble_eq_true rfl) dX5_diceAt_2 ⟨Nat.zero_le _, Nat.zero_le _⟩) hD hS hA (fun H locs hP hD hS => ?_)
  refine lv_if_eq (tgt := 17) hx hb dX5_diceAt_5 (by decide) (fun cc5 => ?_) (fun cc5 => ?_)
  · have hm := k_ip cc5 hm
    refine lv_iconst (v := 0) hx hb dX5_diceAt_17 (by decide) ?_
    cases hm
    exact k_end_i hx hb hr hlocks hK hP hD hS dX5_diceAt_18
  · have hm := k_in cc5 hm
    refine lv_aload_n hx hb dX5_diceAt_8 rfl (lv_at hl 0 rfl) ?_
    refine va_get (D := D) (ci := 3) (v := .ref (ad 3)) (C := RX5) (T := TX5) (N := 4) hx hb hts hinX5 hown hK hP 0 rfl rfl 2 (by decide) fl16 (fun _ h9 => h9) rfl dX5_diceAt_9 ?_
    refine lv_iload_n hx hb dX5_diceAt_12 rfl (lv_at hl 1 rfl) ?_
    obtain ⟨gi13, hm⟩ := k_gs hm
    refine va_iald hx hb hK hP 3 0 rfl rfl gi13 dX5_diceAt_13 ?_
    refine lv_goto (tgt := 18) hx hb dX5_diceAt_14 (by decide) ?_
    cases hm
    exact k_end_i hx hb hr hlocks hK hP hD hS dX5_diceAt_18

abbrev rmX5_clear : Room := { frames := 0, cells := 0, slots := 0, locals := 0 }
set_option maxHeartbeats 4000000 in
set_option maxRecDepth 100000 in
theorem zX5_clear {l : Launch} {D : va_G} {cI cJ cC cG : ClassId} {sz : Nat} {ad : Nat → Nat} {c_mine : Nat → Int64} {c_theirs : Nat → Int64} {c_dice : Nat → Int32} {c_size : Int32} {c_size' : Int32} (hm : mX5_clear c_size = some (c_size')) : k_Mv l yX5_clear wsX5_clear rmX5_clear D (kT cI cJ cC cG) sz ([.ref (ad 0)] : List Value) (wPo cI cJ ad c_mine c_theirs c_dice c_size) (wPo cI cJ ad c_mine c_theirs c_dice c_size') := by
  refine k_st_v (cc := cX5_clear) (maxL := 1) (by decide) rfl (Nat.le_of_ble_eq_true rfl) ?_
  intro p e z m below meth c A hx hb hr hml hts hown hlocks hsz hN hA hK hP hD hS ls hl
  have hown : z.vm.findClass RX5 = some m.cls := hown
  have hinX5 : ∀ w ∈ wsX50, w ∈ wsX5_clear := by decide +kernel
  have fl20 := hts (.fieldLink RX5 20 "MagpieRuns$Positions" "size" "I") (by decide +kernel)
  have hl : lv_has ls 1 [(0, .ref (ad 0))] := hl
  unfold mX5_clear at hm
  refine lv_aload_n hx hb dX5_clear_0 rfl (lv_at hl 0 rfl) ?_
  refine lv_iconst (v := 0) hx hb dX5_clear_1 (by decide) ?_
  refine va_put (D := D) (ci := 3) (v := .int 0) (ty := .int) (C := RX5) (T := TX5) (N := 4) hx hb hts hinX5 tyX5 tyX5_ok nmX5 hown hK hP hD hS 0 rfl rfl 3 (by decide) fl20 (fun _ h9 => h9) rfl (by decide +kernel) rfl rfl (Nat.le_of_ble_eq_true rfl) dX5_clear_2 (fun H locs hP hD hS => ?_)
  have hP : va_P D vwCl (wPo cI cJ ad c_mine c_theirs c_dice 0) H := hP
  have hD : va_D A (wPo cI cJ ad c_mine c_theirs c_dice 0) := hD
  cases hm
  exact k_end_v hx hb hr hlocks hK hP hD hS dX5_clear_5

abbrev rmX5_add : Room := { frames := 0, cells := 0, slots := 0, locals := 0 }
set_option maxHeartbeats 4000000 in
set_option maxRecDepth 100000 in
theorem zX5_add {l : Launch} {D : va_G} {cI cJ cC cG : ClassId} {sz : Nat} {ad : Nat → Nat} {c_mine : Nat → Int64} {c_theirs : Nat → Int64} {c_dice : Nat → Int32} {c_size : Int32} {a1 : Int64} {a3 : Int64} {a5 : Int32} {c_mine' : Nat → Int64} {c_theirs' : Nat → Int64} {c_dice' : Nat → Int32} {c_size' : Int32} (hm : mX5_add c_mine c_theirs c_dice c_size a1 a3 a5 = some (c_mine', c_theirs', c_dice', c_size')) : k_Mv l yX5_add wsX5_add rmX5_add D (kT cI cJ cC cG) sz ([.ref (ad 0), .long a1, .long a3, .int a5] : List Value) (wPo cI cJ ad c_mine c_theirs c_dice c_size) (wPo cI cJ ad c_mine' c_theirs' c_dice' c_size') := by
  refine k_st_v (cc := cX5_add) (maxL := 7) (by decide) rfl (Nat.le_of_ble_eq_true rfl) ?_
  intro p e z m below meth c A hx hb hr hml hts hown hlocks hsz hN hA hK hP hD hS ls hl
  have hown : z.vm.findClass RX5 = some m.cls := hown
  have hinX5 : ∀ w ∈ wsX50, w ∈ wsX5_add := by decide +kernel
  have fl9 := hts (.fieldLink RX5 9 "MagpieRuns$Positions" "mine" "[J") (by decide +kernel)
  have fl13 := hts (.fieldLink RX5 13 "MagpieRuns$Positions" "theirs" "[J") (by decide +kernel)
  have fl16 := hts (.fieldLink RX5 16 "MagpieRuns$Positions" "dice" "[I") (by decide +kernel)
  have fl20 := hts (.fieldLink RX5 20 "MagpieRuns$Positions" "size" "I") (by decide +kernel)
  have hl : lv_has ls 7 [(0, .ref (ad 0)), (1, .long a1), (3, .long a3), (5, .int a5)] := hl
  have J_63 : ∀ (c_mine : Nat → Int64) (c_theirs : Nat → Int64) (c_dice : Nat → Int32) (c_size : Int32) (H : Heap) (locs : List Loc), va_P D vwCl (wPo cI cJ ad c_mine c_theirs c_dice c_size) H → va_D A (wPo cI cJ ad c_mine c_theirs c_dice c_size) → va_S A z.heap H locs → ∀ ls : Array Slot, lv_has ls 7 [(0, .ref (ad 0)), (1, .long a1), (3, .long a3), (5, .int a5)] → mX5_add_63 a1 a3 a5 c_mine c_theirs c_dice c_size = some (c_mine', c_theirs', c_dice', c_size') → W p l e rmX5_add z m ([.ref (ad 0), .long a1, .long a3, .int a5] : List Value).toArray below meth c H locs 0 0 (k_Qv below ([.ref (ad 0), .long a1, .long a3, .int a5] : List Value) D (kT cI cJ cC cG) z A (wPo cI cJ ad c_mine' c_theirs' c_dice' c_size')) (F0 m 63 ls []) := by
    intro c_mine c_theirs c_dice c_size H locs hP hD hS ls hl hm
    unfold mX5_add_63 at hm
    refine lv_aload_n hx hb dX5_add_63 rfl (lv_at hl 0 rfl) ?_
    refine va_get (D := D) (ci := 3) (v := .int c_size) (C := RX5) (T := TX5) (N := 4) hx hb hts hinX5 hown hK hP 0 rfl rfl 3 (by decide) fl20 (fun _ h9 => h9) rfl dX5_add_64 ?_
    refine lv_if_lt (tgt := 121) hx hb dX5_add_67 (by decide) (fun cc67 => ?_) (fun cc67 => ?_)
    · have hm := k_ip cc67 hm
      cases hm
      exact k_end_v hx hb hr hlocks hK hP hD hS dX5_add_121
    · have hm := k_in cc67 hm
      refine lv_aload_n hx hb dX5_add_70 rfl (lv_at hl 0 rfl) ?_
      refine va_get (D := D) (ci := 3) (v := .int c_size) (C := RX5) (T := TX5) (N := 4) hx hb hts hinX5 hown hK hP 0 rfl rfl 3 (by decide) fl20 (fun _ h9 => h9) rfl dX5_add_71 ?_
      refine lv_sipush (v := 128) hx hb dX5_add_74 (by decide) ?_
      refine lv_icmp_ge (tgt := 121) hx hb dX5_add_77 (by decide) (fun cc77 => ?_) (fun cc77 => ?_)
      · have hm := k_ip cc77 hm
        cases hm
        exact k_end_v hx hb hr hlocks hK hP hD hS dX5_add_121
      · have hm := k_in cc77 hm
        refine lv_aload_n hx hb dX5_add_80 rfl (lv_at hl 0 rfl) ?_
        refine va_get (D := D) (ci := 3) (v := .ref (ad 1)) (C := RX5) (T := TX5) (N := 4) hx hb hts hinX5 hown hK hP 0 rfl rfl 0 (by decide) fl9 (fun _ h9 => h9) rfl dX5_add_81 ?_
        refine lv_aload_n hx hb dX5_add_84 rfl (lv_at hl 0 rfl) ?_
        refine va_get (D := D) (ci := 3) (v := .int c_size) (C := RX5) (T := TX5) (N := 4) hx hb hts hinX5 hown hK hP 0 rfl rfl 3 (by decide) fl20 (fun _ h9 => h9) rfl dX5_add_85 ?_
        refine lv_lload_n hx hb dX5_add_88 rfl (lv_at hl 1 rfl) ?_
        obtain ⟨gi89, hm⟩ := k_gs hm
        refine va_last hx hb hK hP hD hS 1 1 rfl rfl gi89 dX5_add_89 (fun H locs hP hD hS => ?_)
        have hP : va_P D vwCl (wPo cI cJ ad (vp_updL c_mine (Int32.toNatClampNeg c_size) a1) c_theirs c_dice c_size) H := hP
        have hD : va_D A (wPo cI cJ ad (vp_updL c_mine (Int32.toNatClampNeg c_size) a1) c_theirs c_dice c_size) := hD
        refine lv_aload_n hx hb dX5_add_90 rfl (lv_at hl 0 rfl) ?_
        refine va_get (D := D) (ci := 3) (v := .ref (ad 2)) (C := RX5) (T := TX5) (N := 4) hx hb hts hinX5 hown hK hP 0 rfl rfl 1 (by decide) fl13 (fun _ h9 => h9) rfl dX5_add_91 ?_
        refine lv_aload_n hx hb dX5_add_94 rfl (lv_at hl 0 rfl) ?_
        refine va_get (D := D) (ci := 3) (v := .int c_size) (C := RX5) (T := TX5) (N := 4) hx hb hts hinX5 hown hK hP 0 rfl rfl 3 (by decide) fl20 (fun _ h9 => h9) rfl dX5_add_95 ?_
        refine lv_lload_n hx hb dX5_add_98 rfl (lv_at hl 2 rfl) ?_
        obtain ⟨gi99, hm⟩ := k_gs hm
        refine va_last hx hb hK hP hD hS 2 1 rfl rfl gi99 dX5_add_99 (fun H locs hP hD hS => ?_)
        have hP : va_P D vwCl (wPo cI cJ ad (vp_updL c_mine (Int32.toNatClampNeg c_size) a1) (vp_updL c_theirs (Int32.toNatClampNeg c_size) a3) c_dice c_size) H := hP
        have hD : va_D A (wPo cI cJ ad (vp_updL c_mine (Int32.toNatClampNeg c_size) a1) (vp_updL c_theirs (Int32.toNatClampNeg c_size) a3) c_dice c_size) := hD
        refine lv_aload_n hx hb dX5_add_100 rfl (lv_at hl 0 rfl) ?_
        refine va_get (D := D) (ci := 3) (v := .ref (ad 3)) (C := RX5) (T := TX5) (N := 4) hx hb hts hinX5 hown hK hP 0 rfl rfl 2 (by decide) fl16 (fun _ h9 => h9) rfl dX5_add_101 ?_
        refine lv_aload_n hx hb dX5_add_104 rfl (lv_at hl 0 rfl) ?_
        refine va_get (D := D) (ci := 3) (v := .int c_size) (C := RX5) (T := TX5) (N := 4) hx hb hts hinX5 hown hK hP 0 rfl rfl 3 (by decide) fl20 (fun _ h9 => h9) rfl dX5_add_105 ?_
        refine lv_iload hx hb dX5_add_108 (lv_at hl 3 rfl) ?_
        obtain ⟨gi110, hm⟩ := k_gs hm
        refine va_iast hx hb hK hP hD hS 3 0 rfl rfl gi110 dX5_add_110 (fun H locs hP hD hS => ?_)
        have hP : va_P D vwCl (wPo cI cJ ad (vp_updL c_mine (Int32.toNatClampNeg c_size) a1) (vp_updL c_theirs (Int32.toNatClampNeg c_size) a3) (upd c_dice (Int32.toNatClampNeg c_size) a5) c_size) H := hP
        have hD : va_D A (wPo cI cJ ad (vp_updL c_mine (Int32.toNatClampNeg c_size) a1) (vp_updL c_theirs (Int32.toNatClampNeg c_size) a3) (upd c_dice (Int32.toNatClampNeg c_size) a5) c_size) := hD
        refine lv_aload_n hx hb dX5_add_111 rfl (lv_at hl 0 rfl) ?_
        refine lv_dup hx hb dX5_add_112 rfl ?_
        refine va_get (D := D) (ci := 3) (v := .int c_size) (C := RX5) (T := TX5) (N := 4) hx hb hts hinX5 hown hK hP 0 rfl rfl 3 (by decide) fl20 (fun _ h9 => h9) rfl dX5_add_113 ?_
        refine lv_iconst (v := 1) hx hb dX5_add_116 (by decide) ?_
        refine lv_iadd hx hb dX5_add_117 ?_
        refine va_put (D := D) (ci := 3) (v := .int (c_size + 1)) (ty := .int) (C := RX5) (T := TX5) (N := 4) hx hb hts hinX5 tyX5 tyX5_ok nmX5 hown hK hP hD hS 0 rfl rfl 3 (by decide) fl20 (fun _ h9 => h9) rfl (by decide +kernel) rfl rfl (Nat.le_of_ble_eq_true rfl) dX5_add_118 (fun H locs hP hD hS => ?_)
        have hP : va_P D vwCl (wPo cI cJ ad (vp_updL c_mine (Int32.toNatClampNeg c_size) a1) (vp_updL c_theirs (Int32.toNatClampNeg c_size) a3) (upd c_dice (Int32.toNatClampNeg c_size) a5) (c_size + 1)) H := hP
        have hD : va_D A (wPo cI cJ ad (vp_updL c_mine (Int32.toNatClampNeg c_size) a1) (vp_updL c_theirs (Int32.toNatClampNeg c_size) a3) (upd c_dice (Int32.toNatClampNeg c_size) a5) (c_size + 1)) := hD
        cases hm
        exact k_end_v hx hb hr hlocks hK hP hD hS dX5_add_121
  have J_3 := k_loop (z := fun _ _ _ _ _ => none) (st := mX5_add_3 a1 a3 a5) (fun k3 : (Int32) → (Nat → Int64) → (Nat → Int64) → (Nat → Int32) → (Int32) → Option ((Nat → Int64) × (Nat → Int64) × (Nat → Int32) × (Int32)) => ∀ (l6 : Int32) (c_mine : Nat → Int64) (c_theirs : Nat → Int64) (c_dice : Nat → Int32) (c_size : Int32) (H : Heap) (locs : List Loc), va_P D vwCl (wPo cI cJ ad c_mine c_theirs c_dice c_size) H → va_D A (wPo cI cJ ad c_mine c_theirs c_dice c_size) → va_S A z.heap H locs → ∀ ls : Array Slot, lv_has ls 7 [(0, .ref (ad 0)), (1, .long a1), (3, .long a3), (5, .int a5), (6, .int l6)] → k3 l6 c_mine c_theirs c_dice c_size = some (c_mine', c_theirs', c_dice', c_size') → W p l e rmX5_add z m ([.ref (ad 0), .long a1, .long a3, .int a5] : List Value).toArray below meth c H locs 0 0 (k_Qv below ([.ref (ad 0), .long a1, .long a3, .int a5] : List Value) D (kT cI cJ cC cG) z A (wPo cI cJ ad c_mine' c_theirs' c_dice' c_size')) (F0 m 3 ls [])) (by intros; contradiction) (by
    intro k3 ih3
    intro l6 c_mine c_theirs c_dice c_size H locs hP hD hS ls hl hm
    unfold mX5_add_3 at hm
    refine lv_iload hx hb dX5_add_3 (lv_at hl 4 rfl) ?_
    refine lv_aload_n hx hb dX5_add_5 rfl (lv_at hl 0 rfl) ?_
    refine va_get (D := D) (ci := 3) (v := .int c_size) (C := RX5) (T := TX5) (N := 4) hx hb hts hinX5 hown hK hP 0 rfl rfl 3 (by decide) fl20 (fun _ h9 => h9) rfl dX5_add_6 ?_
    refine lv_icmp_ge (tgt := 63) hx hb dX5_add_9 (by decide) (fun cc9 => ?_) (fun cc9 => ?_)
    · have hm := k_ip cc9 hm
      exact J_63 c_mine c_theirs c_dice c_size _ _ hP hD hS _ (lv_sub hl [0, 1, 2, 3] rfl) hm
    · have hm := k_in cc9 hm
      refine lv_iload hx hb dX5_add_12 (lv_at hl 4 rfl) ?_
      refine lv_sipush (v := 128) hx hb dX5_add_14 (by decide) ?_
      refine lv_icmp_ge (tgt := 63) hx hb dX5_add_17 (by decide) (fun cc17 => ?_) (fun cc17 => ?_)
      · have hm := k_ip cc17 hm
        exact J_63 c_mine c_theirs c_dice c_size _ _ hP hD hS _ (lv_sub hl [0, 1, 2, 3] rfl) hm
      · have hm := k_in cc17 hm
        refine lv_aload_n hx hb dX5_add_20 rfl (lv_at hl 0 rfl) ?_
        refine va_get (D := D) (ci := 3) (v := .ref (ad 1)) (C := RX5) (T := TX5) (N := 4) hx hb hts hinX5 hown hK hP 0 rfl rfl 0 (by decide) fl9 (fun _ h9 => h9) rfl dX5_add_21 ?_
        refine lv_iload hx hb dX5_add_24 (lv_at hl 4 rfl) ?_
        obtain ⟨gi26, hm⟩ := k_gs hm
        refine va_lald hx hb hK hP 1 1 rfl rfl gi26 dX5_add_26 ?_
        refine lv_lload_n hx hb dX5_add_27 rfl (lv_at hl 1 rfl) ?_
        refine W.lcmp hx hb dX5_add_28 ?_
        refine lv_if_ne (tgt := 57) hx hb dX5_add_29 (by decide) (fun cc29 => ?_) (fun cc29 => ?_)
        · have hm := k_in cc29 hm
          refine lv_iinc (v := (l6 + 1)) (lv' := [(6, .int (l6 + 1)), (0, .ref (ad 0)), (1, .long a1), (3, .long a3), (5, .int a5)]) hx hb dX5_add_57 hl (k := 4) rfl rfl (by decide) rfl (fun ls hl => ?_)
          refine lv_goto (tgt := 3) hx hb dX5_add_60 (by decide) ?_
          exact ih3 (l6 + 1) c_mine c_theirs c_dice c_size _ _ hP hD hS _ (lv_sub hl [1, 2, 3, 4, 0] rfl) hm
        · have hm := k_ip cc29 hm
          refine lv_aload_n hx hb dX5_add_32 rfl (lv_at hl 0 rfl) ?_
          refine va_get (D := D) (ci := 3) (v := .ref (ad 2)) (C := RX5) (T := TX5) (N := 4) hx hb hts hinX5 hown hK hP 0 rfl rfl 1 (by decide) fl13 (fun _ h9 => h9) rfl dX5_add_33 ?_
          refine lv_iload hx hb dX5_add_36 (lv_at hl 4 rfl) ?_
          obtain ⟨gi38, hm⟩ := k_gs hm
          refine va_lald hx hb hK hP 2 1 rfl rfl gi38 dX5_add_38 ?_
          refine lv_lload_n hx hb dX5_add_39 rfl (lv_at hl 2 rfl) ?_
          refine W.lcmp hx hb dX5_add_40 ?_
          refine lv_if_ne (tgt := 57) hx hb dX5_add_41 (by decide) (fun cc41 => ?_) (fun cc41 => ?_)
          · have hm := k_in cc41 hm
            refine lv_iinc (v := (l6 + 1)) (lv' := [(6, .int (l6 + 1)), (0, .ref (ad 0)), (1, .long a1), (3, .long a3), (5, .int a5)]) hx hb dX5_add_57 hl (k := 4) rfl rfl (by decide) rfl (fun ls hl => ?_)
            refine lv_goto (tgt := 3) hx hb dX5_add_60 (by decide) ?_
            exact ih3 (l6 + 1) c_mine c_theirs c_dice c_size _ _ hP hD hS _ (lv_sub hl [1, 2, 3, 4, 0] rfl) hm
          · have hm := k_ip cc41 hm
            refine lv_aload_n hx hb dX5_add_44 rfl (lv_at hl 0 rfl) ?_
            refine va_get (D := D) (ci := 3) (v := .ref (ad 3)) (C := RX5) (T := TX5) (N := 4) hx hb hts hinX5 hown hK hP 0 rfl rfl 2 (by decide) fl16 (fun _ h9 => h9) rfl dX5_add_45 ?_
            refine lv_iload hx hb dX5_add_48 (lv_at hl 4 rfl) ?_
            obtain ⟨gi50, hm⟩ := k_gs hm
            refine va_iald hx hb hK hP 3 0 rfl rfl gi50 dX5_add_50 ?_
            refine lv_iload hx hb dX5_add_51 (lv_at hl 3 rfl) ?_
            refine lv_icmp_ne (tgt := 57) hx hb dX5_add_53 (by decide) (fun cc53 => ?_) (fun cc53 => ?_)
            · have hm := k_in cc53 hm
              refine lv_iinc (v := (l6 + 1)) (lv' := [(6, .int (l6 + 1)), (0, .ref (ad 0)), (1, .long a1), (3, .long a3), (5, .int a5)]) hx hb dX5_add_57 hl (k := 4) rfl rfl (by decide) rfl (fun ls hl => ?_)
              refine lv_goto (tgt := 3) hx hb dX5_add_60 (by decide) ?_
              exact ih3 (l6 + 1) c_mine c_theirs c_dice c_size _ _ hP hD hS _ (lv_sub hl [1, 2, 3, 4, 0] rfl) hm
            · have hm := k_ip cc53 hm
              cases hm
              exact k_end_v hx hb hr hlocks hK hP hD hS dX5_add_56) k_F
  unfold mX5_add at hm
  refine lv_iconst (v := 0) hx hb dX5_add_0 (by decide) ?_
  refine lv_istore (lv' := [(6, .int 0), (0, .ref (ad 0)), (1, .long a1), (3, .long a3), (5, .int a5)]) hx hb dX5_add_1 hl (by decide) rfl (fun ls hl => ?_)
  exact J_3 0 c_mine c_theirs c_dice c_size _ _ hP hD hS _ (lv_sub hl [1, 2, 3, 4, 0] rfl) hm

abbrev rmX8_isFull : Room := { frames := 0, cells := 0, slots := 0, locals := 0 }
set_option maxHeartbeats 4000000 in
set_option maxRecDepth 100000 in
theorem zX8_isFull {l : Launch} {D : va_G} {cI cJ cC cG : ClassId} {sz : Nat} {ad : Nat → Nat} {c_signs : Nat → Int32} {c_length : Int32} {r : Bool} (hm : mX8_isFull c_length = some (r)) : k_Mi l yX8_isFull wsX8_isFull rmX8_isFull D (kT cI cJ cC cG) sz ([.ref (ad 0)] : List Value) (wT cC ad c_signs c_length) (wT cC ad c_signs c_length) (k_b r) := by
  refine k_st_i (cc := cX8_isFull) (maxL := 1) (by decide) rfl (Nat.le_of_ble_eq_true rfl) ?_
  intro p e z m below meth c A hx hb hr hml hts hown hlocks hsz hN hA hK hP hD hS ls hl
  have hown : z.vm.findClass RX8 = some m.cls := hown
  have hinX8 : ∀ w ∈ wsX80, w ∈ wsX8_isFull := by decide +kernel
  have fl13 := hts (.fieldLink RX8 13 "MagpieRuns$Text" "length" "I") (by decide +kernel)
  have hl : lv_has ls 1 [(0, .ref (ad 0))] := hl
  unfold mX8_isFull at hm
  refine lv_aload_n hx hb dX8_isFull_0 rfl (lv_at hl 0 rfl) ?_
  refine va_get (D := D) (ci := 4) (v := .int c_length) (C := RX8) (T := TX8) (N := 2) hx hb hts hinX8 hown hK hP 0 rfl rfl 1 (by decide) fl13 (fun _ h9 => h9) rfl dX8_isFull_1 ?_
  refine lv_bipush (v := 60) hx hb dX8_isFull_4 (by decide) ?_
  refine lv_icmp_lt (tgt := 13) hx hb dX8_isFull_6 (by decide) (fun cc6 => ?_) (fun cc6 => ?_)
  · have hm := k_ip cc6 hm
    refine lv_iconst (v := 0) hx hb dX8_isFull_13 (by decide) ?_
    cases hm
    exact k_end_z false hx hb hr hlocks hK hP hD hS dX8_isFull_14
  · have hm := k_in cc6 hm
    refine lv_iconst (v := 1) hx hb dX8_isFull_9 (by decide) ?_
    refine lv_goto (tgt := 14) hx hb dX8_isFull_10 (by decide) ?_
    cases hm
    exact k_end_z true hx hb hr hlocks hK hP hD hS dX8_isFull_14

abbrev rmX8_put : Room := { frames := 0, cells := 0, slots := 0, locals := 0 }
set_option maxHeartbeats 4000000 in
set_option maxRecDepth 100000 in
theorem zX8_put {l : Launch} {D : va_G} {cI cJ cC cG : ClassId} {sz : Nat} {ad : Nat → Nat} {c_signs : Nat → Int32} {c_length : Int32} {a1 : Int32} {c_signs' : Nat → Int32} {c_length' : Int32} (hm : mX8_put c_signs c_length a1 = some (c_signs', c_length')) : k_Mv l yX8_put wsX8_put rmX8_put D (kT cI cJ cC cG) sz ([.ref (ad 0), .int a1] : List Value) (wT cC ad c_signs c_length) (wT cC ad c_signs' c_length') := by
  refine k_st_v (cc := cX8_put) (maxL := 2) (by decide) rfl (Nat.le_of_ble_eq_true rfl) ?_
  intro p e z m below meth c A hx hb hr hml hts hown hlocks hsz hN hA hK hP hD hS ls hl
  have hown : z.vm.findClass RX8 = some m.cls := hown
  have hinX8 : ∀ w ∈ wsX80, w ∈ wsX8_put := by decide +kernel
  have fl9 := hts (.fieldLink RX8 9 "MagpieRuns$Text" "signs" "[C") (by decide +kernel)
  have fl13 := hts (.fieldLink RX8 13 "MagpieRuns$Text" "length" "I") (by decide +kernel)
  have hl : lv_has ls 2 [(0, .ref (ad 0)), (1, .int a1)] := hl
  unfold mX8_put at hm
  refine lv_aload_n hx hb dX8_put_0 rfl (lv_at hl 0 rfl) ?_
  refine va_get (D := D) (ci := 4) (v := .int c_length) (C := RX8) (T := TX8) (N := 2) hx hb hts hinX8 hown hK hP 0 rfl rfl 1 (by decide) fl13 (fun _ h9 => h9) rfl dX8_put_1 ?_
  refine lv_if_lt (tgt := 36) hx hb dX8_put_4 (by decide) (fun cc4 => ?_) (fun cc4 => ?_)
  · have hm := k_ip cc4 hm
    cases hm
    exact k_end_v hx hb hr hlocks hK hP hD hS dX8_put_36
  · have hm := k_in cc4 hm
    refine lv_aload_n hx hb dX8_put_7 rfl (lv_at hl 0 rfl) ?_
    refine va_get (D := D) (ci := 4) (v := .int c_length) (C := RX8) (T := TX8) (N := 2) hx hb hts hinX8 hown hK hP 0 rfl rfl 1 (by decide) fl13 (fun _ h9 => h9) rfl dX8_put_8 ?_
    refine lv_bipush (v := 60) hx hb dX8_put_11 (by decide) ?_
    refine lv_icmp_ge (tgt := 36) hx hb dX8_put_13 (by decide) (fun cc13 => ?_) (fun cc13 => ?_)
    · have hm := k_ip cc13 hm
      cases hm
      exact k_end_v hx hb hr hlocks hK hP hD hS dX8_put_36
    · have hm := k_in cc13 hm
      refine lv_aload_n hx hb dX8_put_16 rfl (lv_at hl 0 rfl) ?_
      refine va_get (D := D) (ci := 4) (v := .ref (ad 1)) (C := RX8) (T := TX8) (N := 2) hx hb hts hinX8 hown hK hP 0 rfl rfl 0 (by decide) fl9 (fun _ h9 => h9) rfl dX8_put_17 ?_
      refine lv_aload_n hx hb dX8_put_20 rfl (lv_at hl 0 rfl) ?_
      refine va_get (D := D) (ci := 4) (v := .int c_length) (C := RX8) (T := TX8) (N := 2) hx hb hts hinX8 hown hK hP 0 rfl rfl 1 (by decide) fl13 (fun _ h9 => h9) rfl dX8_put_21 ?_
      refine lv_iload_n hx hb dX8_put_24 rfl (lv_at hl 1 rfl) ?_
      obtain ⟨gi25, hm⟩ := k_gs hm
      refine va_cast hx hb hK hP hD hS 1 2 rfl rfl gi25 dX8_put_25 (fun H locs hP hD hS => ?_)
      have hP : va_P D vwCl (wT cC ad (upd c_signs (Int32.toNatClampNeg c_length) (vp_nar .char a1)) c_length) H := hP
      have hD : va_D A (wT cC ad (upd c_signs (Int32.toNatClampNeg c_length) (vp_nar .char a1)) c_length) := hD
      refine lv_aload_n hx hb dX8_put_26 rfl (lv_at hl 0 rfl) ?_
      refine lv_dup hx hb dX8_put_27 rfl ?_
      refine va_get (D := D) (ci := 4) (v := .int c_length) (C := RX8) (T := TX8) (N := 2) hx hb hts hinX8 hown hK hP 0 rfl rfl 1 (by decide) fl13 (fun _ h9 => h9) rfl dX8_put_28 ?_
      refine lv_iconst (v := 1) hx hb dX8_put_31 (by decide) ?_
      refine lv_iadd hx hb dX8_put_32 ?_
      refine va_put (D := D) (ci := 4) (v := .int (c_length + 1)) (ty := .int) (C := RX8) (T := TX8) (N := 2) hx hb hts hinX8 tyX8 tyX8_ok nmX8 hown hK hP hD hS 0 rfl rfl 1 (by decide) fl13 (fun _ h9 => h9) rfl (by decide +kernel) rfl rfl (Nat.le_of_ble_eq_true rfl) dX8_put_33 (fun H locs hP hD hS => ?_)
      have hP : va_P D vwCl (wT cC ad (upd c_signs (Int32.toNatClampNeg c_length) (vp_nar .char a1)) (c_length + 1)) H := hP
      have hD : va_D A (wT cC ad (upd c_signs (Int32.toNatClampNeg c_length) (vp_nar .char a1)) (c_length + 1)) := hD
      cases hm
      exact k_end_v hx hb hr hlocks hK hP hD hS dX8_put_36

abbrev rmX8_empty : Room := { frames := 0, cells := 0, slots := 0, locals := 0 }
set_option maxHeartbeats 4000000 in
set_option maxRecDepth 100000 in
theorem zX8_empty {l : Launch} {D : va_G} {cI cJ cC cG : ClassId} {sz : Nat} {ad : Nat → Nat} {c_signs : Nat → Int32} {c_length : Int32} {c_length' : Int32} (hm : mX8_empty c_length = some (c_length')) : k_Mv l yX8_empty wsX8_empty rmX8_empty D (kT cI cJ cC cG) sz ([.ref (ad 0)] : List Value) (wT cC ad c_signs c_length) (wT cC ad c_signs c_length') := by
  refine k_st_v (cc := cX8_empty) (maxL := 1) (by decide) rfl (Nat.le_of_ble_eq_true rfl) ?_
  intro p e z m below meth c A hx hb hr hml hts hown hlocks hsz hN hA hK hP hD hS ls hl
  have hown : z.vm.findClass RX8 = some m.cls := hown
  have hinX8 : ∀ w ∈ wsX80, w ∈ wsX8_empty := by decide +kernel
  have fl13 := hts (.fieldLink RX8 13 "MagpieRuns$Text" "length" "I") (by decide +kernel)
  have hl : lv_has ls 1 [(0, .ref (ad 0))] := hl
  unfold mX8_empty at hm
  refine lv_aload_n hx hb dX8_empty_0 rfl (lv_at hl 0 rfl) ?_
  refine lv_iconst (v := 0) hx hb dX8_empty_1 (by decide) ?_
  refine va_put (D := D) (ci := 4) (v := .int 0) (ty := .int) (C := RX8) (T := TX8) (N := 2) hx hb hts hinX8 tyX8 tyX8_ok nmX8 hown hK hP hD hS 0 rfl rfl 1 (by decide) fl13 (fun _ h9 => h9) rfl (by decide +kernel) rfl rfl (Nat.le_of_ble_eq_true rfl) dX8_empty_2 (fun H locs hP hD hS => ?_)
  have hP : va_P D vwCl (wT cC ad c_signs 0) H := hP
  have hD : va_D A (wT cC ad c_signs 0) := hD
  cases hm
  exact k_end_v hx hb hr hlocks hK hP hD hS dX8_empty_5

abbrev rmX8_at : Room := { frames := 0, cells := 0, slots := 0, locals := 0 }
set_option maxHeartbeats 4000000 in
set_option maxRecDepth 100000 in
theorem zX8_at {l : Launch} {D : va_G} {cI cJ cC cG : ClassId} {sz : Nat} {ad : Nat → Nat} {c_signs : Nat → Int32} {c_length : Int32} {a1 : Int32} {r : Int32} (hm : mX8_at c_signs c_length a1 = some (r)) : k_Mi l yX8_at wsX8_at rmX8_at D (kT cI cJ cC cG) sz ([.ref (ad 0), .int a1] : List Value) (wT cC ad c_signs c_length) (wT cC ad c_signs c_length) r := by
  refine k_st_i (cc := cX8_at) (maxL := 2) (by decide) rfl (Nat.le_of_ble_eq_true rfl) ?_
  intro p e z m below meth c A hx hb hr hml hts hown hlocks hsz hN hA hK hP hD hS ls hl
  have hown : z.vm.findClass RX8 = some m.cls := hown
  have hinX8 : ∀ w ∈ wsX80, w ∈ wsX8_at := by decide +kernel
  have fl9 := hts (.fieldLink RX8 9 "MagpieRuns$Text" "signs" "[C") (by decide +kernel)
  have fl13 := hts (.fieldLink RX8 13 "MagpieRuns$Text" "length" "I") (by decide +kernel)
  have hl : lv_has ls 2 [(0, .ref (ad 0)), (1, .int a1)] := hl
  unfold mX8_at at hm
  refine lv_iload_n hx hb dX8_at_0 rfl (lv_at hl 1 rfl) ?_
  refine lv_if_lt (tgt := 27) hx hb dX8_at_1 (by decide) (fun cc1 => ?_) (fun cc1 => ?_)
  · have hm := k_ip cc1 hm
    refine lv_iconst (v := 0) hx hb dX8_at_27 (by decide) ?_
    cases hm
    exact k_end_c hx hb hr rfl hlocks hK hP hD hS dX8_at_28
  · have hm := k_in cc1 hm
    refine lv_iload_n hx hb dX8_at_4 rfl (lv_at hl 1 rfl) ?_
    refine lv_aload_n hx hb dX8_at_5 rfl (lv_at hl 0 rfl) ?_
    refine va_get (D := D) (ci := 4) (v := .int c_length) (C := RX8) (T := TX8) (N := 2) hx hb hts hinX8 hown hK hP 0 rfl rfl 1 (by decide) fl13 (fun _ h9 => h9) rfl dX8_at_6 ?_
    refine lv_icmp_ge (tgt := 27) hx hb dX8_at_9 (by decide) (fun cc9 => ?_) (fun cc9 => ?_)
    · have hm := k_ip cc9 hm
      refine lv_iconst (v := 0) hx hb dX8_at_27 (by decide) ?_
      cases hm
      exact k_end_c hx hb hr rfl hlocks hK hP hD hS dX8_at_28
    · have hm := k_in cc9 hm
      refine lv_iload_n hx hb dX8_at_12 rfl (lv_at hl 1 rfl) ?_
      refine lv_bipush (v := 60) hx hb dX8_at_13 (by decide) ?_
      refine lv_icmp_ge (tgt := 27) hx hb dX8_at_15 (by decide) (fun cc15 => ?_) (fun cc15 => ?_)
      · have hm := k_ip cc15 hm
        refine lv_iconst (v := 0) hx hb dX8_at_27 (by decide) ?_
        cases hm
        exact k_end_c hx hb hr rfl hlocks hK hP hD hS dX8_at_28
      · have hm := k_in cc15 hm
        refine lv_aload_n hx hb dX8_at_18 rfl (lv_at hl 0 rfl) ?_
        refine va_get (D := D) (ci := 4) (v := .ref (ad 1)) (C := RX8) (T := TX8) (N := 2) hx hb hts hinX8 hown hK hP 0 rfl rfl 0 (by decide) fl9 (fun _ h9 => h9) rfl dX8_at_19 ?_
        refine lv_iload_n hx hb dX8_at_22 rfl (lv_at hl 1 rfl) ?_
        obtain ⟨gi23, hm⟩ := k_gs hm
        refine va_cald hx hb hK hP 1 2 rfl rfl gi23 dX8_at_23 ?_
        refine lv_goto (tgt := 28) hx hb dX8_at_24 (by decide) ?_
        obtain ⟨gc28, hm⟩ := k_gns hm
        cases hm
        exact k_end_c hx hb hr (k_cn (of_decide_eq_true gc28)) hlocks hK hP hD hS dX8_at_28

abbrev rmX8_endOfPart : Room := { frames := 1, cells := 0, slots := 0, locals := 21 }
set_option maxHeartbeats 4000000 in
set_option maxRecDepth 100000 in
theorem zX8_endOfPart {l : Launch} {D : va_G} {cI cJ cC cG : ClassId} {sz : Nat} {ad : Nat → Nat} {c_signs : Nat → Int32} {c_length : Int32} {a1 : Int32} {r : Int32} (hm : mX8_endOfPart c_signs c_length a1 = some (r)) : k_Mi l yX8_endOfPart wsX8_endOfPart rmX8_endOfPart D (kT cI cJ cC cG) sz ([.ref (ad 0), .int a1] : List Value) (wT cC ad c_signs c_length) (wT cC ad c_signs c_length) r := by
  refine k_st_i (cc := cX8_endOfPart) (maxL := 3) (by decide) rfl (Nat.le_of_ble_eq_true rfl) ?_
  intro p e z m below meth c A hx hb hr hml hts hown hlocks hsz hN hA hK hP hD hS ls hl
  have hown : z.vm.findClass RX8 = some m.cls := hown
  have hinX8 : ∀ w ∈ wsX80, w ∈ wsX8_endOfPart := by decide +kernel
  have fl13 := hts (.fieldLink RX8 13 "MagpieRuns$Text" "length" "I") (by decide +kernel)
  have hl : lv_has ls 3 [(0, .ref (ad 0)), (1, .int a1)] := hl
  have J_6 := k_loop (z := fun _ => none) (st := mX8_endOfPart_6 c_signs c_length a1) (fun k6 : (Int32) → Option (Int32) => ∀ (l2 : Int32) (H : Heap) (locs : List Loc), va_P D vwCl (wT cC ad c_signs c_length) H → va_D A (wT cC ad c_signs c_length) → va_S A z.heap H locs → ∀ ls : Array Slot, lv_has ls 3 [(0, .ref (ad 0)), (2, .int l2)] → k6 l2 = some (r) → W p l e rmX8_endOfPart z m ([.ref (ad 0), .int a1] : List Value).toArray below meth c H locs 0 0 (k_Qi below ([.ref (ad 0), .int a1] : List Value) D (kT cI cJ cC cG) z A (wT cC ad c_signs c_length) r) (F0 m 6 ls [])) (by intros; contradiction) (by
    intro k6 ih6
    intro l2 H locs hP hD hS ls hl hm
    unfold mX8_endOfPart_6 at hm
    refine lv_iload_n hx hb dX8_endOfPart_6 rfl (lv_at hl 1 rfl) ?_
    refine lv_aload_n hx hb dX8_endOfPart_7 rfl (lv_at hl 0 rfl) ?_
    refine va_get (D := D) (ci := 4) (v := .int c_length) (C := RX8) (T := TX8) (N := 2) hx hb hts hinX8 hown hK hP 0 rfl rfl 1 (by decide) fl13 (fun _ h9 => h9) rfl dX8_endOfPart_8 ?_
    refine lv_icmp_ge (tgt := 32) hx hb dX8_endOfPart_11 (by decide) (fun cc11 => ?_) (fun cc11 => ?_)
    · have hm := k_ip cc11 hm
      refine lv_aload_n hx hb dX8_endOfPart_32 rfl (lv_at hl 0 rfl) ?_
      refine va_get (D := D) (ci := 4) (v := .int c_length) (C := RX8) (T := TX8) (N := 2) hx hb hts hinX8 hown hK hP 0 rfl rfl 1 (by decide) fl13 (fun _ h9 => h9) rfl dX8_endOfPart_33 ?_
      cases hm
      exact k_end_i hx hb hr hlocks hK hP hD hS dX8_endOfPart_36
    · have hm := k_in cc11 hm
      refine lv_aload_n hx hb dX8_endOfPart_14 rfl (lv_at hl 0 rfl) ?_
      refine lv_iload_n hx hb dX8_endOfPart_15 rfl (lv_at hl 1 rfl) ?_
      obtain ⟨r1, hc16, hm⟩ := k_bds hm
      refine k_i_s (k_rV (As := [.int l2]) (rest := []) ⟨hx, hb, hml, hown, hts⟩ hK hN hP hD (zX8_at hc16) (cwV 1 hts gX8_endOfPart_X8_at rfl rfl rfl (by decide +kernel) ⟨Nat.le_of_ble_eq_true rfl, Nat.le_of_ble_eq_true rfl⟩) rfl rfl rfl hl.1 rfl (Nat.le_of_ble_eq_true rfl) dX8_endOfPart_16 ⟨Nat.zero_le _, Nat.zero_le _⟩) hD hS hA (fun H locs hP hD hS => ?_)
      refine lv_bipush (v := 59) hx hb dX8_endOfPart_19 (by decide) ?_
      refine lv_icmp_ne (tgt := 26) hx hb dX8_endOfPart_21 (by decide) (fun cc21 => ?_) (fun cc21 => ?_)
      · have hm := k_in cc21 hm
        refine lv_iinc (v := (l2 + 1)) (lv' := [(2, .int (l2 + 1)), (0, .ref (ad 0))]) hx hb dX8_endOfPart_26 hl (k := 1) rfl rfl (by decide) rfl (fun ls hl => ?_)
        refine lv_goto (tgt := 6) hx hb dX8_endOfPart_29 (by decide) ?_
        exact ih6 (l2 + 1) _ _ hP hD hS _ (lv_sub hl [1, 0] rfl) hm
      · have hm := k_ip cc21 hm
        refine lv_iload_n hx hb dX8_endOfPart_24 rfl (lv_at hl 1 rfl) ?_
        cases hm
        exact k_end_i hx hb hr hlocks hK hP hD hS dX8_endOfPart_25) k_F
  unfold mX8_endOfPart at hm
  refine lv_iconst (v := 0) hx hb dX8_endOfPart_0 (by decide) ?_
  refine lv_iload_n hx hb dX8_endOfPart_1 rfl (lv_at hl 1 rfl) ?_
  refine va_mmax hx hb (hml.trans hl.1.symm) hown (hts (.methodLink RX8 17 Lib.Math.max.name) (by decide +kernel)) (hts (.static Lib.Math.max.name) (by decide +kernel)) (hts (.initialized "java/lang/Math") (by decide +kernel)) (hts (.code Lib.Math.max.name Lib.Math.max.code 2 (some .int)) (by decide +kernel)) (Nat.le_of_ble_eq_true rfl) (Nat.le_of_ble_eq_true rfl) (Nat.zero_le _) (Nat.zero_le _) dX8_endOfPart_2 ?_
  refine W.eq (g2 := F0 m 5 _ (.int (k_max (0 : Int32) a1) :: [])) rfl ?_
  refine lv_istore_n (lv' := [(2, .int (k_max (0 : Int32) a1)), (0, .ref (ad 0)), (1, .int a1)]) hx hb dX8_endOfPart_5 rfl hl (by decide) rfl (fun ls hl => ?_)
  exact J_6 (k_max (0 : Int32) a1) _ _ hP hD hS _ (lv_sub hl [1, 0] rfl) hm

abbrev rmX8_digitAt : Room := { frames := 1, cells := 0, slots := 0, locals := 21 }
set_option maxHeartbeats 4000000 in
set_option maxRecDepth 100000 in
theorem zX8_digitAt {l : Launch} {D : va_G} {cI cJ cC cG : ClassId} {sz : Nat} {ad : Nat → Nat} {c_signs : Nat → Int32} {c_length : Int32} {a1 : Int32} {r : Int32} (hm : mX8_digitAt c_signs c_length a1 = some (r)) : k_Mi l yX8_digitAt wsX8_digitAt rmX8_digitAt D (kT cI cJ cC cG) sz ([.ref (ad 0), .int a1] : List Value) (wT cC ad c_signs c_length) (wT cC ad c_signs c_length) r := by
  refine k_st_i (cc := cX8_digitAt) (maxL := 2) (by decide) rfl (Nat.le_of_ble_eq_true rfl) ?_
  intro p e z m below meth c A hx hb hr hml hts hown hlocks hsz hN hA hK hP hD hS ls hl
  have hown : z.vm.findClass RX8 = some m.cls := hown
  have hl : lv_has ls 2 [(0, .ref (ad 0)), (1, .int a1)] := hl
  unfold mX8_digitAt at hm
  refine lv_aload_n hx hb dX8_digitAt_0 rfl (lv_at hl 0 rfl) ?_
  refine lv_iload_n hx hb dX8_digitAt_1 rfl (lv_at hl 1 rfl) ?_
  obtain ⟨r1, hc2, hm⟩ := k_bds hm
  refine k_i_s (k_rV (As := [.int a1]) (rest := []) ⟨hx, hb, hml, hown, hts⟩ hK hN hP hD (zX8_at hc2) (cwV 1 hts gX8_digitAt_X8_at rfl rfl rfl (by decide +kernel) ⟨Nat.le_of_ble_eq_true rfl, Nat.le_of_ble_eq_true rfl⟩) rfl rfl rfl hl.1 rfl (Nat.le_of_ble_eq_true rfl) dX8_digitAt_2 ⟨Nat.zero_le _, Nat.zero_le _⟩) hD hS hA (fun H locs hP hD hS => ?_)
  refine lv_bipush (v := 48) hx hb dX8_digitAt_5 (by decide) ?_
  refine lv_isub hx hb dX8_digitAt_7 ?_
  cases hm
  exact k_end_i hx hb hr hlocks hK hP hD hS dX8_digitAt_8

abbrev rmX8_isDigit : Room := { frames := 0, cells := 0, slots := 0, locals := 0 }
set_option maxHeartbeats 4000000 in
set_option maxRecDepth 100000 in
theorem zX8_isDigit {l : Launch} {D : va_G} {cI cJ cC cG : ClassId} {sz : Nat}  {a0 : Int32} {r : Bool} (hm : mX8_isDigit a0 = some (r)) : k_Mi l yX8_isDigit wsX8_isDigit rmX8_isDigit D (kT cI cJ cC cG) sz ([.int a0] : List Value) [] [] (k_b r) := by
  refine k_st_i (cc := cX8_isDigit) (maxL := 1) (by decide) rfl (Nat.le_of_ble_eq_true rfl) ?_
  intro p e z m below meth c A hx hb hr hml hts hown hlocks hsz hN hA hK hP hD hS ls hl
  have hown : z.vm.findClass RX8 = some m.cls := hown
  have hl : lv_has ls 1 [(0, .int a0)] := hl
  unfold mX8_isDigit at hm
  refine lv_iload_n hx hb dX8_isDigit_0 rfl (lv_at hl 0 rfl) ?_
  refine lv_bipush (v := 48) hx hb dX8_isDigit_1 (by decide) ?_
  refine lv_icmp_lt (tgt := 16) hx hb dX8_isDigit_3 (by decide) (fun cc3 => ?_) (fun cc3 => ?_)
  · have hm := k_ip cc3 hm
    refine lv_iconst (v := 0) hx hb dX8_isDigit_16 (by decide) ?_
    cases hm
    exact k_end_z false hx hb hr hlocks hK hP hD hS dX8_isDigit_17
  · have hm := k_in cc3 hm
    refine lv_iload_n hx hb dX8_isDigit_6 rfl (lv_at hl 0 rfl) ?_
    refine lv_bipush (v := 57) hx hb dX8_isDigit_7 (by decide) ?_
    refine lv_icmp_gt (tgt := 16) hx hb dX8_isDigit_9 (by decide) (fun cc9 => ?_) (fun cc9 => ?_)
    · have hm := k_ip cc9 hm
      refine lv_iconst (v := 0) hx hb dX8_isDigit_16 (by decide) ?_
      cases hm
      exact k_end_z false hx hb hr hlocks hK hP hD hS dX8_isDigit_17
    · have hm := k_in cc9 hm
      refine lv_iconst (v := 1) hx hb dX8_isDigit_12 (by decide) ?_
      refine lv_goto (tgt := 17) hx hb dX8_isDigit_13 (by decide) ?_
      cases hm
      exact k_end_z true hx hb hr hlocks hK hP hD hS dX8_isDigit_17

abbrev rmX8_numberAt : Room := { frames := 2, cells := 0, slots := 0, locals := 42 }
set_option maxHeartbeats 4000000 in
set_option maxRecDepth 100000 in
theorem zX8_numberAt {l : Launch} {D : va_G} {cI cJ cC cG : ClassId} {sz : Nat} {ad : Nat → Nat} {c_signs : Nat → Int32} {c_length : Int32} {a1 : Int32} {r : Int32} (hm : mX8_numberAt c_signs c_length a1 = some (r)) : k_Mi l yX8_numberAt wsX8_numberAt rmX8_numberAt D (kT cI cJ cC cG) sz ([.ref (ad 0), .int a1] : List Value) (wT cC ad c_signs c_length) (wT cC ad c_signs c_length) r := by
  refine k_st_i (cc := cX8_numberAt) (maxL := 3) (by decide) rfl (Nat.le_of_ble_eq_true rfl) ?_
  intro p e z m below meth c A hx hb hr hml hts hown hlocks hsz hN hA hK hP hD hS ls hl
  have hown : z.vm.findClass RX8 = some m.cls := hown
  have hl : lv_has ls 3 [(0, .ref (ad 0)), (1, .int a1)] := hl
  unfold mX8_numberAt at hm
  refine lv_aload_n hx hb dX8_numberAt_0 rfl (lv_at hl 0 rfl) ?_
  refine lv_iload_n hx hb dX8_numberAt_1 rfl (lv_at hl 1 rfl) ?_
  obtain ⟨r1, hc2, hm⟩ := k_bds hm
  refine k_i_s (k_rV (As := [.int a1]) (rest := []) ⟨hx, hb, hml, hown, hts⟩ hK hN hP hD (zX8_digitAt hc2) (cwV 1 hts gX8_numberAt_X8_digitAt rfl rfl rfl (by decide +kernel) ⟨Nat.le_of_ble_eq_true rfl, Nat.le_of_ble_eq_true rfl⟩) rfl rfl rfl hl.1 rfl (Nat.le_of_ble_eq_true rfl) dX8_numberAt_2 ⟨Nat.zero_le _, Nat.zero_le _⟩) hD hS hA (fun H locs hP hD hS => ?_)
  refine lv_istore_n (lv' := [(2, .int r1), (0, .ref (ad 0)), (1, .int a1)]) hx hb dX8_numberAt_5 rfl hl (by decide) rfl (fun ls hl => ?_)
  refine lv_aload_n hx hb dX8_numberAt_6 rfl (lv_at hl 1 rfl) ?_
  refine lv_iload_n hx hb dX8_numberAt_7 rfl (lv_at hl 2 rfl) ?_
  refine lv_iconst (v := 1) hx hb dX8_numberAt_8 (by decide) ?_
  refine lv_iadd hx hb dX8_numberAt_9 ?_
  obtain ⟨r2, hc10, hm⟩ := k_bds hm
  refine k_i_s (k_rV (As := [.int (a1 + 1)]) (rest := []) ⟨hx, hb, hml, hown, hts⟩ hK hN hP hD (zX8_at hc10) (cwV 1 hts gX8_numberAt_X8_at rfl rfl rfl (by decide +kernel) ⟨Nat.le_of_ble_eq_true rfl, Nat.le_of_ble_eq_true rfl⟩) rfl rfl rfl hl.1 rfl (Nat.le_of_ble_eq_true rfl) dX8_numberAt_10 ⟨Nat.zero_le _, Nat.zero_le _⟩) hD hS hA (fun H locs hP hD hS => ?_)
  obtain ⟨r3, hc13, hm⟩ := k_bds hm
  refine k_i_0 (k_rS (As := [.int r2]) (rest := []) ⟨hx, hb, hml, hown, hts⟩ hK hN k_P0 (k_D0 (A := A)) (zX8_isDigit hc13) (va_cwS 1 hts gX8_numberAt_X8_isDigit rfl rfl rfl (by decide +kernel) ⟨Nat.le_of_ble_eq_true rfl, Nat.le_of_ble_eq_true rfl⟩) rfl hl.1 rfl (Nat.le_of_ble_eq_true rfl) dX8_numberAt_13 ⟨Nat.zero_le _, Nat.zero_le _⟩) hP hS hA (fun H locs hP hS => ?_)
  refine lv_if_eq (tgt := 34) hx hb dX8_numberAt_16 (by decide) (fun cc16 => ?_) (fun cc16 => ?_)
  · have hm := k_ip cc16 hm
    refine lv_iload_n hx hb dX8_numberAt_34 rfl (lv_at hl 0 rfl) ?_
    cases hm
    exact k_end_i hx hb hr hlocks hK hP hD hS dX8_numberAt_35
  · have hm := k_in cc16 hm
    refine lv_bipush (v := 10) hx hb dX8_numberAt_19 (by decide) ?_
    refine lv_iload_n hx hb dX8_numberAt_21 rfl (lv_at hl 0 rfl) ?_
    refine lv_imul hx hb dX8_numberAt_22 ?_
    refine lv_aload_n hx hb dX8_numberAt_23 rfl (lv_at hl 1 rfl) ?_
    refine lv_iload_n hx hb dX8_numberAt_24 rfl (lv_at hl 2 rfl) ?_
    refine lv_iconst (v := 1) hx hb dX8_numberAt_25 (by decide) ?_
    refine lv_iadd hx hb dX8_numberAt_26 ?_
    obtain ⟨r4, hc27, hm⟩ := k_bds hm
    refine k_i_s (k_rV (As := [.int (a1 + 1)]) (rest := [.int (10 * r1)]) ⟨hx, hb, hml, hown, hts⟩ hK hN hP hD (zX8_digitAt hc27) (cwV 1 hts gX8_numberAt_X8_digitAt rfl rfl rfl (by decide +kernel) ⟨Nat.le_of_ble_eq_true rfl, Nat.le_of_ble_eq_true rfl⟩) rfl rfl rfl hl.1 rfl (Nat.le_of_ble_eq_true rfl) dX8_numberAt_27 ⟨Nat.zero_le _, Nat.zero_le _⟩) hD hS hA (fun H locs hP hD hS => ?_)
    refine lv_iadd hx hb dX8_numberAt_30 ?_
    refine lv_goto (tgt := 35) hx hb dX8_numberAt_31 (by decide) ?_
    cases hm
    exact k_end_i hx hb hr hlocks hK hP hD hS dX8_numberAt_35

abbrev rmX8_awaitedBehindDot : Room := { frames := 0, cells := 0, slots := 0, locals := 0 }
set_option maxHeartbeats 4000000 in
set_option maxRecDepth 100000 in
theorem zX8_awaitedBehindDot {l : Launch} {D : va_G} {cI cJ cC cG : ClassId} {sz : Nat}  {a0 : Int32} {r : Int32} (hm : mX8_awaitedBehindDot a0 = some (r)) : k_Mi l yX8_awaitedBehindDot wsX8_awaitedBehindDot rmX8_awaitedBehindDot D (kT cI cJ cC cG) sz ([.int a0] : List Value) [] [] r := by
  refine k_st_i (cc := cX8_awaitedBehindDot) (maxL := 1) (by decide) rfl (Nat.le_of_ble_eq_true rfl) ?_
  intro p e z m below meth c A hx hb hr hml hts hown hlocks hsz hN hA hK hP hD hS ls hl
  have hown : z.vm.findClass RX8 = some m.cls := hown
  have hl : lv_has ls 1 [(0, .int a0)] := hl
  unfold mX8_awaitedBehindDot at hm
  refine lv_iload_n hx hb dX8_awaitedBehindDot_0 rfl (lv_at hl 0 rfl) ?_
  refine lv_bipush (v := 46) hx hb dX8_awaitedBehindDot_1 (by decide) ?_
  refine lv_icmp_ne (tgt := 10) hx hb dX8_awaitedBehindDot_3 (by decide) (fun cc3 => ?_) (fun cc3 => ?_)
  · have hm := k_in cc3 hm
    refine lv_bipush (v := 7) hx hb dX8_awaitedBehindDot_10 (by decide) ?_
    cases hm
    exact k_end_i hx hb hr hlocks hK hP hD hS dX8_awaitedBehindDot_12
  · have hm := k_ip cc3 hm
    refine lv_iconst (v := 2) hx hb dX8_awaitedBehindDot_6 (by decide) ?_
    refine lv_goto (tgt := 12) hx hb dX8_awaitedBehindDot_7 (by decide) ?_
    cases hm
    exact k_end_i hx hb hr hlocks hK hP hD hS dX8_awaitedBehindDot_12

abbrev rmX8_awaitedInPart : Room := { frames := 0, cells := 0, slots := 0, locals := 0 }
set_option maxHeartbeats 4000000 in
set_option maxRecDepth 100000 in
theorem zX8_awaitedInPart {l : Launch} {D : va_G} {cI cJ cC cG : ClassId} {sz : Nat}  {a0 : Int32} {r : Int32} (hm : mX8_awaitedInPart a0 = some (r)) : k_Mi l yX8_awaitedInPart wsX8_awaitedInPart rmX8_awaitedInPart D (kT cI cJ cC cG) sz ([.int a0] : List Value) [] [] r := by
  refine k_st_i (cc := cX8_awaitedInPart) (maxL := 1) (by decide) rfl (Nat.le_of_ble_eq_true rfl) ?_
  intro p e z m below meth c A hx hb hr hml hts hown hlocks hsz hN hA hK hP hD hS ls hl
  have hown : z.vm.findClass RX8 = some m.cls := hown
  have hl : lv_has ls 1 [(0, .int a0)] := hl
  unfold mX8_awaitedInPart at hm
  refine lv_iload_n hx hb dX8_awaitedInPart_0 rfl (lv_at hl 0 rfl) ?_
  by_cases cs1_98 : a0 = 98
  · have hm := k_ip cs1_98 hm
    refine lv_tableIn (off := 111) (tgt := 112) hx hb dX8_awaitedInPart_1 (by rw [cs1_98]; decide +kernel) (by rw [cs1_98]; decide +kernel) (by rw [cs1_98]; decide +kernel) (by decide) ?_
    refine lv_iconst (v := 5) hx hb dX8_awaitedInPart_112 (by decide) ?_
    cases hm
    exact k_end_i hx hb hr hlocks hK hP hD hS dX8_awaitedInPart_113
  · have hm := k_in cs1_98 hm
    by_cases cs1_100 : a0 = 100
    · have hm := k_ip cs1_100 hm
      refine lv_tableIn (off := 113) (tgt := 114) hx hb dX8_awaitedInPart_1 (by rw [cs1_100]; decide +kernel) (by rw [cs1_100]; decide +kernel) (by rw [cs1_100]; decide +kernel) (by decide) ?_
      refine lv_bipush (v := 6) hx hb dX8_awaitedInPart_114 (by decide) ?_
      cases hm
      exact k_end_i hx hb hr hlocks hK hP hD hS dX8_awaitedInPart_116
    · have hm := k_in cs1_100 hm
      by_cases cs1_101 : a0 = 101
      · have hm := k_ip cs1_101 hm
        refine lv_tableIn (off := 113) (tgt := 114) hx hb dX8_awaitedInPart_1 (by rw [cs1_101]; decide +kernel) (by rw [cs1_101]; decide +kernel) (by rw [cs1_101]; decide +kernel) (by decide) ?_
        refine lv_bipush (v := 6) hx hb dX8_awaitedInPart_114 (by decide) ?_
        cases hm
        exact k_end_i hx hb hr hlocks hK hP hD hS dX8_awaitedInPart_116
      · have hm := k_in cs1_101 hm
        by_cases cs1_109 : a0 = 109
        · have hm := k_ip cs1_109 hm
          refine lv_tableIn (off := 109) (tgt := 110) hx hb dX8_awaitedInPart_1 (by rw [cs1_109]; decide +kernel) (by rw [cs1_109]; decide +kernel) (by rw [cs1_109]; decide +kernel) (by decide) ?_
          refine lv_iconst (v := 3) hx hb dX8_awaitedInPart_110 (by decide) ?_
          cases hm
          exact k_end_i hx hb hr hlocks hK hP hD hS dX8_awaitedInPart_111
        · have hm := k_in cs1_109 hm
          by_cases cs1_110 : a0 = 110
          · have hm := k_ip cs1_110 hm
            refine lv_tableIn (off := 113) (tgt := 114) hx hb dX8_awaitedInPart_1 (by rw [cs1_110]; decide +kernel) (by rw [cs1_110]; decide +kernel) (by rw [cs1_110]; decide +kernel) (by decide) ?_
            refine lv_bipush (v := 6) hx hb dX8_awaitedInPart_114 (by decide) ?_
            cases hm
            exact k_end_i hx hb hr hlocks hK hP hD hS dX8_awaitedInPart_116
          · have hm := k_in cs1_110 hm
            by_cases cs1_114 : a0 = 114
            · have hm := k_ip cs1_114 hm
              refine lv_tableIn (off := 107) (tgt := 108) hx hb dX8_awaitedInPart_1 (by rw [cs1_114]; decide +kernel) (by rw [cs1_114]; decide +kernel) (by rw [cs1_114]; decide +kernel) (by decide) ?_
              refine lv_iconst (v := 1) hx hb dX8_awaitedInPart_108 (by decide) ?_
              cases hm
              exact k_end_i hx hb hr hlocks hK hP hD hS dX8_awaitedInPart_109
            · have hm := k_in cs1_114 hm
              by_cases cs1_116 : a0 = 116
              · have hm := k_ip cs1_116 hm
                refine lv_tableIn (off := 113) (tgt := 114) hx hb dX8_awaitedInPart_1 (by rw [cs1_116]; decide +kernel) (by rw [cs1_116]; decide +kernel) (by rw [cs1_116]; decide +kernel) (by decide) ?_
                refine lv_bipush (v := 6) hx hb dX8_awaitedInPart_114 (by decide) ?_
                cases hm
                exact k_end_i hx hb hr hlocks hK hP hD hS dX8_awaitedInPart_116
              · have hm := k_in cs1_116 hm
                by_cases cs1_120 : a0 = 120
                · have hm := k_ip cs1_120 hm
                  refine lv_tableIn (off := 113) (tgt := 114) hx hb dX8_awaitedInPart_1 (by rw [cs1_120]; decide +kernel) (by rw [cs1_120]; decide +kernel) (by rw [cs1_120]; decide +kernel) (by decide) ?_
                  refine lv_bipush (v := 6) hx hb dX8_awaitedInPart_114 (by decide) ?_
                  cases hm
                  exact k_end_i hx hb hr hlocks hK hP hD hS dX8_awaitedInPart_116
                · have hm := k_in cs1_120 hm
                  refine k_tabD (tgt := 117) [98, 100, 101, 109, 110, 114, 116, 120] hx hb dX8_awaitedInPart_1 (by decide) (by decide +kernel) (by decide +kernel) (by intro k hk; simp only [List.mem_cons, List.not_mem_nil, or_false] at hk; rcases hk with rfl | rfl | rfl | rfl | rfl | rfl | rfl | rfl <;> assumption) ?_
                  refine lv_bipush (v := 7) hx hb dX8_awaitedInPart_117 (by decide) ?_
                  cases hm
                  exact k_end_i hx hb hr hlocks hK hP hD hS dX8_awaitedInPart_119

abbrev rmX8_isDieSign : Room := { frames := 0, cells := 0, slots := 0, locals := 0 }
set_option maxHeartbeats 4000000 in
set_option maxRecDepth 100000 in
theorem zX8_isDieSign {l : Launch} {D : va_G} {cI cJ cC cG : ClassId} {sz : Nat}  {a0 : Int32} {r : Bool} (hm : mX8_isDieSign a0 = some (r)) : k_Mi l yX8_isDieSign wsX8_isDieSign rmX8_isDieSign D (kT cI cJ cC cG) sz ([.int a0] : List Value) [] [] (k_b r) := by
  refine k_st_i (cc := cX8_isDieSign) (maxL := 1) (by decide) rfl (Nat.le_of_ble_eq_true rfl) ?_
  intro p e z m below meth c A hx hb hr hml hts hown hlocks hsz hN hA hK hP hD hS ls hl
  have hown : z.vm.findClass RX8 = some m.cls := hown
  have hl : lv_has ls 1 [(0, .int a0)] := hl
  unfold mX8_isDieSign at hm
  refine lv_iload_n hx hb dX8_isDieSign_0 rfl (lv_at hl 0 rfl) ?_
  refine lv_bipush (v := 49) hx hb dX8_isDieSign_1 (by decide) ?_
  refine lv_icmp_lt (tgt := 16) hx hb dX8_isDieSign_3 (by decide) (fun cc3 => ?_) (fun cc3 => ?_)
  · have hm := k_ip cc3 hm
    refine lv_iconst (v := 0) hx hb dX8_isDieSign_16 (by decide) ?_
    cases hm
    exact k_end_z false hx hb hr hlocks hK hP hD hS dX8_isDieSign_17
  · have hm := k_in cc3 hm
    refine lv_iload_n hx hb dX8_isDieSign_6 rfl (lv_at hl 0 rfl) ?_
    refine lv_bipush (v := 54) hx hb dX8_isDieSign_7 (by decide) ?_
    refine lv_icmp_gt (tgt := 16) hx hb dX8_isDieSign_9 (by decide) (fun cc9 => ?_) (fun cc9 => ?_)
    · have hm := k_ip cc9 hm
      refine lv_iconst (v := 0) hx hb dX8_isDieSign_16 (by decide) ?_
      cases hm
      exact k_end_z false hx hb hr hlocks hK hP hD hS dX8_isDieSign_17
    · have hm := k_in cc9 hm
      refine lv_iconst (v := 1) hx hb dX8_isDieSign_12 (by decide) ?_
      refine lv_goto (tgt := 17) hx hb dX8_isDieSign_13 (by decide) ?_
      cases hm
      exact k_end_z true hx hb hr hlocks hK hP hD hS dX8_isDieSign_17

abbrev rmX8_awaitedBehindDigit : Room := { frames := 1, cells := 0, slots := 0, locals := 20 }
set_option maxHeartbeats 4000000 in
set_option maxRecDepth 100000 in
theorem zX8_awaitedBehindDigit {l : Launch} {D : va_G} {cI cJ cC cG : ClassId} {sz : Nat}  {a0 : Int32} {r : Int32} (hm : mX8_awaitedBehindDigit a0 = some (r)) : k_Mi l yX8_awaitedBehindDigit wsX8_awaitedBehindDigit rmX8_awaitedBehindDigit D (kT cI cJ cC cG) sz ([.int a0] : List Value) [] [] r := by
  refine k_st_i (cc := cX8_awaitedBehindDigit) (maxL := 1) (by decide) rfl (Nat.le_of_ble_eq_true rfl) ?_
  intro p e z m below meth c A hx hb hr hml hts hown hlocks hsz hN hA hK hP hD hS ls hl
  have hown : z.vm.findClass RX8 = some m.cls := hown
  have hl : lv_has ls 1 [(0, .int a0)] := hl
  unfold mX8_awaitedBehindDigit at hm
  refine lv_iload_n hx hb dX8_awaitedBehindDigit_0 rfl (lv_at hl 0 rfl) ?_
  refine lv_bipush (v := 49) hx hb dX8_awaitedBehindDigit_1 (by decide) ?_
  refine lv_icmp_ne (tgt := 8) hx hb dX8_awaitedBehindDigit_3 (by decide) (fun cc3 => ?_) (fun cc3 => ?_)
  · have hm := k_in cc3 hm
    refine lv_iload_n hx hb dX8_awaitedBehindDigit_8 rfl (lv_at hl 0 rfl) ?_
    obtain ⟨r1, hc9, hm⟩ := k_bds hm
    refine k_i_0 (k_rS (As := [.int a0]) (rest := []) ⟨hx, hb, hml, hown, hts⟩ hK hN k_P0 (k_D0 (A := A)) (zX8_isDigit hc9) (va_cwS 1 hts gX8_awaitedBehindDigit_X8_isDigit rfl rfl rfl (by decide +kernel) ⟨Nat.le_of_ble_eq_true rfl, Nat.le_of_ble_eq_true rfl⟩) rfl hl.1 rfl (Nat.le_of_ble_eq_true rfl) dX8_awaitedBehindDigit_9 ⟨Nat.zero_le _, Nat.zero_le _⟩) hP hS hA (fun H locs hP hS => ?_)
    refine lv_if_eq (tgt := 19) hx hb dX8_awaitedBehindDigit_12 (by decide) (fun cc12 => ?_) (fun cc12 => ?_)
    · have hm := k_ip cc12 hm
      refine lv_bipush (v := 7) hx hb dX8_awaitedBehindDigit_19 (by decide) ?_
      cases hm
      exact k_end_i hx hb hr hlocks hK hP hD hS dX8_awaitedBehindDigit_21
    · have hm := k_in cc12 hm
      refine lv_iconst (v := 5) hx hb dX8_awaitedBehindDigit_15 (by decide) ?_
      refine lv_goto (tgt := 21) hx hb dX8_awaitedBehindDigit_16 (by decide) ?_
      cases hm
      exact k_end_i hx hb hr hlocks hK hP hD hS dX8_awaitedBehindDigit_21
  · have hm := k_ip cc3 hm
    refine lv_iconst (v := 4) hx hb dX8_awaitedBehindDigit_6 (by decide) ?_
    cases hm
    exact k_end_i hx hb hr hlocks hK hP hD hS dX8_awaitedBehindDigit_7

abbrev rmX8_awaitedBehind : Room := { frames := 2, cells := 0, slots := 0, locals := 40 }
set_option maxHeartbeats 4000000 in
set_option maxRecDepth 100000 in
theorem zX8_awaitedBehind {l : Launch} {D : va_G} {cI cJ cC cG : ClassId} {sz : Nat}  {a0 : Int32} {a1 : Int32} {r : Int32} (hm : mX8_awaitedBehind a0 a1 = some (r)) : k_Mi l yX8_awaitedBehind wsX8_awaitedBehind rmX8_awaitedBehind D (kT cI cJ cC cG) sz ([.int a0, .int a1] : List Value) [] [] r := by
  refine k_st_i (cc := cX8_awaitedBehind) (maxL := 2) (by decide) rfl (Nat.le_of_ble_eq_true rfl) ?_
  intro p e z m below meth c A hx hb hr hml hts hown hlocks hsz hN hA hK hP hD hS ls hl
  have hown : z.vm.findClass RX8 = some m.cls := hown
  have hl : lv_has ls 2 [(0, .int a0), (1, .int a1)] := hl
  have J_99 : ∀ (H : Heap) (locs : List Loc), va_P D vwCl [] H → va_D A [] → va_S A z.heap H locs → ∀ ls : Array Slot, lv_has ls 2 [(1, .int a1)] → mX8_awaitedBehind_99 a0 a1  = some (r) → W p l e rmX8_awaitedBehind z m ([.int a0, .int a1] : List Value).toArray below meth c H locs 0 0 (k_Qi below ([.int a0, .int a1] : List Value) D (kT cI cJ cC cG) z A [] r) (F0 m 99 ls []) := by
    intro  H locs hP hD hS ls hl hm
    unfold mX8_awaitedBehind_99 at hm
    refine lv_iload_n hx hb dX8_awaitedBehind_99 rfl (lv_at hl 0 rfl) ?_
    obtain ⟨r1, hc100, hm⟩ := k_bds hm
    refine k_i_0 (k_rS (As := [.int a1]) (rest := []) ⟨hx, hb, hml, hown, hts⟩ hK hN k_P0 (k_D0 (A := A)) (zX8_awaitedBehindDot hc100) (va_cwS 1 hts gX8_awaitedBehind_X8_awaitedBehindDot rfl rfl rfl (by decide +kernel) ⟨Nat.le_of_ble_eq_true rfl, Nat.le_of_ble_eq_true rfl⟩) rfl hl.1 rfl (Nat.le_of_ble_eq_true rfl) dX8_awaitedBehind_100 ⟨Nat.zero_le _, Nat.zero_le _⟩) hP hS hA (fun H locs hP hS => ?_)
    cases hm
    exact k_end_i hx hb hr hlocks hK hP hD hS dX8_awaitedBehind_103
  unfold mX8_awaitedBehind at hm
  refine lv_iload_n hx hb dX8_awaitedBehind_0 rfl (lv_at hl 0 rfl) ?_
  by_cases cs1_0 : a0 = 0
  · have hm := k_ip cs1_0 hm
    refine lv_tableIn (off := 43) (tgt := 44) hx hb dX8_awaitedBehind_1 (by rw [cs1_0]; decide +kernel) (by rw [cs1_0]; decide +kernel) (by rw [cs1_0]; decide +kernel) (by decide) ?_
    refine lv_iload_n hx hb dX8_awaitedBehind_44 rfl (lv_at hl 1 rfl) ?_
    obtain ⟨r2, hc45, hm⟩ := k_bds hm
    refine k_i_0 (k_rS (As := [.int a1]) (rest := []) ⟨hx, hb, hml, hown, hts⟩ hK hN k_P0 (k_D0 (A := A)) (zX8_awaitedInPart hc45) (va_cwS 1 hts gX8_awaitedBehind_X8_awaitedInPart rfl rfl rfl (by decide +kernel) ⟨Nat.le_of_ble_eq_true rfl, Nat.le_of_ble_eq_true rfl⟩) rfl hl.1 rfl (Nat.le_of_ble_eq_true rfl) dX8_awaitedBehind_45 ⟨Nat.zero_le _, Nat.zero_le _⟩) hP hS hA (fun H locs hP hS => ?_)
    cases hm
    exact k_end_i hx hb hr hlocks hK hP hD hS dX8_awaitedBehind_48
  · have hm := k_in cs1_0 hm
    by_cases cs1_1 : a0 = 1
    · have hm := k_ip cs1_1 hm
      refine lv_tableIn (off := 48) (tgt := 49) hx hb dX8_awaitedBehind_1 (by rw [cs1_1]; decide +kernel) (by rw [cs1_1]; decide +kernel) (by rw [cs1_1]; decide +kernel) (by decide) ?_
      refine lv_iload_n hx hb dX8_awaitedBehind_49 rfl (lv_at hl 1 rfl) ?_
      obtain ⟨r3, hc50, hm⟩ := k_bds hm
      refine k_i_0 (k_rS (As := [.int a1]) (rest := []) ⟨hx, hb, hml, hown, hts⟩ hK hN k_P0 (k_D0 (A := A)) (zX8_isDieSign hc50) (va_cwS 1 hts gX8_awaitedBehind_X8_isDieSign rfl rfl rfl (by decide +kernel) ⟨Nat.le_of_ble_eq_true rfl, Nat.le_of_ble_eq_true rfl⟩) rfl hl.1 rfl (Nat.le_of_ble_eq_true rfl) dX8_awaitedBehind_50 ⟨Nat.zero_le _, Nat.zero_le _⟩) hP hS hA (fun H locs hP hS => ?_)
      refine lv_if_eq (tgt := 60) hx hb dX8_awaitedBehind_53 (by decide) (fun cc53 => ?_) (fun cc53 => ?_)
      · have hm := k_ip cc53 hm
        refine lv_bipush (v := 7) hx hb dX8_awaitedBehind_60 (by decide) ?_
        cases hm
        exact k_end_i hx hb hr hlocks hK hP hD hS dX8_awaitedBehind_62
      · have hm := k_in cc53 hm
        refine lv_iconst (v := 2) hx hb dX8_awaitedBehind_56 (by decide) ?_
        refine lv_goto (tgt := 62) hx hb dX8_awaitedBehind_57 (by decide) ?_
        cases hm
        exact k_end_i hx hb hr hlocks hK hP hD hS dX8_awaitedBehind_62
    · have hm := k_in cs1_1 hm
      by_cases cs1_2 : a0 = 2
      · have hm := k_ip cs1_2 hm
        refine lv_tableIn (off := 62) (tgt := 63) hx hb dX8_awaitedBehind_1 (by rw [cs1_2]; decide +kernel) (by rw [cs1_2]; decide +kernel) (by rw [cs1_2]; decide +kernel) (by decide) ?_
        refine lv_iload_n hx hb dX8_awaitedBehind_63 rfl (lv_at hl 1 rfl) ?_
        obtain ⟨r4, hc64, hm⟩ := k_bds hm
        refine k_i_0 (k_rS (As := [.int a1]) (rest := []) ⟨hx, hb, hml, hown, hts⟩ hK hN k_P0 (k_D0 (A := A)) (zX8_isDieSign hc64) (va_cwS 1 hts gX8_awaitedBehind_X8_isDieSign rfl rfl rfl (by decide +kernel) ⟨Nat.le_of_ble_eq_true rfl, Nat.le_of_ble_eq_true rfl⟩) rfl hl.1 rfl (Nat.le_of_ble_eq_true rfl) dX8_awaitedBehind_64 ⟨Nat.zero_le _, Nat.zero_le _⟩) hP hS hA (fun H locs hP hS => ?_)
        refine lv_if_eq (tgt := 75) hx hb dX8_awaitedBehind_67 (by decide) (fun cc67 => ?_) (fun cc67 => ?_)
        · have hm := k_ip cc67 hm
          refine lv_bipush (v := 7) hx hb dX8_awaitedBehind_75 (by decide) ?_
          cases hm
          exact k_end_i hx hb hr hlocks hK hP hD hS dX8_awaitedBehind_77
        · have hm := k_in cc67 hm
          refine lv_bipush (v := 6) hx hb dX8_awaitedBehind_70 (by decide) ?_
          refine lv_goto (tgt := 77) hx hb dX8_awaitedBehind_72 (by decide) ?_
          cases hm
          exact k_end_i hx hb hr hlocks hK hP hD hS dX8_awaitedBehind_77
      · have hm := k_in cs1_2 hm
        by_cases cs1_3 : a0 = 3
        · have hm := k_ip cs1_3 hm
          refine lv_tableIn (off := 77) (tgt := 78) hx hb dX8_awaitedBehind_1 (by rw [cs1_3]; decide +kernel) (by rw [cs1_3]; decide +kernel) (by rw [cs1_3]; decide +kernel) (by decide) ?_
          refine lv_iload_n hx hb dX8_awaitedBehind_78 rfl (lv_at hl 1 rfl) ?_
          obtain ⟨r5, hc79, hm⟩ := k_bds hm
          refine k_i_0 (k_rS (As := [.int a1]) (rest := []) ⟨hx, hb, hml, hown, hts⟩ hK hN k_P0 (k_D0 (A := A)) (zX8_awaitedBehindDigit hc79) (va_cwS 1 hts gX8_awaitedBehind_X8_awaitedBehindDigit rfl rfl rfl (by decide +kernel) ⟨Nat.le_of_ble_eq_true rfl, Nat.le_of_ble_eq_true rfl⟩) rfl hl.1 rfl (Nat.le_of_ble_eq_true rfl) dX8_awaitedBehind_79 ⟨Nat.zero_le _, Nat.zero_le _⟩) hP hS hA (fun H locs hP hS => ?_)
          cases hm
          exact k_end_i hx hb hr hlocks hK hP hD hS dX8_awaitedBehind_82
        · have hm := k_in cs1_3 hm
          by_cases cs1_4 : a0 = 4
          · have hm := k_ip cs1_4 hm
            refine lv_tableIn (off := 82) (tgt := 83) hx hb dX8_awaitedBehind_1 (by rw [cs1_4]; decide +kernel) (by rw [cs1_4]; decide +kernel) (by rw [cs1_4]; decide +kernel) (by decide) ?_
            refine lv_iload_n hx hb dX8_awaitedBehind_83 rfl (lv_at hl 1 rfl) ?_
            refine lv_bipush (v := 48) hx hb dX8_awaitedBehind_84 (by decide) ?_
            refine lv_icmp_lt (tgt := 99) hx hb dX8_awaitedBehind_86 (by decide) (fun cc86 => ?_) (fun cc86 => ?_)
            · have hm := k_ip cc86 hm
              exact J_99  _ _ hP hD hS _ (lv_sub hl [1] rfl) hm
            · have hm := k_in cc86 hm
              refine lv_iload_n hx hb dX8_awaitedBehind_89 rfl (lv_at hl 1 rfl) ?_
              refine lv_bipush (v := 53) hx hb dX8_awaitedBehind_90 (by decide) ?_
              refine lv_icmp_gt (tgt := 99) hx hb dX8_awaitedBehind_92 (by decide) (fun cc92 => ?_) (fun cc92 => ?_)
              · have hm := k_ip cc92 hm
                exact J_99  _ _ hP hD hS _ (lv_sub hl [1] rfl) hm
              · have hm := k_in cc92 hm
                refine lv_iconst (v := 5) hx hb dX8_awaitedBehind_95 (by decide) ?_
                refine lv_goto (tgt := 103) hx hb dX8_awaitedBehind_96 (by decide) ?_
                cases hm
                exact k_end_i hx hb hr hlocks hK hP hD hS dX8_awaitedBehind_103
          · have hm := k_in cs1_4 hm
            by_cases cs1_5 : a0 = 5
            · have hm := k_ip cs1_5 hm
              refine lv_tableIn (off := 103) (tgt := 104) hx hb dX8_awaitedBehind_1 (by rw [cs1_5]; decide +kernel) (by rw [cs1_5]; decide +kernel) (by rw [cs1_5]; decide +kernel) (by decide) ?_
              refine lv_iload_n hx hb dX8_awaitedBehind_104 rfl (lv_at hl 1 rfl) ?_
              obtain ⟨r6, hc105, hm⟩ := k_bds hm
              refine k_i_0 (k_rS (As := [.int a1]) (rest := []) ⟨hx, hb, hml, hown, hts⟩ hK hN k_P0 (k_D0 (A := A)) (zX8_awaitedBehindDot hc105) (va_cwS 1 hts gX8_awaitedBehind_X8_awaitedBehindDot rfl rfl rfl (by decide +kernel) ⟨Nat.le_of_ble_eq_true rfl, Nat.le_of_ble_eq_true rfl⟩) rfl hl.1 rfl (Nat.le_of_ble_eq_true rfl) dX8_awaitedBehind_105 ⟨Nat.zero_le _, Nat.zero_le _⟩) hP hS hA (fun H locs hP hS => ?_)
              cases hm
              exact k_end_i hx hb hr hlocks hK hP hD hS dX8_awaitedBehind_108
            · have hm := k_in cs1_5 hm
              by_cases cs1_6 : a0 = 6
              · have hm := k_ip cs1_6 hm
                refine lv_tableIn (off := 108) (tgt := 109) hx hb dX8_awaitedBehind_1 (by rw [cs1_6]; decide +kernel) (by rw [cs1_6]; decide +kernel) (by rw [cs1_6]; decide +kernel) (by decide) ?_
                refine lv_iload_n hx hb dX8_awaitedBehind_109 rfl (lv_at hl 1 rfl) ?_
                refine lv_bipush (v := 59) hx hb dX8_awaitedBehind_110 (by decide) ?_
                refine lv_icmp_ne (tgt := 119) hx hb dX8_awaitedBehind_112 (by decide) (fun cc112 => ?_) (fun cc112 => ?_)
                · have hm := k_in cc112 hm
                  refine lv_bipush (v := 7) hx hb dX8_awaitedBehind_119 (by decide) ?_
                  cases hm
                  exact k_end_i hx hb hr hlocks hK hP hD hS dX8_awaitedBehind_121
                · have hm := k_ip cc112 hm
                  refine lv_iconst (v := 0) hx hb dX8_awaitedBehind_115 (by decide) ?_
                  refine lv_goto (tgt := 121) hx hb dX8_awaitedBehind_116 (by decide) ?_
                  cases hm
                  exact k_end_i hx hb hr hlocks hK hP hD hS dX8_awaitedBehind_121
              · have hm := k_in cs1_6 hm
                refine k_tabD (tgt := 122) [0, 1, 2, 3, 4, 5, 6] hx hb dX8_awaitedBehind_1 (by decide) (by decide +kernel) (by decide +kernel) (by intro k hk; simp only [List.mem_cons, List.not_mem_nil, or_false] at hk; rcases hk with rfl | rfl | rfl | rfl | rfl | rfl | rfl <;> assumption) ?_
                refine lv_bipush (v := 7) hx hb dX8_awaitedBehind_122 (by decide) ?_
                cases hm
                exact k_end_i hx hb hr hlocks hK hP hD hS dX8_awaitedBehind_124

abbrev rmX8_firstWrong : Room := { frames := 3, cells := 0, slots := 0, locals := 61 }
set_option maxHeartbeats 4000000 in
set_option maxRecDepth 100000 in
theorem zX8_firstWrong {l : Launch} {D : va_G} {cI cJ cC cG : ClassId} {sz : Nat} {ad : Nat → Nat} {c_signs : Nat → Int32} {c_length : Int32} {r : Int32} (hm : mX8_firstWrong c_signs c_length = some (r)) : k_Mi l yX8_firstWrong wsX8_firstWrong rmX8_firstWrong D (kT cI cJ cC cG) sz ([.ref (ad 0)] : List Value) (wT cC ad c_signs c_length) (wT cC ad c_signs c_length) r := by
  refine k_st_i (cc := cX8_firstWrong) (maxL := 3) (by decide) rfl (Nat.le_of_ble_eq_true rfl) ?_
  intro p e z m below meth c A hx hb hr hml hts hown hlocks hsz hN hA hK hP hD hS ls hl
  have hown : z.vm.findClass RX8 = some m.cls := hown
  have hinX8 : ∀ w ∈ wsX80, w ∈ wsX8_firstWrong := by decide +kernel
  have fl13 := hts (.fieldLink RX8 13 "MagpieRuns$Text" "length" "I") (by decide +kernel)
  have hl : lv_has ls 3 [(0, .ref (ad 0))] := hl
  have J_4 := k_loop (z := fun _ _ => none) (st := mX8_firstWrong_4 c_signs c_length) (fun k4 : (Int32) → (Int32) → Option (Int32) => ∀ (l1 : Int32) (l2 : Int32) (H : Heap) (locs : List Loc), va_P D vwCl (wT cC ad c_signs c_length) H → va_D A (wT cC ad c_signs c_length) → va_S A z.heap H locs → ∀ ls : Array Slot, lv_has ls 3 [(0, .ref (ad 0)), (1, .int l1), (2, .int l2)] → k4 l1 l2 = some (r) → W p l e rmX8_firstWrong z m ([.ref (ad 0)] : List Value).toArray below meth c H locs 0 0 (k_Qi below ([.ref (ad 0)] : List Value) D (kT cI cJ cC cG) z A (wT cC ad c_signs c_length) r) (F0 m 4 ls [])) (by intros; contradiction) (by
    intro k4 ih4
    intro l1 l2 H locs hP hD hS ls hl hm
    unfold mX8_firstWrong_4 at hm
    refine lv_iload_n hx hb dX8_firstWrong_4 rfl (lv_at hl 2 rfl) ?_
    refine lv_aload_n hx hb dX8_firstWrong_5 rfl (lv_at hl 0 rfl) ?_
    refine va_get (D := D) (ci := 4) (v := .int c_length) (C := RX8) (T := TX8) (N := 2) hx hb hts hinX8 hown hK hP 0 rfl rfl 1 (by decide) fl13 (fun _ h9 => h9) rfl dX8_firstWrong_6 ?_
    refine lv_icmp_ge (tgt := 36) hx hb dX8_firstWrong_9 (by decide) (fun cc9 => ?_) (fun cc9 => ?_)
    · have hm := k_ip cc9 hm
      refine lv_aload_n hx hb dX8_firstWrong_36 rfl (lv_at hl 0 rfl) ?_
      refine va_get (D := D) (ci := 4) (v := .int c_length) (C := RX8) (T := TX8) (N := 2) hx hb hts hinX8 hown hK hP 0 rfl rfl 1 (by decide) fl13 (fun _ h9 => h9) rfl dX8_firstWrong_37 ?_
      cases hm
      exact k_end_i hx hb hr hlocks hK hP hD hS dX8_firstWrong_40
    · have hm := k_in cc9 hm
      refine lv_iload_n hx hb dX8_firstWrong_12 rfl (lv_at hl 1 rfl) ?_
      refine lv_aload_n hx hb dX8_firstWrong_13 rfl (lv_at hl 0 rfl) ?_
      refine lv_iload_n hx hb dX8_firstWrong_14 rfl (lv_at hl 2 rfl) ?_
      obtain ⟨r1, hc15, hm⟩ := k_bds hm
      refine k_i_s (k_rV (As := [.int l2]) (rest := [.int l1]) ⟨hx, hb, hml, hown, hts⟩ hK hN hP hD (zX8_at hc15) (cwV 1 hts gX8_firstWrong_X8_at rfl rfl rfl (by decide +kernel) ⟨Nat.le_of_ble_eq_true rfl, Nat.le_of_ble_eq_true rfl⟩) rfl rfl rfl hl.1 rfl (Nat.le_of_ble_eq_true rfl) dX8_firstWrong_15 ⟨Nat.zero_le _, Nat.zero_le _⟩) hD hS hA (fun H locs hP hD hS => ?_)
      obtain ⟨r2, hc18, hm⟩ := k_bds hm
      refine k_i_0 (k_rS (As := [.int l1, .int r1]) (rest := []) ⟨hx, hb, hml, hown, hts⟩ hK hN k_P0 (k_D0 (A := A)) (zX8_awaitedBehind hc18) (va_cwS 2 hts gX8_firstWrong_X8_awaitedBehind rfl rfl rfl (by decide +kernel) ⟨Nat.le_of_ble_eq_true rfl, Nat.le_of_ble_eq_true rfl⟩) rfl hl.1 rfl (Nat.le_of_ble_eq_true rfl) dX8_firstWrong_18 ⟨Nat.zero_le _, Nat.zero_le _⟩) hP hS hA (fun H locs hP hS => ?_)
      refine lv_istore_n (lv' := [(1, .int r2), (0, .ref (ad 0)), (2, .int l2)]) hx hb dX8_firstWrong_21 rfl hl (by decide) rfl (fun ls hl => ?_)
      refine lv_iload_n hx hb dX8_firstWrong_22 rfl (lv_at hl 0 rfl) ?_
      refine lv_bipush (v := 7) hx hb dX8_firstWrong_23 (by decide) ?_
      refine lv_icmp_ne (tgt := 30) hx hb dX8_firstWrong_25 (by decide) (fun cc25 => ?_) (fun cc25 => ?_)
      · have hm := k_in cc25 hm
        refine lv_iinc (v := (l2 + 1)) (lv' := [(2, .int (l2 + 1)), (1, .int r2), (0, .ref (ad 0))]) hx hb dX8_firstWrong_30 hl (k := 2) rfl rfl (by decide) rfl (fun ls hl => ?_)
        refine lv_goto (tgt := 4) hx hb dX8_firstWrong_33 (by decide) ?_
        exact ih4 r2 (l2 + 1) _ _ hP hD hS _ (lv_sub hl [2, 1, 0] rfl) hm
      · have hm := k_ip cc25 hm
        refine lv_iload_n hx hb dX8_firstWrong_28 rfl (lv_at hl 2 rfl) ?_
        cases hm
        exact k_end_i hx hb hr hlocks hK hP hD hS dX8_firstWrong_29) k_F
  unfold mX8_firstWrong at hm
  refine lv_iconst (v := 0) hx hb dX8_firstWrong_0 (by decide) ?_
  refine lv_istore_n (lv' := [(1, .int 0), (0, .ref (ad 0))]) hx hb dX8_firstWrong_1 rfl hl (by decide) rfl (fun ls hl => ?_)
  refine lv_iconst (v := 0) hx hb dX8_firstWrong_2 (by decide) ?_
  refine lv_istore_n (lv' := [(2, .int 0), (1, .int 0), (0, .ref (ad 0))]) hx hb dX8_firstWrong_3 rfl hl (by decide) rfl (fun ls hl => ?_)
  exact J_4 0 0 _ _ hP hD hS _ (lv_sub hl [2, 1, 0] rfl) hm

abbrev rmX8_isGame : Room := { frames := 3, cells := 0, slots := 0, locals := 61 }
set_option maxHeartbeats 4000000 in
set_option maxRecDepth 100000 in
theorem zX8_isGame {l : Launch} {D : va_G} {cI cJ cC cG : ClassId} {sz : Nat} {ad : Nat → Nat} {c_signs : Nat → Int32} {c_length : Int32} {r : Bool} (hm : mX8_isGame c_signs c_length = some (r)) : k_Mi l yX8_isGame wsX8_isGame rmX8_isGame D (kT cI cJ cC cG) sz ([.ref (ad 0)] : List Value) (wT cC ad c_signs c_length) (wT cC ad c_signs c_length) (k_b r) := by
  refine k_st_i (cc := cX8_isGame) (maxL := 3) (by decide) rfl (Nat.le_of_ble_eq_true rfl) ?_
  intro p e z m below meth c A hx hb hr hml hts hown hlocks hsz hN hA hK hP hD hS ls hl
  have hown : z.vm.findClass RX8 = some m.cls := hown
  have hinX8 : ∀ w ∈ wsX80, w ∈ wsX8_isGame := by decide +kernel
  have fl13 := hts (.fieldLink RX8 13 "MagpieRuns$Text" "length" "I") (by decide +kernel)
  have hl : lv_has ls 3 [(0, .ref (ad 0))] := hl
  have J_4 := k_loop (z := fun _ _ => none) (st := mX8_isGame_4 c_signs c_length) (fun k4 : (Int32) → (Int32) → Option (Bool) => ∀ (l1 : Int32) (l2 : Int32) (H : Heap) (locs : List Loc), va_P D vwCl (wT cC ad c_signs c_length) H → va_D A (wT cC ad c_signs c_length) → va_S A z.heap H locs → ∀ ls : Array Slot, lv_has ls 3 [(0, .ref (ad 0)), (1, .int l1), (2, .int l2)] → k4 l1 l2 = some (r) → W p l e rmX8_isGame z m ([.ref (ad 0)] : List Value).toArray below meth c H locs 0 0 (k_Qi below ([.ref (ad 0)] : List Value) D (kT cI cJ cC cG) z A (wT cC ad c_signs c_length) (k_b r)) (F0 m 4 ls [])) (by intros; contradiction) (by
    intro k4 ih4
    intro l1 l2 H locs hP hD hS ls hl hm
    unfold mX8_isGame_4 at hm
    refine lv_iload_n hx hb dX8_isGame_4 rfl (lv_at hl 2 rfl) ?_
    refine lv_aload_n hx hb dX8_isGame_5 rfl (lv_at hl 0 rfl) ?_
    refine va_get (D := D) (ci := 4) (v := .int c_length) (C := RX8) (T := TX8) (N := 2) hx hb hts hinX8 hown hK hP 0 rfl rfl 1 (by decide) fl13 (fun _ h9 => h9) rfl dX8_isGame_6 ?_
    refine lv_icmp_ge (tgt := 28) hx hb dX8_isGame_9 (by decide) (fun cc9 => ?_) (fun cc9 => ?_)
    · have hm := k_ip cc9 hm
      refine lv_iload_n hx hb dX8_isGame_28 rfl (lv_at hl 1 rfl) ?_
      refine lv_bipush (v := 6) hx hb dX8_isGame_29 (by decide) ?_
      refine lv_icmp_ne (tgt := 38) hx hb dX8_isGame_31 (by decide) (fun cc31 => ?_) (fun cc31 => ?_)
      · have hm := k_in cc31 hm
        refine lv_iconst (v := 0) hx hb dX8_isGame_38 (by decide) ?_
        cases hm
        exact k_end_z false hx hb hr hlocks hK hP hD hS dX8_isGame_39
      · have hm := k_ip cc31 hm
        refine lv_iconst (v := 1) hx hb dX8_isGame_34 (by decide) ?_
        refine lv_goto (tgt := 39) hx hb dX8_isGame_35 (by decide) ?_
        cases hm
        exact k_end_z true hx hb hr hlocks hK hP hD hS dX8_isGame_39
    · have hm := k_in cc9 hm
      refine lv_iload_n hx hb dX8_isGame_12 rfl (lv_at hl 1 rfl) ?_
      refine lv_aload_n hx hb dX8_isGame_13 rfl (lv_at hl 0 rfl) ?_
      refine lv_iload_n hx hb dX8_isGame_14 rfl (lv_at hl 2 rfl) ?_
      obtain ⟨r1, hc15, hm⟩ := k_bds hm
      refine k_i_s (k_rV (As := [.int l2]) (rest := [.int l1]) ⟨hx, hb, hml, hown, hts⟩ hK hN hP hD (zX8_at hc15) (cwV 1 hts gX8_isGame_X8_at rfl rfl rfl (by decide +kernel) ⟨Nat.le_of_ble_eq_true rfl, Nat.le_of_ble_eq_true rfl⟩) rfl rfl rfl hl.1 rfl (Nat.le_of_ble_eq_true rfl) dX8_isGame_15 ⟨Nat.zero_le _, Nat.zero_le _⟩) hD hS hA (fun H locs hP hD hS => ?_)
      obtain ⟨r2, hc18, hm⟩ := k_bds hm
      refine k_i_0 (k_rS (As := [.int l1, .int r1]) (rest := []) ⟨hx, hb, hml, hown, hts⟩ hK hN k_P0 (k_D0 (A := A)) (zX8_awaitedBehind hc18) (va_cwS 2 hts gX8_isGame_X8_awaitedBehind rfl rfl rfl (by decide +kernel) ⟨Nat.le_of_ble_eq_true rfl, Nat.le_of_ble_eq_true rfl⟩) rfl hl.1 rfl (Nat.le_of_ble_eq_true rfl) dX8_isGame_18 ⟨Nat.zero_le _, Nat.zero_le _⟩) hP hS hA (fun H locs hP hS => ?_)
      refine lv_istore_n (lv' := [(1, .int r2), (0, .ref (ad 0)), (2, .int l2)]) hx hb dX8_isGame_21 rfl hl (by decide) rfl (fun ls hl => ?_)
      refine lv_iinc (v := (l2 + 1)) (lv' := [(2, .int (l2 + 1)), (1, .int r2), (0, .ref (ad 0))]) hx hb dX8_isGame_22 hl (k := 2) rfl rfl (by decide) rfl (fun ls hl => ?_)
      refine lv_goto (tgt := 4) hx hb dX8_isGame_25 (by decide) ?_
      exact ih4 r2 (l2 + 1) _ _ hP hD hS _ (lv_sub hl [2, 1, 0] rfl) hm) k_F
  unfold mX8_isGame at hm
  refine lv_iconst (v := 0) hx hb dX8_isGame_0 (by decide) ?_
  refine lv_istore_n (lv' := [(1, .int 0), (0, .ref (ad 0))]) hx hb dX8_isGame_1 rfl hl (by decide) rfl (fun ls hl => ?_)
  refine lv_iconst (v := 0) hx hb dX8_isGame_2 (by decide) ?_
  refine lv_istore_n (lv' := [(2, .int 0), (1, .int 0), (0, .ref (ad 0))]) hx hb dX8_isGame_3 rfl hl (by decide) rfl (fun ls hl => ?_)
  exact J_4 0 0 _ _ hP hD hS _ (lv_sub hl [2, 1, 0] rfl) hm

