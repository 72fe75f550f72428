abbrev rmX10_canEnd : Room := { frames := 7, cells := 0, slots := 0, locals := 168 }
set_option maxHeartbeats 4000000 in
set_option maxRecDepth 100000 in
theorem zX10_canEnd {l : Launch} {D : va_G} {cI cJ cC cG : ClassId} {sz : Nat} {ad : Nat → Nat} {c_s : Nat → Int32} {c_before : Nat → Int32} {c_known : Int32} {c_kept : Nat → Int32} {c_isKept : Bool} {c_aside : Nat → Int32} {c_buffer : Nat → Int32} {c_length : Int32} {c_thrown : Int32} {c_laid : Nat → Int32} {c_spot : Int32} {c_isWrong : Bool} {c_isHalted : Bool} {c_mine : Nat → Int64} {c_theirs : Nat → Int64} {c_many : Int32} {c_from0 : Nat → Int64} {c_from1 : Nat → Int64} {c_dice : Nat → Int32} {c_hash : Int64} {r : Bool} {c_s' : Nat → Int32} {c_laid' : Nat → Int32} (hm : mX10_canEnd c_s c_laid = some (r, c_s', c_laid')) : k_Mi l yX10_canEnd wsX10_canEnd rmX10_canEnd D (kT cI cJ cC cG) sz ([.ref (ad 0)] : List Value) (wM cI cJ ad c_s c_before c_known c_kept c_isKept c_aside c_buffer c_length c_thrown c_laid c_spot c_isWrong c_isHalted c_mine c_theirs c_many c_from0 c_from1 c_dice c_hash) (wM cI cJ ad c_s' c_before c_known c_kept c_isKept c_aside c_buffer c_length c_thrown c_laid' c_spot c_isWrong c_isHalted c_mine c_theirs c_many c_from0 c_from1 c_dice c_hash) (k_b r) := by
  refine k_st_i (cc := cX10_canEnd) (maxL := 1) (by decide) rfl (Nat.le_of_ble_eq_true rfl) ?_
  intro p e z m below meth c A hx hb hr hml hts hown hlocks hsz hN hA hK hP hD hS ls hl
  have hown : z.vm.findClass RX10 = some m.cls := hown
  have hinX10 : ∀ w ∈ wsX100, w ∈ wsX10_canEnd := by decide +kernel
  have fl7 := hts (.fieldLink RX10 7 "MagpieRunsModel" "s" "[I") (by decide +kernel)
  have hl : lv_has ls 1 [(0, .ref (ad 0))] := hl
  unfold mX10_canEnd at hm
  refine lv_aload_n hx hb dX10_canEnd_0 rfl (lv_at hl 0 rfl) ?_
  refine va_get (D := D) (ci := 6) (v := .ref (ad 1)) (C := RX10) (T := TX10) (N := 20) hx hb hts hinX10 hown hK hP 0 rfl rfl 0 (by decide) fl7 (fun _ h9 => h9) rfl dX10_canEnd_1 ?_
  refine lv_bipush (v := 37) hx hb dX10_canEnd_4 (by decide) ?_
  refine k_iaC hx hb hK hP 1 0 rfl rfl kl_37 ki_37_51 dX10_canEnd_6 ?_
  refine lv_iconst (v := 1) hx hb dX10_canEnd_7 (by decide) ?_
  refine lv_icmp_ne (tgt := 22) hx hb dX10_canEnd_8 (by decide) (fun cc8 => ?_) (fun cc8 => ?_)
  · have hm := k_in cc8 hm
    refine lv_iconst (v := 0) hx hb dX10_canEnd_22 (by decide) ?_
    cases hm
    exact k_end_z false hx hb hr hlocks hK hP hD hS dX10_canEnd_23
  · have hm := k_ip cc8 hm
    refine lv_aload_n hx hb dX10_canEnd_11 rfl (lv_at hl 0 rfl) ?_
    obtain ⟨r1, w2, w3, hc12, hm⟩ := k_bd3s hm
    refine k_i_s (k_rV (As := []) (rest := []) ⟨hx, hb, hml, hown, hts⟩ hK hN hP hD (zX10_reaches hc12) (cwV 0 hts gX10_canEnd_X10_reaches rfl rfl rfl (by decide +kernel) ⟨Nat.le_of_ble_eq_true rfl, Nat.le_of_ble_eq_true rfl⟩) rfl rfl rfl hl.1 rfl (Nat.le_of_ble_eq_true rfl) dX10_canEnd_12 ⟨Nat.zero_le _, Nat.zero_le _⟩) hD hS hA (fun H locs hP hD hS => ?_)
    refine lv_if_ne (tgt := 22) hx hb dX10_canEnd_15 (by decide) (fun cc15 => ?_) (fun cc15 => ?_)
    · have hm := k_in cc15 hm
      refine lv_iconst (v := 0) hx hb dX10_canEnd_22 (by decide) ?_
      cases hm
      exact k_end_z false hx hb hr hlocks hK hP hD hS dX10_canEnd_23
    · have hm := k_ip cc15 hm
      refine lv_iconst (v := 1) hx hb dX10_canEnd_18 (by decide) ?_
      refine lv_goto (tgt := 23) hx hb dX10_canEnd_19 (by decide) ?_
      cases hm
      exact k_end_z true hx hb hr hlocks hK hP hD hS dX10_canEnd_23

abbrev rmX10_ends : Room := { frames := 1, cells := 0, slots := 0, locals := 21 }
set_option maxHeartbeats 4000000 in
set_option maxRecDepth 100000 in
theorem zX10_ends {l : Launch} {D : va_G} {cI cJ cC cG : ClassId} {sz : Nat} {ad : Nat → Nat} {c_s : Nat → Int32} {c_before : Nat → Int32} {c_known : Int32} {c_kept : Nat → Int32} {c_isKept : Bool} {c_aside : Nat → Int32} {c_buffer : Nat → Int32} {c_length : Int32} {c_thrown : Int32} {c_laid : Nat → Int32} {c_spot : Int32} {c_isWrong : Bool} {c_isHalted : Bool} {c_mine : Nat → Int64} {c_theirs : Nat → Int64} {c_many : Int32} {c_from0 : Nat → Int64} {c_from1 : Nat → Int64} {c_dice : Nat → Int32} {c_hash : Int64} {r : Int32} {c_s' : Nat → Int32} (hm : mX10_ends c_s = some (r, c_s')) : k_Mi l yX10_ends wsX10_ends rmX10_ends D (kT cI cJ cC cG) sz ([.ref (ad 0)] : List Value) (wM cI cJ ad c_s c_before c_known c_kept c_isKept c_aside c_buffer c_length c_thrown c_laid c_spot c_isWrong c_isHalted c_mine c_theirs c_many c_from0 c_from1 c_dice c_hash) (wM cI cJ ad c_s' c_before c_known c_kept c_isKept c_aside c_buffer c_length c_thrown c_laid c_spot c_isWrong c_isHalted c_mine c_theirs c_many c_from0 c_from1 c_dice c_hash) r := by
  refine k_st_i (cc := cX10_ends) (maxL := 1) (by decide) rfl (Nat.le_of_ble_eq_true rfl) ?_
  intro p e z m below meth c A hx hb hr hml hts hown hlocks hsz hN hA hK hP hD hS ls hl
  have hown : z.vm.findClass RX10 = some m.cls := hown
  have hinX10 : ∀ w ∈ wsX100, w ∈ wsX10_ends := by decide +kernel
  have fl7 := hts (.fieldLink RX10 7 "MagpieRunsModel" "s" "[I") (by decide +kernel)
  have hl : lv_has ls 1 [(0, .ref (ad 0))] := hl
  unfold mX10_ends at hm
  refine lv_aload_n hx hb dX10_ends_0 rfl (lv_at hl 0 rfl) ?_
  obtain ⟨w1, hc1, hm⟩ := k_bds hm
  refine k_v_s (k_rV (As := []) (rest := []) ⟨hx, hb, hml, hown, hts⟩ hK hN hP hD (zX10_clearDice hc1) (cwV 0 hts gX10_ends_X10_clearDice rfl rfl rfl (by decide +kernel) ⟨Nat.le_of_ble_eq_true rfl, Nat.le_of_ble_eq_true rfl⟩) rfl rfl rfl hl.1 rfl (Nat.le_of_ble_eq_true rfl) dX10_ends_1 ⟨Nat.zero_le _, Nat.zero_le _⟩) hD hS hA (fun H locs hP hD hS => ?_)
  refine lv_aload_n hx hb dX10_ends_4 rfl (lv_at hl 0 rfl) ?_
  refine va_get (D := D) (ci := 6) (v := .ref (ad 1)) (C := RX10) (T := TX10) (N := 20) hx hb hts hinX10 hown hK hP 0 rfl rfl 0 (by decide) fl7 (fun _ h9 => h9) rfl dX10_ends_5 ?_
  refine lv_bipush (v := 37) hx hb dX10_ends_8 (by decide) ?_
  refine lv_iconst (v := 0) hx hb dX10_ends_10 (by decide) ?_
  refine k_isC hx hb hK hP hD hS 1 0 rfl rfl kl_37 ki_37_51 dX10_ends_11 (fun H locs hP hD hS => ?_)
  have hP : va_P D vwCl (wM cI cJ ad (upd w1 37 0) c_before c_known c_kept c_isKept c_aside c_buffer c_length c_thrown c_laid c_spot c_isWrong c_isHalted c_mine c_theirs c_many c_from0 c_from1 c_dice c_hash) H := hP
  have hD : va_D A (wM cI cJ ad (upd w1 37 0) c_before c_known c_kept c_isKept c_aside c_buffer c_length c_thrown c_laid c_spot c_isWrong c_isHalted c_mine c_theirs c_many c_from0 c_from1 c_dice c_hash) := hD
  refine lv_aload_n hx hb dX10_ends_12 rfl (lv_at hl 0 rfl) ?_
  refine va_get (D := D) (ci := 6) (v := .ref (ad 1)) (C := RX10) (T := TX10) (N := 20) hx hb hts hinX10 hown hK hP 0 rfl rfl 0 (by decide) fl7 (fun _ h9 => h9) rfl dX10_ends_13 ?_
  refine lv_bipush (v := 36) hx hb dX10_ends_16 (by decide) ?_
  refine lv_iconst (v := 1) hx hb dX10_ends_18 (by decide) ?_
  refine lv_aload_n hx hb dX10_ends_19 rfl (lv_at hl 0 rfl) ?_
  refine va_get (D := D) (ci := 6) (v := .ref (ad 1)) (C := RX10) (T := TX10) (N := 20) hx hb hts hinX10 hown hK hP 0 rfl rfl 0 (by decide) fl7 (fun _ h9 => h9) rfl dX10_ends_20 ?_
  refine lv_bipush (v := 36) hx hb dX10_ends_23 (by decide) ?_
  refine k_iaC hx hb hK hP 1 0 rfl rfl kl_36 ki_36_51 dX10_ends_25 ?_
  refine lv_isub hx hb dX10_ends_26 ?_
  refine k_isC hx hb hK hP hD hS 1 0 rfl rfl kl_36 ki_36_51 dX10_ends_27 (fun H locs hP hD hS => ?_)
  have hP : va_P D vwCl (wM cI cJ ad (upd (upd w1 37 0) 36 (1 - ((upd w1 37 0) 36))) c_before c_known c_kept c_isKept c_aside c_buffer c_length c_thrown c_laid c_spot c_isWrong c_isHalted c_mine c_theirs c_many c_from0 c_from1 c_dice c_hash) H := hP
  have hD : va_D A (wM cI cJ ad (upd (upd w1 37 0) 36 (1 - ((upd w1 37 0) 36))) c_before c_known c_kept c_isKept c_aside c_buffer c_length c_thrown c_laid c_spot c_isWrong c_isHalted c_mine c_theirs c_many c_from0 c_from1 c_dice c_hash) := hD
  refine lv_aload_n hx hb dX10_ends_28 rfl (lv_at hl 0 rfl) ?_
  refine va_get (D := D) (ci := 6) (v := .ref (ad 1)) (C := RX10) (T := TX10) (N := 20) hx hb hts hinX10 hown hK hP 0 rfl rfl 0 (by decide) fl7 (fun _ h9 => h9) rfl dX10_ends_29 ?_
  refine lv_bipush (v := 36) hx hb dX10_ends_32 (by decide) ?_
  refine k_iaC hx hb hK hP 1 0 rfl rfl kl_36 ki_36_51 dX10_ends_34 ?_
  cases hm
  exact k_end_i hx hb hr hlocks hK hP hD hS dX10_ends_35

abbrev rmX10_canOffer : Room := { frames := 0, cells := 0, slots := 0, locals := 0 }
set_option maxHeartbeats 4000000 in
set_option maxRecDepth 100000 in
theorem zX10_canOffer {l : Launch} {D : va_G} {cI cJ cC cG : ClassId} {sz : Nat} {ad : Nat → Nat} {c_s : Nat → Int32} {c_before : Nat → Int32} {c_known : Int32} {c_kept : Nat → Int32} {c_isKept : Bool} {c_aside : Nat → Int32} {c_buffer : Nat → Int32} {c_length : Int32} {c_thrown : Int32} {c_laid : Nat → Int32} {c_spot : Int32} {c_isWrong : Bool} {c_isHalted : Bool} {c_mine : Nat → Int64} {c_theirs : Nat → Int64} {c_many : Int32} {c_from0 : Nat → Int64} {c_from1 : Nat → Int64} {c_dice : Nat → Int32} {c_hash : Int64} {r : Bool} (hm : mX10_canOffer c_s = some (r)) : k_Mi l yX10_canOffer wsX10_canOffer rmX10_canOffer D (kT cI cJ cC cG) sz ([.ref (ad 0)] : List Value) (wM cI cJ ad c_s c_before c_known c_kept c_isKept c_aside c_buffer c_length c_thrown c_laid c_spot c_isWrong c_isHalted c_mine c_theirs c_many c_from0 c_from1 c_dice c_hash) (wM cI cJ ad c_s c_before c_known c_kept c_isKept c_aside c_buffer c_length c_thrown c_laid c_spot c_isWrong c_isHalted c_mine c_theirs c_many c_from0 c_from1 c_dice c_hash) (k_b r) := by
  refine k_st_i (cc := cX10_canOffer) (maxL := 1) (by decide) rfl (Nat.le_of_ble_eq_true rfl) ?_
  intro p e z m below meth c A hx hb hr hml hts hown hlocks hsz hN hA hK hP hD hS ls hl
  have hown : z.vm.findClass RX10 = some m.cls := hown
  have hinX10 : ∀ w ∈ wsX100, w ∈ wsX10_canOffer := by decide +kernel
  have fl7 := hts (.fieldLink RX10 7 "MagpieRunsModel" "s" "[I") (by decide +kernel)
  have hl : lv_has ls 1 [(0, .ref (ad 0))] := hl
  unfold mX10_canOffer at hm
  refine lv_aload_n hx hb dX10_canOffer_0 rfl (lv_at hl 0 rfl) ?_
  refine va_get (D := D) (ci := 6) (v := .ref (ad 1)) (C := RX10) (T := TX10) (N := 20) hx hb hts hinX10 hown hK hP 0 rfl rfl 0 (by decide) fl7 (fun _ h9 => h9) rfl dX10_canOffer_1 ?_
  refine lv_bipush (v := 37) hx hb dX10_canOffer_4 (by decide) ?_
  refine k_iaC hx hb hK hP 1 0 rfl rfl kl_37 ki_37_51 dX10_canOffer_6 ?_
  refine lv_if_ne (tgt := 45) hx hb dX10_canOffer_7 (by decide) (fun cc7 => ?_) (fun cc7 => ?_)
  · have hm := k_in cc7 hm
    refine lv_iconst (v := 0) hx hb dX10_canOffer_45 (by decide) ?_
    cases hm
    exact k_end_z false hx hb hr hlocks hK hP hD hS dX10_canOffer_46
  · have hm := k_ip cc7 hm
    refine lv_aload_n hx hb dX10_canOffer_10 rfl (lv_at hl 0 rfl) ?_
    refine va_get (D := D) (ci := 6) (v := .ref (ad 1)) (C := RX10) (T := TX10) (N := 20) hx hb hts hinX10 hown hK hP 0 rfl rfl 0 (by decide) fl7 (fun _ h9 => h9) rfl dX10_canOffer_11 ?_
    refine lv_bipush (v := 44) hx hb dX10_canOffer_14 (by decide) ?_
    refine k_iaC hx hb hK hP 1 0 rfl rfl kl_44 ki_44_51 dX10_canOffer_16 ?_
    refine lv_iconst (v := 1) hx hb dX10_canOffer_17 (by decide) ?_
    refine lv_aload_n hx hb dX10_canOffer_18 rfl (lv_at hl 0 rfl) ?_
    refine va_get (D := D) (ci := 6) (v := .ref (ad 1)) (C := RX10) (T := TX10) (N := 20) hx hb hts hinX10 hown hK hP 0 rfl rfl 0 (by decide) fl7 (fun _ h9 => h9) rfl dX10_canOffer_19 ?_
    refine lv_bipush (v := 36) hx hb dX10_canOffer_22 (by decide) ?_
    refine k_iaC hx hb hK hP 1 0 rfl rfl kl_36 ki_36_51 dX10_canOffer_24 ?_
    refine lv_isub hx hb dX10_canOffer_25 ?_
    refine lv_icmp_eq (tgt := 45) hx hb dX10_canOffer_26 (by decide) (fun cc26 => ?_) (fun cc26 => ?_)
    · have hm := k_ip cc26 hm
      refine lv_iconst (v := 0) hx hb dX10_canOffer_45 (by decide) ?_
      cases hm
      exact k_end_z false hx hb hr hlocks hK hP hD hS dX10_canOffer_46
    · have hm := k_in cc26 hm
      refine lv_aload_n hx hb dX10_canOffer_29 rfl (lv_at hl 0 rfl) ?_
      refine va_get (D := D) (ci := 6) (v := .ref (ad 1)) (C := RX10) (T := TX10) (N := 20) hx hb hts hinX10 hown hK hP 0 rfl rfl 0 (by decide) fl7 (fun _ h9 => h9) rfl dX10_canOffer_30 ?_
      refine lv_bipush (v := 43) hx hb dX10_canOffer_33 (by decide) ?_
      refine k_iaC hx hb hK hP 1 0 rfl rfl kl_43 ki_43_51 dX10_canOffer_35 ?_
      refine lv_bipush (v := 32) hx hb dX10_canOffer_36 (by decide) ?_
      refine lv_icmp_gt (tgt := 45) hx hb dX10_canOffer_38 (by decide) (fun cc38 => ?_) (fun cc38 => ?_)
      · have hm := k_ip cc38 hm
        refine lv_iconst (v := 0) hx hb dX10_canOffer_45 (by decide) ?_
        cases hm
        exact k_end_z false hx hb hr hlocks hK hP hD hS dX10_canOffer_46
      · have hm := k_in cc38 hm
        refine lv_iconst (v := 1) hx hb dX10_canOffer_41 (by decide) ?_
        refine lv_goto (tgt := 46) hx hb dX10_canOffer_42 (by decide) ?_
        cases hm
        exact k_end_z true hx hb hr hlocks hK hP hD hS dX10_canOffer_46

abbrev rmX10_offers : Room := { frames := 0, cells := 0, slots := 0, locals := 0 }
set_option maxHeartbeats 4000000 in
set_option maxRecDepth 100000 in
theorem zX10_offers {l : Launch} {D : va_G} {cI cJ cC cG : ClassId} {sz : Nat} {ad : Nat → Nat} {c_s : Nat → Int32} {c_before : Nat → Int32} {c_known : Int32} {c_kept : Nat → Int32} {c_isKept : Bool} {c_aside : Nat → Int32} {c_buffer : Nat → Int32} {c_length : Int32} {c_thrown : Int32} {c_laid : Nat → Int32} {c_spot : Int32} {c_isWrong : Bool} {c_isHalted : Bool} {c_mine : Nat → Int64} {c_theirs : Nat → Int64} {c_many : Int32} {c_from0 : Nat → Int64} {c_from1 : Nat → Int64} {c_dice : Nat → Int32} {c_hash : Int64} {r : Int32} {c_s' : Nat → Int32} (hm : mX10_offers c_s = some (r, c_s')) : k_Mi l yX10_offers wsX10_offers rmX10_offers D (kT cI cJ cC cG) sz ([.ref (ad 0)] : List Value) (wM cI cJ ad c_s c_before c_known c_kept c_isKept c_aside c_buffer c_length c_thrown c_laid c_spot c_isWrong c_isHalted c_mine c_theirs c_many c_from0 c_from1 c_dice c_hash) (wM cI cJ ad c_s' c_before c_known c_kept c_isKept c_aside c_buffer c_length c_thrown c_laid c_spot c_isWrong c_isHalted c_mine c_theirs c_many c_from0 c_from1 c_dice c_hash) r := by
  refine k_st_i (cc := cX10_offers) (maxL := 1) (by decide) rfl (Nat.le_of_ble_eq_true rfl) ?_
  intro p e z m below meth c A hx hb hr hml hts hown hlocks hsz hN hA hK hP hD hS ls hl
  have hown : z.vm.findClass RX10 = some m.cls := hown
  have hinX10 : ∀ w ∈ wsX100, w ∈ wsX10_offers := by decide +kernel
  have fl7 := hts (.fieldLink RX10 7 "MagpieRunsModel" "s" "[I") (by decide +kernel)
  have hl : lv_has ls 1 [(0, .ref (ad 0))] := hl
  unfold mX10_offers at hm
  refine lv_aload_n hx hb dX10_offers_0 rfl (lv_at hl 0 rfl) ?_
  refine va_get (D := D) (ci := 6) (v := .ref (ad 1)) (C := RX10) (T := TX10) (N := 20) hx hb hts hinX10 hown hK hP 0 rfl rfl 0 (by decide) fl7 (fun _ h9 => h9) rfl dX10_offers_1 ?_
  refine lv_bipush (v := 37) hx hb dX10_offers_4 (by decide) ?_
  refine lv_iconst (v := 2) hx hb dX10_offers_6 (by decide) ?_
  refine k_isC hx hb hK hP hD hS 1 0 rfl rfl kl_37 ki_37_51 dX10_offers_7 (fun H locs hP hD hS => ?_)
  have hP : va_P D vwCl (wM cI cJ ad (upd c_s 37 2) c_before c_known c_kept c_isKept c_aside c_buffer c_length c_thrown c_laid c_spot c_isWrong c_isHalted c_mine c_theirs c_many c_from0 c_from1 c_dice c_hash) H := hP
  have hD : va_D A (wM cI cJ ad (upd c_s 37 2) c_before c_known c_kept c_isKept c_aside c_buffer c_length c_thrown c_laid c_spot c_isWrong c_isHalted c_mine c_theirs c_many c_from0 c_from1 c_dice c_hash) := hD
  refine lv_iconst (v := 2) hx hb dX10_offers_8 (by decide) ?_
  refine lv_aload_n hx hb dX10_offers_9 rfl (lv_at hl 0 rfl) ?_
  refine va_get (D := D) (ci := 6) (v := .ref (ad 1)) (C := RX10) (T := TX10) (N := 20) hx hb hts hinX10 hown hK hP 0 rfl rfl 0 (by decide) fl7 (fun _ h9 => h9) rfl dX10_offers_10 ?_
  refine lv_bipush (v := 43) hx hb dX10_offers_13 (by decide) ?_
  refine k_iaC hx hb hK hP 1 0 rfl rfl kl_43 ki_43_51 dX10_offers_15 ?_
  refine lv_imul hx hb dX10_offers_16 ?_
  cases hm
  exact k_end_i hx hb hr hlocks hK hP hD hS dX10_offers_17

abbrev rmX10_doubles : Room := { frames := 0, cells := 0, slots := 0, locals := 0 }
set_option maxHeartbeats 4000000 in
set_option maxRecDepth 100000 in
theorem zX10_doubles {l : Launch} {D : va_G} {cI cJ cC cG : ClassId} {sz : Nat} {ad : Nat → Nat} {c_s : Nat → Int32} {c_before : Nat → Int32} {c_known : Int32} {c_kept : Nat → Int32} {c_isKept : Bool} {c_aside : Nat → Int32} {c_buffer : Nat → Int32} {c_length : Int32} {c_thrown : Int32} {c_laid : Nat → Int32} {c_spot : Int32} {c_isWrong : Bool} {c_isHalted : Bool} {c_mine : Nat → Int64} {c_theirs : Nat → Int64} {c_many : Int32} {c_from0 : Nat → Int64} {c_from1 : Nat → Int64} {c_dice : Nat → Int32} {c_hash : Int64} {r : Int32} {c_s' : Nat → Int32} (hm : mX10_doubles c_s = some (r, c_s')) : k_Mi l yX10_doubles wsX10_doubles rmX10_doubles D (kT cI cJ cC cG) sz ([.ref (ad 0)] : List Value) (wM cI cJ ad c_s c_before c_known c_kept c_isKept c_aside c_buffer c_length c_thrown c_laid c_spot c_isWrong c_isHalted c_mine c_theirs c_many c_from0 c_from1 c_dice c_hash) (wM cI cJ ad c_s' c_before c_known c_kept c_isKept c_aside c_buffer c_length c_thrown c_laid c_spot c_isWrong c_isHalted c_mine c_theirs c_many c_from0 c_from1 c_dice c_hash) r := by
  refine k_st_i (cc := cX10_doubles) (maxL := 1) (by decide) rfl (Nat.le_of_ble_eq_true rfl) ?_
  intro p e z m below meth c A hx hb hr hml hts hown hlocks hsz hN hA hK hP hD hS ls hl
  have hown : z.vm.findClass RX10 = some m.cls := hown
  have hinX10 : ∀ w ∈ wsX100, w ∈ wsX10_doubles := by decide +kernel
  have fl7 := hts (.fieldLink RX10 7 "MagpieRunsModel" "s" "[I") (by decide +kernel)
  have hl : lv_has ls 1 [(0, .ref (ad 0))] := hl
  unfold mX10_doubles at hm
  refine lv_aload_n hx hb dX10_doubles_0 rfl (lv_at hl 0 rfl) ?_
  refine va_get (D := D) (ci := 6) (v := .ref (ad 1)) (C := RX10) (T := TX10) (N := 20) hx hb hts hinX10 hown hK hP 0 rfl rfl 0 (by decide) fl7 (fun _ h9 => h9) rfl dX10_doubles_1 ?_
  refine lv_bipush (v := 37) hx hb dX10_doubles_4 (by decide) ?_
  refine lv_iconst (v := 0) hx hb dX10_doubles_6 (by decide) ?_
  refine k_isC hx hb hK hP hD hS 1 0 rfl rfl kl_37 ki_37_51 dX10_doubles_7 (fun H locs hP hD hS => ?_)
  have hP : va_P D vwCl (wM cI cJ ad (upd c_s 37 0) c_before c_known c_kept c_isKept c_aside c_buffer c_length c_thrown c_laid c_spot c_isWrong c_isHalted c_mine c_theirs c_many c_from0 c_from1 c_dice c_hash) H := hP
  have hD : va_D A (wM cI cJ ad (upd c_s 37 0) c_before c_known c_kept c_isKept c_aside c_buffer c_length c_thrown c_laid c_spot c_isWrong c_isHalted c_mine c_theirs c_many c_from0 c_from1 c_dice c_hash) := hD
  refine lv_aload_n hx hb dX10_doubles_8 rfl (lv_at hl 0 rfl) ?_
  refine va_get (D := D) (ci := 6) (v := .ref (ad 1)) (C := RX10) (T := TX10) (N := 20) hx hb hts hinX10 hown hK hP 0 rfl rfl 0 (by decide) fl7 (fun _ h9 => h9) rfl dX10_doubles_9 ?_
  refine lv_bipush (v := 43) hx hb dX10_doubles_12 (by decide) ?_
  refine lv_dup2_11 hx hb dX10_doubles_14 rfl rfl ?_
  refine k_iaC hx hb hK hP 1 0 rfl rfl kl_43 ki_43_51 dX10_doubles_15 ?_
  refine lv_iconst (v := 2) hx hb dX10_doubles_16 (by decide) ?_
  refine lv_imul hx hb dX10_doubles_17 ?_
  refine k_isC hx hb hK hP hD hS 1 0 rfl rfl kl_43 ki_43_51 dX10_doubles_18 (fun H locs hP hD hS => ?_)
  have hP : va_P D vwCl (wM cI cJ ad (upd (upd c_s 37 0) 43 (((upd c_s 37 0) 43) * 2)) c_before c_known c_kept c_isKept c_aside c_buffer c_length c_thrown c_laid c_spot c_isWrong c_isHalted c_mine c_theirs c_many c_from0 c_from1 c_dice c_hash) H := hP
  have hD : va_D A (wM cI cJ ad (upd (upd c_s 37 0) 43 (((upd c_s 37 0) 43) * 2)) c_before c_known c_kept c_isKept c_aside c_buffer c_length c_thrown c_laid c_spot c_isWrong c_isHalted c_mine c_theirs c_many c_from0 c_from1 c_dice c_hash) := hD
  refine lv_aload_n hx hb dX10_doubles_19 rfl (lv_at hl 0 rfl) ?_
  refine va_get (D := D) (ci := 6) (v := .ref (ad 1)) (C := RX10) (T := TX10) (N := 20) hx hb hts hinX10 hown hK hP 0 rfl rfl 0 (by decide) fl7 (fun _ h9 => h9) rfl dX10_doubles_20 ?_
  refine lv_bipush (v := 44) hx hb dX10_doubles_23 (by decide) ?_
  refine lv_iconst (v := 1) hx hb dX10_doubles_25 (by decide) ?_
  refine lv_aload_n hx hb dX10_doubles_26 rfl (lv_at hl 0 rfl) ?_
  refine va_get (D := D) (ci := 6) (v := .ref (ad 1)) (C := RX10) (T := TX10) (N := 20) hx hb hts hinX10 hown hK hP 0 rfl rfl 0 (by decide) fl7 (fun _ h9 => h9) rfl dX10_doubles_27 ?_
  refine lv_bipush (v := 36) hx hb dX10_doubles_30 (by decide) ?_
  refine k_iaC hx hb hK hP 1 0 rfl rfl kl_36 ki_36_51 dX10_doubles_32 ?_
  refine lv_isub hx hb dX10_doubles_33 ?_
  refine k_isC hx hb hK hP hD hS 1 0 rfl rfl kl_44 ki_44_51 dX10_doubles_34 (fun H locs hP hD hS => ?_)
  have hP : va_P D vwCl (wM cI cJ ad (upd (upd (upd c_s 37 0) 43 (((upd c_s 37 0) 43) * 2)) 44 (1 - ((upd (upd c_s 37 0) 43 (((upd c_s 37 0) 43) * 2)) 36))) c_before c_known c_kept c_isKept c_aside c_buffer c_length c_thrown c_laid c_spot c_isWrong c_isHalted c_mine c_theirs c_many c_from0 c_from1 c_dice c_hash) H := hP
  have hD : va_D A (wM cI cJ ad (upd (upd (upd c_s 37 0) 43 (((upd c_s 37 0) 43) * 2)) 44 (1 - ((upd (upd c_s 37 0) 43 (((upd c_s 37 0) 43) * 2)) 36))) c_before c_known c_kept c_isKept c_aside c_buffer c_length c_thrown c_laid c_spot c_isWrong c_isHalted c_mine c_theirs c_many c_from0 c_from1 c_dice c_hash) := hD
  refine lv_aload_n hx hb dX10_doubles_35 rfl (lv_at hl 0 rfl) ?_
  refine va_get (D := D) (ci := 6) (v := .ref (ad 1)) (C := RX10) (T := TX10) (N := 20) hx hb hts hinX10 hown hK hP 0 rfl rfl 0 (by decide) fl7 (fun _ h9 => h9) rfl dX10_doubles_36 ?_
  refine lv_bipush (v := 43) hx hb dX10_doubles_39 (by decide) ?_
  refine k_iaC hx hb hK hP 1 0 rfl rfl kl_43 ki_43_51 dX10_doubles_41 ?_
  cases hm
  exact k_end_i hx hb hr hlocks hK hP hD hS dX10_doubles_42

abbrev rmX10_drops : Room := { frames := 0, cells := 0, slots := 0, locals := 0 }
set_option maxHeartbeats 4000000 in
set_option maxRecDepth 100000 in
theorem zX10_drops {l : Launch} {D : va_G} {cI cJ cC cG : ClassId} {sz : Nat} {ad : Nat → Nat} {c_s : Nat → Int32} {c_before : Nat → Int32} {c_known : Int32} {c_kept : Nat → Int32} {c_isKept : Bool} {c_aside : Nat → Int32} {c_buffer : Nat → Int32} {c_length : Int32} {c_thrown : Int32} {c_laid : Nat → Int32} {c_spot : Int32} {c_isWrong : Bool} {c_isHalted : Bool} {c_mine : Nat → Int64} {c_theirs : Nat → Int64} {c_many : Int32} {c_from0 : Nat → Int64} {c_from1 : Nat → Int64} {c_dice : Nat → Int32} {c_hash : Int64} {r : Int32} {c_s' : Nat → Int32} (hm : mX10_drops c_s = some (r, c_s')) : k_Mi l yX10_drops wsX10_drops rmX10_drops D (kT cI cJ cC cG) sz ([.ref (ad 0)] : List Value) (wM cI cJ ad c_s c_before c_known c_kept c_isKept c_aside c_buffer c_length c_thrown c_laid c_spot c_isWrong c_isHalted c_mine c_theirs c_many c_from0 c_from1 c_dice c_hash) (wM cI cJ ad c_s' c_before c_known c_kept c_isKept c_aside c_buffer c_length c_thrown c_laid c_spot c_isWrong c_isHalted c_mine c_theirs c_many c_from0 c_from1 c_dice c_hash) r := by
  refine k_st_i (cc := cX10_drops) (maxL := 1) (by decide) rfl (Nat.le_of_ble_eq_true rfl) ?_
  intro p e z m below meth c A hx hb hr hml hts hown hlocks hsz hN hA hK hP hD hS ls hl
  have hown : z.vm.findClass RX10 = some m.cls := hown
  have hinX10 : ∀ w ∈ wsX100, w ∈ wsX10_drops := by decide +kernel
  have fl7 := hts (.fieldLink RX10 7 "MagpieRunsModel" "s" "[I") (by decide +kernel)
  have hl : lv_has ls 1 [(0, .ref (ad 0))] := hl
  unfold mX10_drops at hm
  refine lv_aload_n hx hb dX10_drops_0 rfl (lv_at hl 0 rfl) ?_
  refine va_get (D := D) (ci := 6) (v := .ref (ad 1)) (C := RX10) (T := TX10) (N := 20) hx hb hts hinX10 hown hK hP 0 rfl rfl 0 (by decide) fl7 (fun _ h9 => h9) rfl dX10_drops_1 ?_
  refine lv_bipush (v := 37) hx hb dX10_drops_4 (by decide) ?_
  refine lv_iconst (v := 3) hx hb dX10_drops_6 (by decide) ?_
  refine k_isC hx hb hK hP hD hS 1 0 rfl rfl kl_37 ki_37_51 dX10_drops_7 (fun H locs hP hD hS => ?_)
  have hP : va_P D vwCl (wM cI cJ ad (upd c_s 37 3) c_before c_known c_kept c_isKept c_aside c_buffer c_length c_thrown c_laid c_spot c_isWrong c_isHalted c_mine c_theirs c_many c_from0 c_from1 c_dice c_hash) H := hP
  have hD : va_D A (wM cI cJ ad (upd c_s 37 3) c_before c_known c_kept c_isKept c_aside c_buffer c_length c_thrown c_laid c_spot c_isWrong c_isHalted c_mine c_theirs c_many c_from0 c_from1 c_dice c_hash) := hD
  refine lv_aload_n hx hb dX10_drops_8 rfl (lv_at hl 0 rfl) ?_
  refine va_get (D := D) (ci := 6) (v := .ref (ad 1)) (C := RX10) (T := TX10) (N := 20) hx hb hts hinX10 hown hK hP 0 rfl rfl 0 (by decide) fl7 (fun _ h9 => h9) rfl dX10_drops_9 ?_
  refine lv_bipush (v := 45) hx hb dX10_drops_12 (by decide) ?_
  refine lv_aload_n hx hb dX10_drops_14 rfl (lv_at hl 0 rfl) ?_
  refine va_get (D := D) (ci := 6) (v := .ref (ad 1)) (C := RX10) (T := TX10) (N := 20) hx hb hts hinX10 hown hK hP 0 rfl rfl 0 (by decide) fl7 (fun _ h9 => h9) rfl dX10_drops_15 ?_
  refine lv_bipush (v := 36) hx hb dX10_drops_18 (by decide) ?_
  refine k_iaC hx hb hK hP 1 0 rfl rfl kl_36 ki_36_51 dX10_drops_20 ?_
  refine lv_iadd hx hb dX10_drops_21 ?_
  refine lv_dup2_11 hx hb dX10_drops_22 rfl rfl ?_
  obtain ⟨gi23, hm⟩ := k_gs hm
  refine va_iald hx hb hK hP 1 0 rfl rfl gi23 dX10_drops_23 ?_
  refine lv_aload_n hx hb dX10_drops_24 rfl (lv_at hl 0 rfl) ?_
  refine va_get (D := D) (ci := 6) (v := .ref (ad 1)) (C := RX10) (T := TX10) (N := 20) hx hb hts hinX10 hown hK hP 0 rfl rfl 0 (by decide) fl7 (fun _ h9 => h9) rfl dX10_drops_25 ?_
  refine lv_bipush (v := 43) hx hb dX10_drops_28 (by decide) ?_
  refine k_iaC hx hb hK hP 1 0 rfl rfl kl_43 ki_43_51 dX10_drops_30 ?_
  refine lv_iadd hx hb dX10_drops_31 ?_
  obtain ⟨gi32, hm⟩ := k_gs hm
  refine va_iast hx hb hK hP hD hS 1 0 rfl rfl gi32 dX10_drops_32 (fun H locs hP hD hS => ?_)
  have hP : va_P D vwCl (wM cI cJ ad (upd (upd c_s 37 3) (Int32.toNatClampNeg (45 + ((upd c_s 37 3) 36))) (((upd c_s 37 3) (Int32.toNatClampNeg (45 + ((upd c_s 37 3) 36)))) + ((upd c_s 37 3) 43))) c_before c_known c_kept c_isKept c_aside c_buffer c_length c_thrown c_laid c_spot c_isWrong c_isHalted c_mine c_theirs c_many c_from0 c_from1 c_dice c_hash) H := hP
  have hD : va_D A (wM cI cJ ad (upd (upd c_s 37 3) (Int32.toNatClampNeg (45 + ((upd c_s 37 3) 36))) (((upd c_s 37 3) (Int32.toNatClampNeg (45 + ((upd c_s 37 3) 36)))) + ((upd c_s 37 3) 43))) c_before c_known c_kept c_isKept c_aside c_buffer c_length c_thrown c_laid c_spot c_isWrong c_isHalted c_mine c_theirs c_many c_from0 c_from1 c_dice c_hash) := hD
  refine lv_aload_n hx hb dX10_drops_33 rfl (lv_at hl 0 rfl) ?_
  refine va_get (D := D) (ci := 6) (v := .ref (ad 1)) (C := RX10) (T := TX10) (N := 20) hx hb hts hinX10 hown hK hP 0 rfl rfl 0 (by decide) fl7 (fun _ h9 => h9) rfl dX10_drops_34 ?_
  refine lv_bipush (v := 45) hx hb dX10_drops_37 (by decide) ?_
  refine lv_aload_n hx hb dX10_drops_39 rfl (lv_at hl 0 rfl) ?_
  refine va_get (D := D) (ci := 6) (v := .ref (ad 1)) (C := RX10) (T := TX10) (N := 20) hx hb hts hinX10 hown hK hP 0 rfl rfl 0 (by decide) fl7 (fun _ h9 => h9) rfl dX10_drops_40 ?_
  refine lv_bipush (v := 36) hx hb dX10_drops_43 (by decide) ?_
  refine k_iaC hx hb hK hP 1 0 rfl rfl kl_36 ki_36_51 dX10_drops_45 ?_
  refine lv_iadd hx hb dX10_drops_46 ?_
  obtain ⟨gi47, hm⟩ := k_gs hm
  refine va_iald hx hb hK hP 1 0 rfl rfl gi47 dX10_drops_47 ?_
  cases hm
  exact k_end_i hx hb hr hlocks hK hP hD hS dX10_drops_48

abbrev rmX10_anew : Room := { frames := 2, cells := 0, slots := 0, locals := 45 }
set_option maxHeartbeats 4000000 in
set_option maxRecDepth 100000 in
theorem zX10_anew {l : Launch} {D : va_G} {cI cJ cC cG : ClassId} {sz : Nat} {ad : Nat → Nat} {c_s : Nat → Int32} {c_before : Nat → Int32} {c_known : Int32} {c_kept : Nat → Int32} {c_isKept : Bool} {c_aside : Nat → Int32} {c_buffer : Nat → Int32} {c_length : Int32} {c_thrown : Int32} {c_laid : Nat → Int32} {c_spot : Int32} {c_isWrong : Bool} {c_isHalted : Bool} {c_mine : Nat → Int64} {c_theirs : Nat → Int64} {c_many : Int32} {c_from0 : Nat → Int64} {c_from1 : Nat → Int64} {c_dice : Nat → Int32} {c_hash : Int64} {r : Int32} {c_s' : Nat → Int32} (hm : mX10_anew c_s = some (r, c_s')) : k_Mi l yX10_anew wsX10_anew rmX10_anew D (kT cI cJ cC cG) sz ([.ref (ad 0)] : List Value) (wM cI cJ ad c_s c_before c_known c_kept c_isKept c_aside c_buffer c_length c_thrown c_laid c_spot c_isWrong c_isHalted c_mine c_theirs c_many c_from0 c_from1 c_dice c_hash) (wM cI cJ ad c_s' c_before c_known c_kept c_isKept c_aside c_buffer c_length c_thrown c_laid c_spot c_isWrong c_isHalted c_mine c_theirs c_many c_from0 c_from1 c_dice c_hash) r := by
  refine k_st_i (cc := cX10_anew) (maxL := 1) (by decide) rfl (Nat.le_of_ble_eq_true rfl) ?_
  intro p e z m below meth c A hx hb hr hml hts hown hlocks hsz hN hA hK hP hD hS ls hl
  have hown : z.vm.findClass RX10 = some m.cls := hown
  have hinX10 : ∀ w ∈ wsX100, w ∈ wsX10_anew := by decide +kernel
  have fl7 := hts (.fieldLink RX10 7 "MagpieRunsModel" "s" "[I") (by decide +kernel)
  have hl : lv_has ls 1 [(0, .ref (ad 0))] := hl
  unfold mX10_anew at hm
  refine lv_aload_n hx hb dX10_anew_0 rfl (lv_at hl 0 rfl) ?_
  refine lv_iconst (v := 1) hx hb dX10_anew_1 (by decide) ?_
  refine lv_aload_n hx hb dX10_anew_2 rfl (lv_at hl 0 rfl) ?_
  refine va_get (D := D) (ci := 6) (v := .ref (ad 1)) (C := RX10) (T := TX10) (N := 20) hx hb hts hinX10 hown hK hP 0 rfl rfl 0 (by decide) fl7 (fun _ h9 => h9) rfl dX10_anew_3 ?_
  refine lv_bipush (v := 36) hx hb dX10_anew_6 (by decide) ?_
  refine k_iaC hx hb hK hP 1 0 rfl rfl kl_36 ki_36_51 dX10_anew_8 ?_
  refine lv_isub hx hb dX10_anew_9 ?_
  obtain ⟨w1, hc10, hm⟩ := k_bds hm
  refine k_v_s (k_rV (As := [.int (1 - (c_s 36))]) (rest := []) ⟨hx, hb, hml, hown, hts⟩ hK hN hP hD (zX10_begins hc10) (cwV 1 hts gX10_anew_X10_begins rfl rfl rfl (by decide +kernel) ⟨Nat.le_of_ble_eq_true rfl, Nat.le_of_ble_eq_true rfl⟩) rfl rfl rfl hl.1 rfl (Nat.le_of_ble_eq_true rfl) dX10_anew_10 ⟨Nat.zero_le _, Nat.zero_le _⟩) hD hS hA (fun H locs hP hD hS => ?_)
  refine lv_aload_n hx hb dX10_anew_13 rfl (lv_at hl 0 rfl) ?_
  refine va_get (D := D) (ci := 6) (v := .ref (ad 1)) (C := RX10) (T := TX10) (N := 20) hx hb hts hinX10 hown hK hP 0 rfl rfl 0 (by decide) fl7 (fun _ h9 => h9) rfl dX10_anew_14 ?_
  refine lv_bipush (v := 36) hx hb dX10_anew_17 (by decide) ?_
  refine k_iaC hx hb hK hP 1 0 rfl rfl kl_36 ki_36_51 dX10_anew_19 ?_
  cases hm
  exact k_end_i hx hb hr hlocks hK hP hD hS dX10_anew_20

abbrev rmX10_pip : Room := { frames := 1, cells := 0, slots := 0, locals := 22 }
set_option maxHeartbeats 4000000 in
set_option maxRecDepth 100000 in
theorem zX10_pip {l : Launch} {D : va_G} {cI cJ cC cG : ClassId} {sz : Nat} {ad : Nat → Nat} {c_s : Nat → Int32} {c_before : Nat → Int32} {c_known : Int32} {c_kept : Nat → Int32} {c_isKept : Bool} {c_aside : Nat → Int32} {c_buffer : Nat → Int32} {c_length : Int32} {c_thrown : Int32} {c_laid : Nat → Int32} {c_spot : Int32} {c_isWrong : Bool} {c_isHalted : Bool} {c_mine : Nat → Int64} {c_theirs : Nat → Int64} {c_many : Int32} {c_from0 : Nat → Int64} {c_from1 : Nat → Int64} {c_dice : Nat → Int32} {c_hash : Int64} {a1 : Int32} {r : Int32} (hm : mX10_pip c_s a1 = some (r)) : k_Mi l yX10_pip wsX10_pip rmX10_pip D (kT cI cJ cC cG) sz ([.ref (ad 0), .int a1] : List Value) (wM cI cJ ad c_s c_before c_known c_kept c_isKept c_aside c_buffer c_length c_thrown c_laid c_spot c_isWrong c_isHalted c_mine c_theirs c_many c_from0 c_from1 c_dice c_hash) (wM cI cJ ad c_s c_before c_known c_kept c_isKept c_aside c_buffer c_length c_thrown c_laid c_spot c_isWrong c_isHalted c_mine c_theirs c_many c_from0 c_from1 c_dice c_hash) r := by
  refine k_st_i (cc := cX10_pip) (maxL := 4) (by decide) rfl (Nat.le_of_ble_eq_true rfl) ?_
  intro p e z m below meth c A hx hb hr hml hts hown hlocks hsz hN hA hK hP hD hS ls hl
  have hown : z.vm.findClass RX10 = some m.cls := hown
  have hl : lv_has ls 4 [(0, .ref (ad 0)), (1, .int a1)] := hl
  have J_4 := k_loop (z := fun _ _ => none) (st := mX10_pip_4 c_s a1) (fun k4 : (Int32) → (Int32) → Option (Int32) => ∀ (l2 : Int32) (l3 : Int32) (H : Heap) (locs : List Loc), va_P D vwCl (wM cI cJ ad c_s c_before c_known c_kept c_isKept c_aside c_buffer c_length c_thrown c_laid c_spot c_isWrong c_isHalted c_mine c_theirs c_many c_from0 c_from1 c_dice c_hash) H → va_D A (wM cI cJ ad c_s c_before c_known c_kept c_isKept c_aside c_buffer c_length c_thrown c_laid c_spot c_isWrong c_isHalted c_mine c_theirs c_many c_from0 c_from1 c_dice c_hash) → va_S A z.heap H locs → ∀ ls : Array Slot, lv_has ls 4 [(0, .ref (ad 0)), (1, .int a1), (2, .int l2), (3, .int l3)] → k4 l2 l3 = some (r) → W p l e rmX10_pip z m ([.ref (ad 0), .int a1] : List Value).toArray below meth c H locs 0 0 (k_Qi below ([.ref (ad 0), .int a1] : List Value) D (kT cI cJ cC cG) z A (wM cI cJ ad c_s c_before c_known c_kept c_isKept c_aside c_buffer c_length c_thrown c_laid c_spot c_isWrong c_isHalted c_mine c_theirs c_many c_from0 c_from1 c_dice c_hash) r) (F0 m 4 ls [])) (by intros; rename_i h; cases h) (by
    intro k4 ih4
    intro l2 l3 H locs hP hD hS ls hl hm
    unfold mX10_pip_4 at hm
    refine lv_iload_n hx hb dX10_pip_4 rfl (lv_at hl 3 rfl) ?_
    refine lv_bipush (v := 16) hx hb dX10_pip_5 (by decide) ?_
    refine lv_icmp_ge (tgt := 31) hx hb dX10_pip_7 (by decide) (fun cc7 => ?_) (fun cc7 => ?_)
    · have hm := k_ip cc7 hm
      refine lv_iload_n hx hb dX10_pip_31 rfl (lv_at hl 2 rfl) ?_
      cases hm
      exact k_end_i hx hb hr hlocks hK hP hD hS dX10_pip_32
    · have hm := k_in cc7 hm
      refine lv_iload_n hx hb dX10_pip_10 rfl (lv_at hl 2 rfl) ?_
      refine lv_aload_n hx hb dX10_pip_11 rfl (lv_at hl 0 rfl) ?_
      refine lv_iload_n hx hb dX10_pip_12 rfl (lv_at hl 1 rfl) ?_
      refine lv_iload_n hx hb dX10_pip_13 rfl (lv_at hl 3 rfl) ?_
      obtain ⟨r1, hc14, hm⟩ := k_bds hm
      refine k_i_s (k_rV (As := [.int a1, .int l3]) (rest := [.int l2]) ⟨hx, hb, hml, hown, hts⟩ hK hN hP hD (zX10_at hc14) (cwV 2 hts gX10_pip_X10_at rfl rfl rfl (by decide +kernel) ⟨Nat.le_of_ble_eq_true rfl, Nat.le_of_ble_eq_true rfl⟩) rfl rfl rfl hl.1 rfl (Nat.le_of_ble_eq_true rfl) dX10_pip_14 ⟨Nat.zero_le _, Nat.zero_le _⟩) hD hS hA (fun H locs hP hD hS => ?_)
      refine lv_iload_n hx hb dX10_pip_17 rfl (lv_at hl 1 rfl) ?_
      refine lv_iload_n hx hb dX10_pip_18 rfl (lv_at hl 3 rfl) ?_
      obtain ⟨r2, hc19, hm⟩ := k_bds hm
      refine k_i_0 (k_rS (As := [.int a1, .int l3]) (rest := [.int r1, .int l2]) ⟨hx, hb, hml, hown, hts⟩ hK hN k_P0 (k_D0 (A := A)) (zX10_way hc19) (va_cwS 2 hts gX10_pip_X10_way rfl rfl rfl (by decide +kernel) ⟨Nat.le_of_ble_eq_true rfl, Nat.le_of_ble_eq_true rfl⟩) rfl hl.1 rfl (Nat.le_of_ble_eq_true rfl) dX10_pip_19 ⟨Nat.zero_le _, Nat.zero_le _⟩) hP hS hA (fun H locs hP hS => ?_)
      refine lv_imul hx hb dX10_pip_22 ?_
      refine lv_iadd hx hb dX10_pip_23 ?_
      refine lv_istore_n (lv' := [(2, .int (l2 + (r1 * r2))), (0, .ref (ad 0)), (1, .int a1), (3, .int l3)]) hx hb dX10_pip_24 rfl hl (by decide) rfl (fun ls hl => ?_)
      refine lv_iinc (v := (l3 + 1)) (lv' := [(3, .int (l3 + 1)), (2, .int (l2 + (r1 * r2))), (0, .ref (ad 0)), (1, .int a1)]) hx hb dX10_pip_25 hl (k := 3) rfl rfl (by decide) rfl (fun ls hl => ?_)
      refine lv_goto (tgt := 4) hx hb dX10_pip_28 (by decide) ?_
      exact ih4 (l2 + (r1 * r2)) (l3 + 1) _ _ hP hD hS _ (lv_sub hl [2, 3, 1, 0] rfl) hm) k_F
  unfold mX10_pip at hm
  refine lv_iconst (v := 0) hx hb dX10_pip_0 (by decide) ?_
  refine lv_istore_n (lv' := [(2, .int 0), (0, .ref (ad 0)), (1, .int a1)]) hx hb dX10_pip_1 rfl hl (by decide) rfl (fun ls hl => ?_)
  refine lv_iconst (v := (-1)) hx hb dX10_pip_2 (by decide) ?_
  refine lv_istore_n (lv' := [(3, .int (-1)), (2, .int 0), (0, .ref (ad 0)), (1, .int a1)]) hx hb dX10_pip_3 rfl hl (by decide) rfl (fun ls hl => ?_)
  exact J_4 0 (-1) _ _ hP hD hS _ (lv_sub hl [2, 3, 1, 0] rfl) hm

abbrev rmX10_roll : Room := { frames := 1, cells := 0, slots := 0, locals := 23 }
set_option maxHeartbeats 4000000 in
set_option maxRecDepth 100000 in
theorem zX10_roll {l : Launch} {D : va_G} {cI cJ cC cG : ClassId} {sz : Nat} {ad : Nat → Nat} {c_s : Nat → Int32} {c_before : Nat → Int32} {c_known : Int32} {c_kept : Nat → Int32} {c_isKept : Bool} {c_aside : Nat → Int32} {c_buffer : Nat → Int32} {c_length : Int32} {c_thrown : Int32} {c_laid : Nat → Int32} {c_spot : Int32} {c_isWrong : Bool} {c_isHalted : Bool} {c_mine : Nat → Int64} {c_theirs : Nat → Int64} {c_many : Int32} {c_from0 : Nat → Int64} {c_from1 : Nat → Int64} {c_dice : Nat → Int32} {c_hash : Int64} {a1 : Int32} {a2 : Int32} {r : Int32} {c_s' : Nat → Int32} {c_before' : Nat → Int32} {c_known' : Int32} {c_thrown' : Int32} (hm : mX10_roll c_s c_before c_known c_thrown a1 a2 = some (r, c_s', c_before', c_known', c_thrown')) : k_Mi l yX10_roll wsX10_roll rmX10_roll D (kT cI cJ cC cG) sz ([.ref (ad 0), .int a1, .int a2] : List Value) (wM cI cJ ad c_s c_before c_known c_kept c_isKept c_aside c_buffer c_length c_thrown c_laid c_spot c_isWrong c_isHalted c_mine c_theirs c_many c_from0 c_from1 c_dice c_hash) (wM cI cJ ad c_s' c_before' c_known' c_kept c_isKept c_aside c_buffer c_length c_thrown' c_laid c_spot c_isWrong c_isHalted c_mine c_theirs c_many c_from0 c_from1 c_dice c_hash) r := by
  refine k_st_i (cc := cX10_roll) (maxL := 3) (by decide) rfl (Nat.le_of_ble_eq_true rfl) ?_
  intro p e z m below meth c A hx hb hr hml hts hown hlocks hsz hN hA hK hP hD hS ls hl
  have hown : z.vm.findClass RX10 = some m.cls := hown
  have hinX10 : ∀ w ∈ wsX100, w ∈ wsX10_roll := by decide +kernel
  have fl7 := hts (.fieldLink RX10 7 "MagpieRunsModel" "s" "[I") (by decide +kernel)
  have fl48 := hts (.fieldLink RX10 48 "MagpieRunsModel" "thrown" "I") (by decide +kernel)
  have hl : lv_has ls 3 [(0, .ref (ad 0)), (1, .int a1), (2, .int a2)] := hl
  have J_25 : ∀ (c_s : Nat → Int32) (c_before : Nat → Int32) (c_known : Int32) (c_thrown : Int32) (H : Heap) (locs : List Loc), va_P D vwCl (wM cI cJ ad c_s c_before c_known c_kept c_isKept c_aside c_buffer c_length c_thrown c_laid c_spot c_isWrong c_isHalted c_mine c_theirs c_many c_from0 c_from1 c_dice c_hash) H → va_D A (wM cI cJ ad c_s c_before c_known c_kept c_isKept c_aside c_buffer c_length c_thrown c_laid c_spot c_isWrong c_isHalted c_mine c_theirs c_many c_from0 c_from1 c_dice c_hash) → va_S A z.heap H locs → ∀ ls : Array Slot, lv_has ls 3 [(0, .ref (ad 0))] → mX10_roll_25 a1 a2 c_s c_before c_known c_thrown = some (r, c_s', c_before', c_known', c_thrown') → W p l e rmX10_roll z m ([.ref (ad 0), .int a1, .int a2] : List Value).toArray below meth c H locs 0 0 (k_Qi below ([.ref (ad 0), .int a1, .int a2] : List Value) D (kT cI cJ cC cG) z A (wM cI cJ ad c_s' c_before' c_known' c_kept c_isKept c_aside c_buffer c_length c_thrown' c_laid c_spot c_isWrong c_isHalted c_mine c_theirs c_many c_from0 c_from1 c_dice c_hash) r) (F0 m 25 ls []) := by
    intro c_s c_before c_known c_thrown H locs hP hD hS ls hl hm
    unfold mX10_roll_25 at hm
    refine lv_aload_n hx hb dX10_roll_25 rfl (lv_at hl 0 rfl) ?_
    refine lv_iconst (v := 1) hx hb dX10_roll_26 (by decide) ?_
    obtain ⟨r1, w2, hc27, hm⟩ := k_bd2s hm
    refine k_i_s (k_rV (As := [.int 1]) (rest := []) ⟨hx, hb, hml, hown, hts⟩ hK hN hP hD (zX10_throwing hc27) (cwV 1 hts gX10_roll_X10_throwing rfl rfl rfl (by decide +kernel) ⟨Nat.le_of_ble_eq_true rfl, Nat.le_of_ble_eq_true rfl⟩) rfl rfl rfl hl.1 rfl (Nat.le_of_ble_eq_true rfl) dX10_roll_27 ⟨Nat.zero_le _, Nat.zero_le _⟩) hD hS hA (fun H locs hP hD hS => ?_)
    cases hm
    exact k_end_i hx hb hr hlocks hK hP hD hS dX10_roll_30
  unfold mX10_roll at hm
  refine lv_aload_n hx hb dX10_roll_0 rfl (lv_at hl 0 rfl) ?_
  refine lv_iconst (v := 0) hx hb dX10_roll_1 (by decide) ?_
  refine va_put (D := D) (ci := 6) (v := .int 0) (ty := .int) (C := RX10) (T := TX10) (N := 20) hx hb hts hinX10 tyX10 tyX10_ok nmX10 hown hK hP hD hS 0 rfl rfl 8 (by decide) fl48 (fun _ h9 => h9) rfl (by decide +kernel) rfl rfl (Nat.le_of_ble_eq_true rfl) dX10_roll_2 (fun H locs hP hD hS => ?_)
  have hP : va_P D vwCl (wM cI cJ ad c_s c_before c_known c_kept c_isKept c_aside c_buffer c_length 0 c_laid c_spot c_isWrong c_isHalted c_mine c_theirs c_many c_from0 c_from1 c_dice c_hash) H := hP
  have hD : va_D A (wM cI cJ ad c_s c_before c_known c_kept c_isKept c_aside c_buffer c_length 0 c_laid c_spot c_isWrong c_isHalted c_mine c_theirs c_many c_from0 c_from1 c_dice c_hash) := hD
  refine lv_iload_n hx hb dX10_roll_5 rfl (lv_at hl 1 rfl) ?_
  refine lv_iconst (v := 1) hx hb dX10_roll_6 (by decide) ?_
  refine lv_bipush (v := 6) hx hb dX10_roll_7 (by decide) ?_
  obtain ⟨r3, hc9, hm⟩ := k_bds hm
  refine k_i_0 (k_rS (As := [.int a1, .int 1, .int 6]) (rest := []) ⟨hx, hb, hml, hown, hts⟩ hK hN k_P0 (k_D0 (A := A)) (zX10_in hc9) (va_cwS 3 hts gX10_roll_X10_in rfl rfl rfl (by decide +kernel) ⟨Nat.le_of_ble_eq_true rfl, Nat.le_of_ble_eq_true rfl⟩) rfl hl.1 rfl (Nat.le_of_ble_eq_true rfl) dX10_roll_9 ⟨Nat.zero_le _, Nat.zero_le _⟩) hP hS hA (fun H locs hP hS => ?_)
  refine lv_if_eq (tgt := 25) hx hb dX10_roll_12 (by decide) (fun cc12 => ?_) (fun cc12 => ?_)
  · have hm := k_ip cc12 hm
    exact J_25 c_s c_before c_known 0 _ _ hP hD hS _ (lv_sub hl [0] rfl) hm
  · have hm := k_in cc12 hm
    refine lv_iload_n hx hb dX10_roll_15 rfl (lv_at hl 2 rfl) ?_
    refine lv_iconst (v := 1) hx hb dX10_roll_16 (by decide) ?_
    refine lv_bipush (v := 6) hx hb dX10_roll_17 (by decide) ?_
    obtain ⟨r4, hc19, hm⟩ := k_bds hm
    refine k_i_0 (k_rS (As := [.int a2, .int 1, .int 6]) (rest := []) ⟨hx, hb, hml, hown, hts⟩ hK hN k_P0 (k_D0 (A := A)) (zX10_in hc19) (va_cwS 3 hts gX10_roll_X10_in rfl rfl rfl (by decide +kernel) ⟨Nat.le_of_ble_eq_true rfl, Nat.le_of_ble_eq_true rfl⟩) rfl hl.1 rfl (Nat.le_of_ble_eq_true rfl) dX10_roll_19 ⟨Nat.zero_le _, Nat.zero_le _⟩) hP hS hA (fun H locs hP hS => ?_)
    refine lv_if_ne (tgt := 31) hx hb dX10_roll_22 (by decide) (fun cc22 => ?_) (fun cc22 => ?_)
    · have hm := k_in cc22 hm
      refine lv_aload_n hx hb dX10_roll_31 rfl (lv_at hl 0 rfl) ?_
      refine va_get (D := D) (ci := 6) (v := .ref (ad 1)) (C := RX10) (T := TX10) (N := 20) hx hb hts hinX10 hown hK hP 0 rfl rfl 0 (by decide) fl7 (fun _ h9 => h9) rfl dX10_roll_32 ?_
      refine lv_bipush (v := 37) hx hb dX10_roll_35 (by decide) ?_
      refine k_iaC hx hb hK hP 1 0 rfl rfl kl_37 ki_37_51 dX10_roll_37 ?_
      refine lv_if_eq (tgt := 47) hx hb dX10_roll_38 (by decide) (fun cc38 => ?_) (fun cc38 => ?_)
      · have hm := k_ip cc38 hm
        refine lv_aload_n hx hb dX10_roll_47 rfl (lv_at hl 0 rfl) ?_
        obtain ⟨w5, w6, hc48, hm⟩ := k_bd2s hm
        refine k_v_s (k_rV (As := []) (rest := []) ⟨hx, hb, hml, hown, hts⟩ hK hN hP hD (zX10_save hc48) (cwV 0 hts gX10_roll_X10_save rfl rfl rfl (by decide +kernel) ⟨Nat.le_of_ble_eq_true rfl, Nat.le_of_ble_eq_true rfl⟩) rfl rfl rfl hl.1 rfl (Nat.le_of_ble_eq_true rfl) dX10_roll_48 ⟨Nat.zero_le _, Nat.zero_le _⟩) hD hS hA (fun H locs hP hD hS => ?_)
        refine lv_aload_n hx hb dX10_roll_51 rfl (lv_at hl 0 rfl) ?_
        refine lv_iload_n hx hb dX10_roll_52 rfl (lv_at hl 1 rfl) ?_
        refine lv_iload_n hx hb dX10_roll_53 rfl (lv_at hl 2 rfl) ?_
        obtain ⟨r7, w8, hc54, hm⟩ := k_bd2s hm
        refine k_i_s (k_rV (As := [.int a1, .int a2]) (rest := []) ⟨hx, hb, hml, hown, hts⟩ hK hN hP hD (zX10_rolls hc54) (cwV 2 hts gX10_roll_X10_rolls rfl rfl rfl (by decide +kernel) ⟨Nat.le_of_ble_eq_true rfl, Nat.le_of_ble_eq_true rfl⟩) rfl rfl rfl hl.1 rfl (Nat.le_of_ble_eq_true rfl) dX10_roll_54 ⟨Nat.zero_le _, Nat.zero_le _⟩) hD hS hA (fun H locs hP hD hS => ?_)
        cases hm
        exact k_end_i hx hb hr hlocks hK hP hD hS dX10_roll_57
      · have hm := k_in cc38 hm
        refine lv_aload_n hx hb dX10_roll_41 rfl (lv_at hl 0 rfl) ?_
        refine lv_iconst (v := 2) hx hb dX10_roll_42 (by decide) ?_
        obtain ⟨r9, w10, hc43, hm⟩ := k_bd2s hm
        refine k_i_s (k_rV (As := [.int 2]) (rest := []) ⟨hx, hb, hml, hown, hts⟩ hK hN hP hD (zX10_throwing hc43) (cwV 1 hts gX10_roll_X10_throwing rfl rfl rfl (by decide +kernel) ⟨Nat.le_of_ble_eq_true rfl, Nat.le_of_ble_eq_true rfl⟩) rfl rfl rfl hl.1 rfl (Nat.le_of_ble_eq_true rfl) dX10_roll_43 ⟨Nat.zero_le _, Nat.zero_le _⟩) hD hS hA (fun H locs hP hD hS => ?_)
        cases hm
        exact k_end_i hx hb hr hlocks hK hP hD hS dX10_roll_46
    · have hm := k_ip cc22 hm
      exact J_25 c_s c_before c_known 0 _ _ hP hD hS _ (lv_sub hl [0] rfl) hm

abbrev rmX10_fault : Room := { frames := 1, cells := 0, slots := 0, locals := 22 }
set_option maxHeartbeats 4000000 in
set_option maxRecDepth 100000 in
theorem zX10_fault {l : Launch} {D : va_G} {cI cJ cC cG : ClassId} {sz : Nat}  {a0 : Int32} {a1 : Int32} {r : Int32} (hm : mX10_fault a0 a1 = some (r)) : k_Mi l yX10_fault wsX10_fault rmX10_fault D (kT cI cJ cC cG) sz ([.int a0, .int a1] : List Value) [] [] r := by
  refine k_st_i (cc := cX10_fault) (maxL := 2) (by decide) rfl (Nat.le_of_ble_eq_true rfl) ?_
  intro p e z m below meth c A hx hb hr hml hts hown hlocks hsz hN hA hK hP hD hS ls hl
  have hown : z.vm.findClass RX10 = some m.cls := hown
  have hl : lv_has ls 2 [(0, .int a0), (1, .int a1)] := hl
  unfold mX10_fault at hm
  refine lv_iload_n hx hb dX10_fault_0 rfl (lv_at hl 0 rfl) ?_
  refine lv_iconst (v := (-1)) hx hb dX10_fault_1 (by decide) ?_
  refine lv_bipush (v := 15) hx hb dX10_fault_2 (by decide) ?_
  obtain ⟨r1, hc4, hm⟩ := k_bds hm
  refine k_i_0 (k_rS (As := [.int a0, .int (-1), .int 15]) (rest := []) ⟨hx, hb, hml, hown, hts⟩ hK hN k_P0 (k_D0 (A := A)) (zX10_in hc4) (va_cwS 3 hts gX10_fault_X10_in rfl rfl rfl (by decide +kernel) ⟨Nat.le_of_ble_eq_true rfl, Nat.le_of_ble_eq_true rfl⟩) rfl hl.1 rfl (Nat.le_of_ble_eq_true rfl) dX10_fault_4 ⟨Nat.zero_le _, Nat.zero_le _⟩) hP hS hA (fun H locs hP hS => ?_)
  refine lv_if_ne (tgt := 14) hx hb dX10_fault_7 (by decide) (fun cc7 => ?_) (fun cc7 => ?_)
  · have hm := k_in cc7 hm
    refine lv_iload_n hx hb dX10_fault_14 rfl (lv_at hl 1 rfl) ?_
    refine lv_iconst (v := 1) hx hb dX10_fault_15 (by decide) ?_
    refine lv_bipush (v := 6) hx hb dX10_fault_16 (by decide) ?_
    obtain ⟨r2, hc18, hm⟩ := k_bds hm
    refine k_i_0 (k_rS (As := [.int a1, .int 1, .int 6]) (rest := []) ⟨hx, hb, hml, hown, hts⟩ hK hN k_P0 (k_D0 (A := A)) (zX10_in hc18) (va_cwS 3 hts gX10_fault_X10_in rfl rfl rfl (by decide +kernel) ⟨Nat.le_of_ble_eq_true rfl, Nat.le_of_ble_eq_true rfl⟩) rfl hl.1 rfl (Nat.le_of_ble_eq_true rfl) dX10_fault_18 ⟨Nat.zero_le _, Nat.zero_le _⟩) hP hS hA (fun H locs hP hS => ?_)
    refine lv_if_eq (tgt := 28) hx hb dX10_fault_21 (by decide) (fun cc21 => ?_) (fun cc21 => ?_)
    · have hm := k_ip cc21 hm
      refine lv_iconst (v := 2) hx hb dX10_fault_28 (by decide) ?_
      cases hm
      exact k_end_i hx hb hr hlocks hK hP hD hS dX10_fault_29
    · have hm := k_in cc21 hm
      refine lv_iconst (v := 0) hx hb dX10_fault_24 (by decide) ?_
      refine lv_goto (tgt := 29) hx hb dX10_fault_25 (by decide) ?_
      cases hm
      exact k_end_i hx hb hr hlocks hK hP hD hS dX10_fault_29
  · have hm := k_ip cc7 hm
    refine lv_iconst (v := 1) hx hb dX10_fault_10 (by decide) ?_
    refine lv_goto (tgt := 29) hx hb dX10_fault_11 (by decide) ?_
    cases hm
    exact k_end_i hx hb hr hlocks hK hP hD hS dX10_fault_29

abbrev rmX10_step : Room := { frames := 8, cells := 0, slots := 0, locals := 191 }
set_option maxHeartbeats 4000000 in
set_option maxRecDepth 100000 in
theorem zX10_step {l : Launch} {D : va_G} {cI cJ cC cG : ClassId} {sz : Nat} {ad : Nat → Nat} {c_s : Nat → Int32} {c_before : Nat → Int32} {c_known : Int32} {c_kept : Nat → Int32} {c_isKept : Bool} {c_aside : Nat → Int32} {c_buffer : Nat → Int32} {c_length : Int32} {c_thrown : Int32} {c_laid : Nat → Int32} {c_spot : Int32} {c_isWrong : Bool} {c_isHalted : Bool} {c_mine : Nat → Int64} {c_theirs : Nat → Int64} {c_many : Int32} {c_from0 : Nat → Int64} {c_from1 : Nat → Int64} {c_dice : Nat → Int32} {c_hash : Int64} {a1 : Int32} {a2 : Int32} {r : Bool} {c_s' : Nat → Int32} {c_before' : Nat → Int32} {c_known' : Int32} {c_thrown' : Int32} {c_laid' : Nat → Int32} (hm : mX10_step c_s c_before c_known c_thrown c_laid a1 a2 = some (r, c_s', c_before', c_known', c_thrown', c_laid')) : k_Mi l yX10_step wsX10_step rmX10_step D (kT cI cJ cC cG) sz ([.ref (ad 0), .int a1, .int a2] : List Value) (wM cI cJ ad c_s c_before c_known c_kept c_isKept c_aside c_buffer c_length c_thrown c_laid c_spot c_isWrong c_isHalted c_mine c_theirs c_many c_from0 c_from1 c_dice c_hash) (wM cI cJ ad c_s' c_before' c_known' c_kept c_isKept c_aside c_buffer c_length c_thrown' c_laid' c_spot c_isWrong c_isHalted c_mine c_theirs c_many c_from0 c_from1 c_dice c_hash) (k_b r) := by
  refine k_st_i (cc := cX10_step) (maxL := 3) (by decide) rfl (Nat.le_of_ble_eq_true rfl) ?_
  intro p e z m below meth c A hx hb hr hml hts hown hlocks hsz hN hA hK hP hD hS ls hl
  have hown : z.vm.findClass RX10 = some m.cls := hown
  have hinX10 : ∀ w ∈ wsX100, w ∈ wsX10_step := by decide +kernel
  have fl48 := hts (.fieldLink RX10 48 "MagpieRunsModel" "thrown" "I") (by decide +kernel)
  have hl : lv_has ls 3 [(0, .ref (ad 0)), (1, .int a1), (2, .int a2)] := hl
  have J_30 : ∀ (c_s : Nat → Int32) (c_before : Nat → Int32) (c_known : Int32) (c_thrown : Int32) (c_laid : Nat → Int32) (H : Heap) (locs : List Loc), va_P D vwCl (wM cI cJ ad c_s c_before c_known c_kept c_isKept c_aside c_buffer c_length c_thrown c_laid c_spot c_isWrong c_isHalted c_mine c_theirs c_many c_from0 c_from1 c_dice c_hash) H → va_D A (wM cI cJ ad c_s c_before c_known c_kept c_isKept c_aside c_buffer c_length c_thrown c_laid c_spot c_isWrong c_isHalted c_mine c_theirs c_many c_from0 c_from1 c_dice c_hash) → va_S A z.heap H locs → ∀ ls : Array Slot, lv_has ls 3 [(0, .ref (ad 0)), (1, .int a1), (2, .int a2)] → mX10_step_30 a1 a2 c_s c_before c_known c_thrown c_laid = some (r, c_s', c_before', c_known', c_thrown', c_laid') → W p l e rmX10_step z m ([.ref (ad 0), .int a1, .int a2] : List Value).toArray below meth c H locs 0 0 (k_Qi below ([.ref (ad 0), .int a1, .int a2] : List Value) D (kT cI cJ cC cG) z A (wM cI cJ ad c_s' c_before' c_known' c_kept c_isKept c_aside c_buffer c_length c_thrown' c_laid' c_spot c_isWrong c_isHalted c_mine c_theirs c_many c_from0 c_from1 c_dice c_hash) (k_b r)) (F0 m 30 ls []) := by
    intro c_s c_before c_known c_thrown c_laid H locs hP hD hS ls hl hm
    unfold mX10_step_30 at hm
    refine lv_aload_n hx hb dX10_step_30 rfl (lv_at hl 0 rfl) ?_
    refine va_get (D := D) (ci := 6) (v := .int c_thrown) (C := RX10) (T := TX10) (N := 20) hx hb hts hinX10 hown hK hP 0 rfl rfl 8 (by decide) fl48 (fun _ h9 => h9) rfl dX10_step_31 ?_
    refine lv_if_le (tgt := 39) hx hb dX10_step_34 (by decide) (fun cc34 => ?_) (fun cc34 => ?_)
    · have hm := k_ip cc34 hm
      refine lv_aload_n hx hb dX10_step_39 rfl (lv_at hl 0 rfl) ?_
      obtain ⟨w1, w2, hc40, hm⟩ := k_bd2s hm
      refine k_v_s (k_rV (As := []) (rest := []) ⟨hx, hb, hml, hown, hts⟩ hK hN hP hD (zX10_save hc40) (cwV 0 hts gX10_step_X10_save rfl rfl rfl (by decide +kernel) ⟨Nat.le_of_ble_eq_true rfl, Nat.le_of_ble_eq_true rfl⟩) rfl rfl rfl hl.1 rfl (Nat.le_of_ble_eq_true rfl) dX10_step_40 ⟨Nat.zero_le _, Nat.zero_le _⟩) hD hS hA (fun H locs hP hD hS => ?_)
      refine lv_aload_n hx hb dX10_step_43 rfl (lv_at hl 0 rfl) ?_
      refine lv_iload_n hx hb dX10_step_44 rfl (lv_at hl 1 rfl) ?_
      refine lv_iload_n hx hb dX10_step_45 rfl (lv_at hl 2 rfl) ?_
      obtain ⟨r3, w4, hc46, hm⟩ := k_bd2s hm
      refine k_i_s (k_rV (As := [.int a1, .int a2]) (rest := []) ⟨hx, hb, hml, hown, hts⟩ hK hN hP hD (zX10_steps hc46) (cwV 2 hts gX10_step_X10_steps rfl rfl rfl (by decide +kernel) ⟨Nat.le_of_ble_eq_true rfl, Nat.le_of_ble_eq_true rfl⟩) rfl rfl rfl hl.1 rfl (Nat.le_of_ble_eq_true rfl) dX10_step_46 ⟨Nat.zero_le _, Nat.zero_le _⟩) hD hS hA (fun H locs hP hD hS => ?_)
      cases hm
      exact k_end_z _ hx hb hr hlocks hK hP hD hS dX10_step_49
    · have hm := k_in cc34 hm
      refine lv_iconst (v := 0) hx hb dX10_step_37 (by decide) ?_
      cases hm
      exact k_end_z false hx hb hr hlocks hK hP hD hS dX10_step_38
  unfold mX10_step at hm
  refine lv_aload_n hx hb dX10_step_0 rfl (lv_at hl 0 rfl) ?_
  refine lv_iload_n hx hb dX10_step_1 rfl (lv_at hl 1 rfl) ?_
  refine lv_iload_n hx hb dX10_step_2 rfl (lv_at hl 2 rfl) ?_
  obtain ⟨r5, hc3, hm⟩ := k_bds hm
  refine k_i_0 (k_rS (As := [.int a1, .int a2]) (rest := [.ref (ad 0)]) ⟨hx, hb, hml, hown, hts⟩ hK hN k_P0 (k_D0 (A := A)) (zX10_fault hc3) (va_cwS 2 hts gX10_step_X10_fault rfl rfl rfl (by decide +kernel) ⟨Nat.le_of_ble_eq_true rfl, Nat.le_of_ble_eq_true rfl⟩) rfl hl.1 rfl (Nat.le_of_ble_eq_true rfl) dX10_step_3 ⟨Nat.zero_le _, Nat.zero_le _⟩) hP hS hA (fun H locs hP hS => ?_)
  refine va_put (D := D) (ci := 6) (v := .int r5) (ty := .int) (C := RX10) (T := TX10) (N := 20) hx hb hts hinX10 tyX10 tyX10_ok nmX10 hown hK hP hD hS 0 rfl rfl 8 (by decide) fl48 (fun _ h9 => h9) rfl (by decide +kernel) rfl rfl (Nat.le_of_ble_eq_true rfl) dX10_step_6 (fun H locs hP hD hS => ?_)
  have hP : va_P D vwCl (wM cI cJ ad c_s c_before c_known c_kept c_isKept c_aside c_buffer c_length r5 c_laid c_spot c_isWrong c_isHalted c_mine c_theirs c_many c_from0 c_from1 c_dice c_hash) H := hP
  have hD : va_D A (wM cI cJ ad c_s c_before c_known c_kept c_isKept c_aside c_buffer c_length r5 c_laid c_spot c_isWrong c_isHalted c_mine c_theirs c_many c_from0 c_from1 c_dice c_hash) := hD
  refine lv_aload_n hx hb dX10_step_9 rfl (lv_at hl 0 rfl) ?_
  refine va_get (D := D) (ci := 6) (v := .int r5) (C := RX10) (T := TX10) (N := 20) hx hb hts hinX10 hown hK hP 0 rfl rfl 8 (by decide) fl48 (fun _ h9 => h9) rfl dX10_step_10 ?_
  refine lv_if_ne (tgt := 30) hx hb dX10_step_13 (by decide) (fun cc13 => ?_) (fun cc13 => ?_)
  · have hm := k_in cc13 hm
    exact J_30 c_s c_before c_known r5 c_laid _ _ hP hD hS _ (lv_sub hl [0, 1, 2] rfl) hm
  · have hm := k_ip cc13 hm
    refine lv_aload_n hx hb dX10_step_16 rfl (lv_at hl 0 rfl) ?_
    refine lv_iload_n hx hb dX10_step_17 rfl (lv_at hl 1 rfl) ?_
    refine lv_iload_n hx hb dX10_step_18 rfl (lv_at hl 2 rfl) ?_
    obtain ⟨r6, w7, w8, hc19, hm⟩ := k_bd3s hm
    refine k_i_s (k_rV (As := [.int a1, .int a2]) (rest := []) ⟨hx, hb, hml, hown, hts⟩ hK hN hP hD (zX10_why hc19) (cwV 2 hts gX10_step_X10_why rfl rfl rfl (by decide +kernel) ⟨Nat.le_of_ble_eq_true rfl, Nat.le_of_ble_eq_true rfl⟩) rfl rfl rfl hl.1 rfl (Nat.le_of_ble_eq_true rfl) dX10_step_19 ⟨Nat.zero_le _, Nat.zero_le _⟩) hD hS hA (fun H locs hP hD hS => ?_)
    refine lv_if_eq (tgt := 30) hx hb dX10_step_22 (by decide) (fun cc22 => ?_) (fun cc22 => ?_)
    · have hm := k_ip cc22 hm
      exact J_30 w7 c_before c_known r5 w8 _ _ hP hD hS _ (lv_sub hl [0, 1, 2] rfl) hm
    · have hm := k_in cc22 hm
      refine lv_aload_n hx hb dX10_step_25 rfl (lv_at hl 0 rfl) ?_
      refine lv_iconst (v := 3) hx hb dX10_step_26 (by decide) ?_
      refine va_put (D := D) (ci := 6) (v := .int 3) (ty := .int) (C := RX10) (T := TX10) (N := 20) hx hb hts hinX10 tyX10 tyX10_ok nmX10 hown hK hP hD hS 0 rfl rfl 8 (by decide) fl48 (fun _ h9 => h9) rfl (by decide +kernel) rfl rfl (Nat.le_of_ble_eq_true rfl) dX10_step_27 (fun H locs hP hD hS => ?_)
      have hP : va_P D vwCl (wM cI cJ ad w7 c_before c_known c_kept c_isKept c_aside c_buffer c_length 3 w8 c_spot c_isWrong c_isHalted c_mine c_theirs c_many c_from0 c_from1 c_dice c_hash) H := hP
      have hD : va_D A (wM cI cJ ad w7 c_before c_known c_kept c_isKept c_aside c_buffer c_length 3 w8 c_spot c_isWrong c_isHalted c_mine c_theirs c_many c_from0 c_from1 c_dice c_hash) := hD
      exact J_30 w7 c_before c_known 3 w8 _ _ hP hD hS _ (lv_sub hl [0, 1, 2] rfl) hm

abbrev rmX10_endTurn : Room := { frames := 8, cells := 0, slots := 0, locals := 188 }
set_option maxHeartbeats 4000000 in
set_option maxRecDepth 100000 in
theorem zX10_endTurn {l : Launch} {D : va_G} {cI cJ cC cG : ClassId} {sz : Nat} {ad : Nat → Nat} {c_s : Nat → Int32} {c_before : Nat → Int32} {c_known : Int32} {c_kept : Nat → Int32} {c_isKept : Bool} {c_aside : Nat → Int32} {c_buffer : Nat → Int32} {c_length : Int32} {c_thrown : Int32} {c_laid : Nat → Int32} {c_spot : Int32} {c_isWrong : Bool} {c_isHalted : Bool} {c_mine : Nat → Int64} {c_theirs : Nat → Int64} {c_many : Int32} {c_from0 : Nat → Int64} {c_from1 : Nat → Int64} {c_dice : Nat → Int32} {c_hash : Int64} {r : Int32} {c_s' : Nat → Int32} {c_before' : Nat → Int32} {c_known' : Int32} {c_thrown' : Int32} {c_laid' : Nat → Int32} (hm : mX10_endTurn c_s c_before c_known c_thrown c_laid = some (r, c_s', c_before', c_known', c_thrown', c_laid')) : k_Mi l yX10_endTurn wsX10_endTurn rmX10_endTurn D (kT cI cJ cC cG) sz ([.ref (ad 0)] : List Value) (wM cI cJ ad c_s c_before c_known c_kept c_isKept c_aside c_buffer c_length c_thrown c_laid c_spot c_isWrong c_isHalted c_mine c_theirs c_many c_from0 c_from1 c_dice c_hash) (wM cI cJ ad c_s' c_before' c_known' c_kept c_isKept c_aside c_buffer c_length c_thrown' c_laid' c_spot c_isWrong c_isHalted c_mine c_theirs c_many c_from0 c_from1 c_dice c_hash) r := by
  refine k_st_i (cc := cX10_endTurn) (maxL := 1) (by decide) rfl (Nat.le_of_ble_eq_true rfl) ?_
  intro p e z m below meth c A hx hb hr hml hts hown hlocks hsz hN hA hK hP hD hS ls hl
  have hown : z.vm.findClass RX10 = some m.cls := hown
  have hinX10 : ∀ w ∈ wsX100, w ∈ wsX10_endTurn := by decide +kernel
  have fl48 := hts (.fieldLink RX10 48 "MagpieRunsModel" "thrown" "I") (by decide +kernel)
  have hl : lv_has ls 1 [(0, .ref (ad 0))] := hl
  unfold mX10_endTurn at hm
  refine lv_aload_n hx hb dX10_endTurn_0 rfl (lv_at hl 0 rfl) ?_
  refine lv_iconst (v := 0) hx hb dX10_endTurn_1 (by decide) ?_
  refine va_put (D := D) (ci := 6) (v := .int 0) (ty := .int) (C := RX10) (T := TX10) (N := 20) hx hb hts hinX10 tyX10 tyX10_ok nmX10 hown hK hP hD hS 0 rfl rfl 8 (by decide) fl48 (fun _ h9 => h9) rfl (by decide +kernel) rfl rfl (Nat.le_of_ble_eq_true rfl) dX10_endTurn_2 (fun H locs hP hD hS => ?_)
  have hP : va_P D vwCl (wM cI cJ ad c_s c_before c_known c_kept c_isKept c_aside c_buffer c_length 0 c_laid c_spot c_isWrong c_isHalted c_mine c_theirs c_many c_from0 c_from1 c_dice c_hash) H := hP
  have hD : va_D A (wM cI cJ ad c_s c_before c_known c_kept c_isKept c_aside c_buffer c_length 0 c_laid c_spot c_isWrong c_isHalted c_mine c_theirs c_many c_from0 c_from1 c_dice c_hash) := hD
  refine lv_aload_n hx hb dX10_endTurn_5 rfl (lv_at hl 0 rfl) ?_
  obtain ⟨r1, w2, w3, hc6, hm⟩ := k_bd3s hm
  refine k_i_s (k_rV (As := []) (rest := []) ⟨hx, hb, hml, hown, hts⟩ hK hN hP hD (zX10_canEnd hc6) (cwV 0 hts gX10_endTurn_X10_canEnd rfl rfl rfl (by decide +kernel) ⟨Nat.le_of_ble_eq_true rfl, Nat.le_of_ble_eq_true rfl⟩) rfl rfl rfl hl.1 rfl (Nat.le_of_ble_eq_true rfl) dX10_endTurn_6 ⟨Nat.zero_le _, Nat.zero_le _⟩) hD hS hA (fun H locs hP hD hS => ?_)
  refine lv_if_ne (tgt := 18) hx hb dX10_endTurn_9 (by decide) (fun cc9 => ?_) (fun cc9 => ?_)
  · have hm := k_in cc9 hm
    refine lv_aload_n hx hb dX10_endTurn_18 rfl (lv_at hl 0 rfl) ?_
    obtain ⟨w4, w5, hc19, hm⟩ := k_bd2s hm
    refine k_v_s (k_rV (As := []) (rest := []) ⟨hx, hb, hml, hown, hts⟩ hK hN hP hD (zX10_save hc19) (cwV 0 hts gX10_endTurn_X10_save rfl rfl rfl (by decide +kernel) ⟨Nat.le_of_ble_eq_true rfl, Nat.le_of_ble_eq_true rfl⟩) rfl rfl rfl hl.1 rfl (Nat.le_of_ble_eq_true rfl) dX10_endTurn_19 ⟨Nat.zero_le _, Nat.zero_le _⟩) hD hS hA (fun H locs hP hD hS => ?_)
    refine lv_aload_n hx hb dX10_endTurn_22 rfl (lv_at hl 0 rfl) ?_
    obtain ⟨r6, w7, hc23, hm⟩ := k_bd2s hm
    refine k_i_s (k_rV (As := []) (rest := []) ⟨hx, hb, hml, hown, hts⟩ hK hN hP hD (zX10_ends hc23) (cwV 0 hts gX10_endTurn_X10_ends rfl rfl rfl (by decide +kernel) ⟨Nat.le_of_ble_eq_true rfl, Nat.le_of_ble_eq_true rfl⟩) rfl rfl rfl hl.1 rfl (Nat.le_of_ble_eq_true rfl) dX10_endTurn_23 ⟨Nat.zero_le _, Nat.zero_le _⟩) hD hS hA (fun H locs hP hD hS => ?_)
    cases hm
    exact k_end_i hx hb hr hlocks hK hP hD hS dX10_endTurn_26
  · have hm := k_ip cc9 hm
    refine lv_aload_n hx hb dX10_endTurn_12 rfl (lv_at hl 0 rfl) ?_
    refine lv_iconst (v := 1) hx hb dX10_endTurn_13 (by decide) ?_
    obtain ⟨r8, w9, hc14, hm⟩ := k_bd2s hm
    refine k_i_s (k_rV (As := [.int 1]) (rest := []) ⟨hx, hb, hml, hown, hts⟩ hK hN hP hD (zX10_throwing hc14) (cwV 1 hts gX10_endTurn_X10_throwing rfl rfl rfl (by decide +kernel) ⟨Nat.le_of_ble_eq_true rfl, Nat.le_of_ble_eq_true rfl⟩) rfl rfl rfl hl.1 rfl (Nat.le_of_ble_eq_true rfl) dX10_endTurn_14 ⟨Nat.zero_le _, Nat.zero_le _⟩) hD hS hA (fun H locs hP hD hS => ?_)
    cases hm
    exact k_end_i hx hb hr hlocks hK hP hD hS dX10_endTurn_17

abbrev rmX10_carry : Room := { frames := 2, cells := 0, slots := 0, locals := 45 }
set_option maxHeartbeats 4000000 in
set_option maxRecDepth 100000 in
theorem zX10_carry {l : Launch} {D : va_G} {cI cJ cC cG : ClassId} {sz : Nat} {ad : Nat → Nat} {c_s : Nat → Int32} {c_before : Nat → Int32} {c_known : Int32} {c_kept : Nat → Int32} {c_isKept : Bool} {c_aside : Nat → Int32} {c_buffer : Nat → Int32} {c_length : Int32} {c_thrown : Int32} {c_laid : Nat → Int32} {c_spot : Int32} {c_isWrong : Bool} {c_isHalted : Bool} {c_mine : Nat → Int64} {c_theirs : Nat → Int64} {c_many : Int32} {c_from0 : Nat → Int64} {c_from1 : Nat → Int64} {c_dice : Nat → Int32} {c_hash : Int64} {a1 : Int32} {a2 : Int32} {a3 : Int32} {r : Int32} {c_s' : Nat → Int32} {c_before' : Nat → Int32} {c_known' : Int32} {c_thrown' : Int32} (hm : mX10_carry c_s c_before c_known c_thrown a1 a2 a3 = some (r, c_s', c_before', c_known', c_thrown')) : k_Mi l yX10_carry wsX10_carry rmX10_carry D (kT cI cJ cC cG) sz ([.ref (ad 0), .int a1, .int a2, .int a3] : List Value) (wM cI cJ ad c_s c_before c_known c_kept c_isKept c_aside c_buffer c_length c_thrown c_laid c_spot c_isWrong c_isHalted c_mine c_theirs c_many c_from0 c_from1 c_dice c_hash) (wM cI cJ ad c_s' c_before' c_known' c_kept c_isKept c_aside c_buffer c_length c_thrown' c_laid c_spot c_isWrong c_isHalted c_mine c_theirs c_many c_from0 c_from1 c_dice c_hash) r := by
  refine k_st_i (cc := cX10_carry) (maxL := 6) (by decide) rfl (Nat.le_of_ble_eq_true rfl) ?_
  intro p e z m below meth c A hx hb hr hml hts hown hlocks hsz hN hA hK hP hD hS ls hl
  have hown : z.vm.findClass RX10 = some m.cls := hown
  have hinX10 : ∀ w ∈ wsX100, w ∈ wsX10_carry := by decide +kernel
  have fl7 := hts (.fieldLink RX10 7 "MagpieRunsModel" "s" "[I") (by decide +kernel)
  have fl48 := hts (.fieldLink RX10 48 "MagpieRunsModel" "thrown" "I") (by decide +kernel)
  have hl : lv_has ls 6 [(0, .ref (ad 0)), (1, .int a1), (2, .int a2), (3, .int a3)] := hl
  have J_32 : ∀ (c_s : Nat → Int32) (c_before : Nat → Int32) (c_known : Int32) (c_thrown : Int32) (H : Heap) (locs : List Loc), va_P D vwCl (wM cI cJ ad c_s c_before c_known c_kept c_isKept c_aside c_buffer c_length c_thrown c_laid c_spot c_isWrong c_isHalted c_mine c_theirs c_many c_from0 c_from1 c_dice c_hash) H → va_D A (wM cI cJ ad c_s c_before c_known c_kept c_isKept c_aside c_buffer c_length c_thrown c_laid c_spot c_isWrong c_isHalted c_mine c_theirs c_many c_from0 c_from1 c_dice c_hash) → va_S A z.heap H locs → ∀ ls : Array Slot, lv_has ls 6 [(0, .ref (ad 0))] → mX10_carry_32 a1 a2 a3 c_s c_before c_known c_thrown = some (r, c_s', c_before', c_known', c_thrown') → W p l e rmX10_carry z m ([.ref (ad 0), .int a1, .int a2, .int a3] : List Value).toArray below meth c H locs 0 0 (k_Qi below ([.ref (ad 0), .int a1, .int a2, .int a3] : List Value) D (kT cI cJ cC cG) z A (wM cI cJ ad c_s' c_before' c_known' c_kept c_isKept c_aside c_buffer c_length c_thrown' c_laid c_spot c_isWrong c_isHalted c_mine c_theirs c_many c_from0 c_from1 c_dice c_hash) r) (F0 m 32 ls []) := by
    intro c_s c_before c_known c_thrown H locs hP hD hS ls hl hm
    unfold mX10_carry_32 at hm
    refine lv_aload_n hx hb dX10_carry_32 rfl (lv_at hl 0 rfl) ?_
    refine lv_iconst (v := 1) hx hb dX10_carry_33 (by decide) ?_
    obtain ⟨r1, w2, hc34, hm⟩ := k_bd2s hm
    refine k_i_s (k_rV (As := [.int 1]) (rest := []) ⟨hx, hb, hml, hown, hts⟩ hK hN hP hD (zX10_throwing hc34) (cwV 1 hts gX10_carry_X10_throwing rfl rfl rfl (by decide +kernel) ⟨Nat.le_of_ble_eq_true rfl, Nat.le_of_ble_eq_true rfl⟩) rfl rfl rfl hl.1 rfl (Nat.le_of_ble_eq_true rfl) dX10_carry_34 ⟨Nat.zero_le _, Nat.zero_le _⟩) hD hS hA (fun H locs hP hD hS => ?_)
    cases hm
    exact k_end_i hx hb hr hlocks hK hP hD hS dX10_carry_37
  have J_122 : ∀ (c_s : Nat → Int32) (c_before : Nat → Int32) (c_known : Int32) (c_thrown : Int32) (H : Heap) (locs : List Loc), va_P D vwCl (wM cI cJ ad c_s c_before c_known c_kept c_isKept c_aside c_buffer c_length c_thrown c_laid c_spot c_isWrong c_isHalted c_mine c_theirs c_many c_from0 c_from1 c_dice c_hash) H → va_D A (wM cI cJ ad c_s c_before c_known c_kept c_isKept c_aside c_buffer c_length c_thrown c_laid c_spot c_isWrong c_isHalted c_mine c_theirs c_many c_from0 c_from1 c_dice c_hash) → va_S A z.heap H locs → ∀ ls : Array Slot, lv_has ls 6 [(0, .ref (ad 0))] → mX10_carry_122 a1 a2 a3 c_s c_before c_known c_thrown = some (r, c_s', c_before', c_known', c_thrown') → W p l e rmX10_carry z m ([.ref (ad 0), .int a1, .int a2, .int a3] : List Value).toArray below meth c H locs 0 0 (k_Qi below ([.ref (ad 0), .int a1, .int a2, .int a3] : List Value) D (kT cI cJ cC cG) z A (wM cI cJ ad c_s' c_before' c_known' c_kept c_isKept c_aside c_buffer c_length c_thrown' c_laid c_spot c_isWrong c_isHalted c_mine c_theirs c_many c_from0 c_from1 c_dice c_hash) r) (F0 m 122 ls []) := by
    intro c_s c_before c_known c_thrown H locs hP hD hS ls hl hm
    unfold mX10_carry_122 at hm
    refine lv_aload_n hx hb dX10_carry_122 rfl (lv_at hl 0 rfl) ?_
    refine lv_iconst (v := 2) hx hb dX10_carry_123 (by decide) ?_
    obtain ⟨r3, w4, hc124, hm⟩ := k_bd2s hm
    refine k_i_s (k_rV (As := [.int 2]) (rest := []) ⟨hx, hb, hml, hown, hts⟩ hK hN hP hD (zX10_throwing hc124) (cwV 1 hts gX10_carry_X10_throwing rfl rfl rfl (by decide +kernel) ⟨Nat.le_of_ble_eq_true rfl, Nat.le_of_ble_eq_true rfl⟩) rfl rfl rfl hl.1 rfl (Nat.le_of_ble_eq_true rfl) dX10_carry_124 ⟨Nat.zero_le _, Nat.zero_le _⟩) hD hS hA (fun H locs hP hD hS => ?_)
    cases hm
    exact k_end_i hx hb hr hlocks hK hP hD hS dX10_carry_127
  have J_91 : ∀ (t0 : Bool) (l4 : Bool) (c_s : Nat → Int32) (c_before : Nat → Int32) (c_known : Int32) (c_thrown : Int32) (H : Heap) (locs : List Loc), va_P D vwCl (wM cI cJ ad c_s c_before c_known c_kept c_isKept c_aside c_buffer c_length c_thrown c_laid c_spot c_isWrong c_isHalted c_mine c_theirs c_many c_from0 c_from1 c_dice c_hash) H → va_D A (wM cI cJ ad c_s c_before c_known c_kept c_isKept c_aside c_buffer c_length c_thrown c_laid c_spot c_isWrong c_isHalted c_mine c_theirs c_many c_from0 c_from1 c_dice c_hash) → va_S A z.heap H locs → ∀ ls : Array Slot, lv_has ls 6 [(0, .ref (ad 0)), (1, .int a1), (2, .int a2), (3, .int a3), (4, .int (k_b l4))] → mX10_carry_91 a1 a2 a3 t0 l4 c_s c_before c_known c_thrown = some (r, c_s', c_before', c_known', c_thrown') → W p l e rmX10_carry z m ([.ref (ad 0), .int a1, .int a2, .int a3] : List Value).toArray below meth c H locs 0 0 (k_Qi below ([.ref (ad 0), .int a1, .int a2, .int a3] : List Value) D (kT cI cJ cC cG) z A (wM cI cJ ad c_s' c_before' c_known' c_kept c_isKept c_aside c_buffer c_length c_thrown' c_laid c_spot c_isWrong c_isHalted c_mine c_theirs c_many c_from0 c_from1 c_dice c_hash) r) (F0 m 91 ls [.int (k_b t0)]) := by
    intro t0 l4 c_s c_before c_known c_thrown H locs hP hD hS ls hl hm
    unfold mX10_carry_91 at hm
    refine lv_istore (lv' := [(5, .int (k_b t0)), (0, .ref (ad 0)), (1, .int a1), (2, .int a2), (3, .int a3), (4, .int (k_b l4))]) hx hb dX10_carry_91 hl (by decide) rfl (fun ls hl => ?_)
    refine lv_aload_n hx hb dX10_carry_93 rfl (lv_at hl 1 rfl) ?_
    refine lv_iload_n hx hb dX10_carry_94 rfl (lv_at hl 2 rfl) ?_
    refine lv_iload_n hx hb dX10_carry_95 rfl (lv_at hl 3 rfl) ?_
    obtain ⟨r5, hc96, hm⟩ := k_bds hm
    refine k_i_s (k_rV (As := [.int a1, .int a2]) (rest := []) ⟨hx, hb, hml, hown, hts⟩ hK hN hP hD (zX10_at hc96) (cwV 2 hts gX10_carry_X10_at rfl rfl rfl (by decide +kernel) ⟨Nat.le_of_ble_eq_true rfl, Nat.le_of_ble_eq_true rfl⟩) rfl rfl rfl hl.1 rfl (Nat.le_of_ble_eq_true rfl) dX10_carry_96 ⟨Nat.zero_le _, Nat.zero_le _⟩) hD hS hA (fun H locs hP hD hS => ?_)
    refine lv_if_eq (tgt := 122) hx hb dX10_carry_99 (by decide) (fun cc99 => ?_) (fun cc99 => ?_)
    · have hm := k_ip cc99 hm
      exact J_122 c_s c_before c_known c_thrown _ _ hP hD hS _ (lv_sub hl [1] rfl) hm
    · have hm := k_in cc99 hm
      refine lv_iload hx hb dX10_carry_102 (lv_at hl 5 rfl) ?_
      refine lv_if_ne (tgt := 122) hx hb dX10_carry_104 (by decide) (fun cc104 => ?_) (fun cc104 => ?_)
      · have hm := k_in cc104 hm
        exact J_122 c_s c_before c_known c_thrown _ _ hP hD hS _ (lv_sub hl [1] rfl) hm
      · have hm := k_ip cc104 hm
        refine lv_iload hx hb dX10_carry_107 (lv_at hl 0 rfl) ?_
        refine lv_if_ne (tgt := 122) hx hb dX10_carry_109 (by decide) (fun cc109 => ?_) (fun cc109 => ?_)
        · have hm := k_in cc109 hm
          exact J_122 c_s c_before c_known c_thrown _ _ hP hD hS _ (lv_sub hl [1] rfl) hm
        · have hm := k_ip cc109 hm
          refine lv_aload_n hx hb dX10_carry_112 rfl (lv_at hl 1 rfl) ?_
          refine va_get (D := D) (ci := 6) (v := .ref (ad 1)) (C := RX10) (T := TX10) (N := 20) hx hb hts hinX10 hown hK hP 0 rfl rfl 0 (by decide) fl7 (fun _ h9 => h9) rfl dX10_carry_113 ?_
          refine lv_bipush (v := 37) hx hb dX10_carry_116 (by decide) ?_
          refine k_iaC hx hb hK hP 1 0 rfl rfl kl_37 ki_37_51 dX10_carry_118 ?_
          refine lv_if_eq (tgt := 128) hx hb dX10_carry_119 (by decide) (fun cc119 => ?_) (fun cc119 => ?_)
          · have hm := k_ip cc119 hm
            refine lv_aload_n hx hb dX10_carry_128 rfl (lv_at hl 1 rfl) ?_
            obtain ⟨w6, w7, hc129, hm⟩ := k_bd2s hm
            refine k_v_s (k_rV (As := []) (rest := []) ⟨hx, hb, hml, hown, hts⟩ hK hN hP hD (zX10_save hc129) (cwV 0 hts gX10_carry_X10_save rfl rfl rfl (by decide +kernel) ⟨Nat.le_of_ble_eq_true rfl, Nat.le_of_ble_eq_true rfl⟩) rfl rfl rfl hl.1 rfl (Nat.le_of_ble_eq_true rfl) dX10_carry_129 ⟨Nat.zero_le _, Nat.zero_le _⟩) hD hS hA (fun H locs hP hD hS => ?_)
            refine lv_aload_n hx hb dX10_carry_132 rfl (lv_at hl 1 rfl) ?_
            refine lv_iload_n hx hb dX10_carry_133 rfl (lv_at hl 2 rfl) ?_
            refine lv_iload_n hx hb dX10_carry_134 rfl (lv_at hl 3 rfl) ?_
            refine lv_iconst (v := (-1)) hx hb dX10_carry_135 (by decide) ?_
            obtain ⟨w8, hc136, hm⟩ := k_bds hm
            refine k_v_s (k_rV (As := [.int a1, .int a2, .int (-1)]) (rest := []) ⟨hx, hb, hml, hown, hts⟩ hK hN hP hD (zX10_grow hc136) (cwV 3 hts gX10_carry_X10_grow rfl rfl rfl (by decide +kernel) ⟨Nat.le_of_ble_eq_true rfl, Nat.le_of_ble_eq_true rfl⟩) rfl rfl rfl hl.1 rfl (Nat.le_of_ble_eq_true rfl) dX10_carry_136 ⟨Nat.zero_le _, Nat.zero_le _⟩) hD hS hA (fun H locs hP hD hS => ?_)
            refine lv_aload_n hx hb dX10_carry_139 rfl (lv_at hl 1 rfl) ?_
            refine lv_iload_n hx hb dX10_carry_140 rfl (lv_at hl 2 rfl) ?_
            refine lv_iload_n hx hb dX10_carry_141 rfl (lv_at hl 4 rfl) ?_
            refine lv_iconst (v := 1) hx hb dX10_carry_142 (by decide) ?_
            obtain ⟨w9, hc143, hm⟩ := k_bds hm
            refine k_v_s (k_rV (As := [.int a1, .int a3, .int 1]) (rest := []) ⟨hx, hb, hml, hown, hts⟩ hK hN hP hD (zX10_grow hc143) (cwV 3 hts gX10_carry_X10_grow rfl rfl rfl (by decide +kernel) ⟨Nat.le_of_ble_eq_true rfl, Nat.le_of_ble_eq_true rfl⟩) rfl rfl rfl hl.1 rfl (Nat.le_of_ble_eq_true rfl) dX10_carry_143 ⟨Nat.zero_le _, Nat.zero_le _⟩) hD hS hA (fun H locs hP hD hS => ?_)
            refine lv_aload_n hx hb dX10_carry_146 rfl (lv_at hl 1 rfl) ?_
            refine lv_iload_n hx hb dX10_carry_147 rfl (lv_at hl 2 rfl) ?_
            obtain ⟨r10, hc148, hm⟩ := k_bds hm
            refine k_i_s (k_rV (As := [.int a1]) (rest := []) ⟨hx, hb, hml, hown, hts⟩ hK hN hP hD (zX10_pip hc148) (cwV 1 hts gX10_carry_X10_pip rfl rfl rfl (by decide +kernel) ⟨Nat.le_of_ble_eq_true rfl, Nat.le_of_ble_eq_true rfl⟩) rfl rfl rfl hl.1 rfl (Nat.le_of_ble_eq_true rfl) dX10_carry_148 ⟨Nat.zero_le _, Nat.zero_le _⟩) hD hS hA (fun H locs hP hD hS => ?_)
            cases hm
            exact k_end_i hx hb hr hlocks hK hP hD hS dX10_carry_151
          · have hm := k_in cc119 hm
            exact J_122 c_s c_before c_known c_thrown _ _ hP hD hS _ (lv_sub hl [1] rfl) hm
  have J_90 : ∀ (l4 : Bool) (c_s : Nat → Int32) (c_before : Nat → Int32) (c_known : Int32) (c_thrown : Int32) (H : Heap) (locs : List Loc), va_P D vwCl (wM cI cJ ad c_s c_before c_known c_kept c_isKept c_aside c_buffer c_length c_thrown c_laid c_spot c_isWrong c_isHalted c_mine c_theirs c_many c_from0 c_from1 c_dice c_hash) H → va_D A (wM cI cJ ad c_s c_before c_known c_kept c_isKept c_aside c_buffer c_length c_thrown c_laid c_spot c_isWrong c_isHalted c_mine c_theirs c_many c_from0 c_from1 c_dice c_hash) → va_S A z.heap H locs → ∀ ls : Array Slot, lv_has ls 6 [(0, .ref (ad 0)), (1, .int a1), (2, .int a2), (3, .int a3), (4, .int (k_b l4))] → mX10_carry_90 a1 a2 a3 l4 c_s c_before c_known c_thrown = some (r, c_s', c_before', c_known', c_thrown') → W p l e rmX10_carry z m ([.ref (ad 0), .int a1, .int a2, .int a3] : List Value).toArray below meth c H locs 0 0 (k_Qi below ([.ref (ad 0), .int a1, .int a2, .int a3] : List Value) D (kT cI cJ cC cG) z A (wM cI cJ ad c_s' c_before' c_known' c_kept c_isKept c_aside c_buffer c_length c_thrown' c_laid c_spot c_isWrong c_isHalted c_mine c_theirs c_many c_from0 c_from1 c_dice c_hash) r) (F0 m 90 ls []) := by
    intro l4 c_s c_before c_known c_thrown H locs hP hD hS ls hl hm
    unfold mX10_carry_90 at hm
    refine lv_iconst (v := 0) hx hb dX10_carry_90 (by decide) ?_
    exact J_91 false l4 c_s c_before c_known c_thrown _ _ hP hD hS _ (lv_sub hl [0, 1, 2, 3, 4] rfl) hm
  have J_61 : ∀ (t0 : Bool) (c_s : Nat → Int32) (c_before : Nat → Int32) (c_known : Int32) (c_thrown : Int32) (H : Heap) (locs : List Loc), va_P D vwCl (wM cI cJ ad c_s c_before c_known c_kept c_isKept c_aside c_buffer c_length c_thrown c_laid c_spot c_isWrong c_isHalted c_mine c_theirs c_many c_from0 c_from1 c_dice c_hash) H → va_D A (wM cI cJ ad c_s c_before c_known c_kept c_isKept c_aside c_buffer c_length c_thrown c_laid c_spot c_isWrong c_isHalted c_mine c_theirs c_many c_from0 c_from1 c_dice c_hash) → va_S A z.heap H locs → ∀ ls : Array Slot, lv_has ls 6 [(0, .ref (ad 0)), (1, .int a1), (2, .int a2), (3, .int a3)] → mX10_carry_61 a1 a2 a3 t0 c_s c_before c_known c_thrown = some (r, c_s', c_before', c_known', c_thrown') → W p l e rmX10_carry z m ([.ref (ad 0), .int a1, .int a2, .int a3] : List Value).toArray below meth c H locs 0 0 (k_Qi below ([.ref (ad 0), .int a1, .int a2, .int a3] : List Value) D (kT cI cJ cC cG) z A (wM cI cJ ad c_s' c_before' c_known' c_kept c_isKept c_aside c_buffer c_length c_thrown' c_laid c_spot c_isWrong c_isHalted c_mine c_theirs c_many c_from0 c_from1 c_dice c_hash) r) (F0 m 61 ls [.int (k_b t0)]) := by
    intro t0 c_s c_before c_known c_thrown H locs hP hD hS ls hl hm
    unfold mX10_carry_61 at hm
    refine lv_istore (lv' := [(4, .int (k_b t0)), (0, .ref (ad 0)), (1, .int a1), (2, .int a2), (3, .int a3)]) hx hb dX10_carry_61 hl (by decide) rfl (fun ls hl => ?_)
    refine lv_iload_n hx hb dX10_carry_63 rfl (lv_at hl 4 rfl) ?_
    refine lv_bipush (v := 16) hx hb dX10_carry_64 (by decide) ?_
    refine lv_icmp_ne (tgt := 90) hx hb dX10_carry_66 (by decide) (fun cc66 => ?_) (fun cc66 => ?_)
    · have hm := k_in cc66 hm
      exact J_90 t0 c_s c_before c_known c_thrown _ _ hP hD hS _ (lv_sub hl [1, 2, 3, 4, 0] rfl) hm
    · have hm := k_ip cc66 hm
      refine lv_iload_n hx hb dX10_carry_69 rfl (lv_at hl 3 rfl) ?_
      refine lv_bipush (v := 16) hx hb dX10_carry_70 (by decide) ?_
      refine lv_icmp_eq (tgt := 90) hx hb dX10_carry_72 (by decide) (fun cc72 => ?_) (fun cc72 => ?_)
      · have hm := k_ip cc72 hm
        exact J_90 t0 c_s c_before c_known c_thrown _ _ hP hD hS _ (lv_sub hl [1, 2, 3, 4, 0] rfl) hm
      · have hm := k_in cc72 hm
        refine lv_aload_n hx hb dX10_carry_75 rfl (lv_at hl 1 rfl) ?_
        refine lv_iload_n hx hb dX10_carry_76 rfl (lv_at hl 2 rfl) ?_
        refine lv_bipush (v := 16) hx hb dX10_carry_77 (by decide) ?_
        obtain ⟨r11, hc79, hm⟩ := k_bds hm
        refine k_i_s (k_rV (As := [.int a1, .int 16]) (rest := []) ⟨hx, hb, hml, hown, hts⟩ hK hN hP hD (zX10_at hc79) (cwV 2 hts gX10_carry_X10_at rfl rfl rfl (by decide +kernel) ⟨Nat.le_of_ble_eq_true rfl, Nat.le_of_ble_eq_true rfl⟩) rfl rfl rfl hl.1 rfl (Nat.le_of_ble_eq_true rfl) dX10_carry_79 ⟨Nat.zero_le _, Nat.zero_le _⟩) hD hS hA (fun H locs hP hD hS => ?_)
        refine lv_iconst (v := 5) hx hb dX10_carry_82 (by decide) ?_
        refine lv_icmp_ne (tgt := 90) hx hb dX10_carry_83 (by decide) (fun cc83 => ?_) (fun cc83 => ?_)
        · have hm := k_in cc83 hm
          exact J_90 t0 c_s c_before c_known c_thrown _ _ hP hD hS _ (lv_sub hl [1, 2, 3, 4, 0] rfl) hm
        · have hm := k_ip cc83 hm
          refine lv_iconst (v := 1) hx hb dX10_carry_86 (by decide) ?_
          refine lv_goto (tgt := 91) hx hb dX10_carry_87 (by decide) ?_
          exact J_91 true t0 c_s c_before c_known c_thrown _ _ hP hD hS _ (lv_sub hl [1, 2, 3, 4, 0] rfl) hm
  have J_60 : ∀ (c_s : Nat → Int32) (c_before : Nat → Int32) (c_known : Int32) (c_thrown : Int32) (H : Heap) (locs : List Loc), va_P D vwCl (wM cI cJ ad c_s c_before c_known c_kept c_isKept c_aside c_buffer c_length c_thrown c_laid c_spot c_isWrong c_isHalted c_mine c_theirs c_many c_from0 c_from1 c_dice c_hash) H → va_D A (wM cI cJ ad c_s c_before c_known c_kept c_isKept c_aside c_buffer c_length c_thrown c_laid c_spot c_isWrong c_isHalted c_mine c_theirs c_many c_from0 c_from1 c_dice c_hash) → va_S A z.heap H locs → ∀ ls : Array Slot, lv_has ls 6 [(0, .ref (ad 0)), (1, .int a1), (2, .int a2), (3, .int a3)] → mX10_carry_60 a1 a2 a3 c_s c_before c_known c_thrown = some (r, c_s', c_before', c_known', c_thrown') → W p l e rmX10_carry z m ([.ref (ad 0), .int a1, .int a2, .int a3] : List Value).toArray below meth c H locs 0 0 (k_Qi below ([.ref (ad 0), .int a1, .int a2, .int a3] : List Value) D (kT cI cJ cC cG) z A (wM cI cJ ad c_s' c_before' c_known' c_kept c_isKept c_aside c_buffer c_length c_thrown' c_laid c_spot c_isWrong c_isHalted c_mine c_theirs c_many c_from0 c_from1 c_dice c_hash) r) (F0 m 60 ls []) := by
    intro c_s c_before c_known c_thrown H locs hP hD hS ls hl hm
    unfold mX10_carry_60 at hm
    refine lv_iconst (v := 0) hx hb dX10_carry_60 (by decide) ?_
    exact J_61 false c_s c_before c_known c_thrown _ _ hP hD hS _ (lv_sub hl [0, 1, 2, 3] rfl) hm
  unfold mX10_carry at hm
  refine lv_aload_n hx hb dX10_carry_0 rfl (lv_at hl 0 rfl) ?_
  refine lv_iconst (v := 0) hx hb dX10_carry_1 (by decide) ?_
  refine va_put (D := D) (ci := 6) (v := .int 0) (ty := .int) (C := RX10) (T := TX10) (N := 20) hx hb hts hinX10 tyX10 tyX10_ok nmX10 hown hK hP hD hS 0 rfl rfl 8 (by decide) fl48 (fun _ h9 => h9) rfl (by decide +kernel) rfl rfl (Nat.le_of_ble_eq_true rfl) dX10_carry_2 (fun H locs hP hD hS => ?_)
  have hP : va_P D vwCl (wM cI cJ ad c_s c_before c_known c_kept c_isKept c_aside c_buffer c_length 0 c_laid c_spot c_isWrong c_isHalted c_mine c_theirs c_many c_from0 c_from1 c_dice c_hash) H := hP
  have hD : va_D A (wM cI cJ ad c_s c_before c_known c_kept c_isKept c_aside c_buffer c_length 0 c_laid c_spot c_isWrong c_isHalted c_mine c_theirs c_many c_from0 c_from1 c_dice c_hash) := hD
  refine lv_iload_n hx hb dX10_carry_5 rfl (lv_at hl 1 rfl) ?_
  obtain ⟨r12, hc6, hm⟩ := k_bds hm
  refine k_i_0 (k_rS (As := [.int a1]) (rest := []) ⟨hx, hb, hml, hown, hts⟩ hK hN k_P0 (k_D0 (A := A)) (zX10_isPlayer hc6) (va_cwS 1 hts gX10_carry_X10_isPlayer rfl rfl rfl (by decide +kernel) ⟨Nat.le_of_ble_eq_true rfl, Nat.le_of_ble_eq_true rfl⟩) rfl hl.1 rfl (Nat.le_of_ble_eq_true rfl) dX10_carry_6 ⟨Nat.zero_le _, Nat.zero_le _⟩) hP hS hA (fun H locs hP hS => ?_)
  refine lv_if_eq (tgt := 32) hx hb dX10_carry_9 (by decide) (fun cc9 => ?_) (fun cc9 => ?_)
  · have hm := k_ip cc9 hm
    exact J_32 c_s c_before c_known 0 _ _ hP hD hS _ (lv_sub hl [0] rfl) hm
  · have hm := k_in cc9 hm
    refine lv_iload_n hx hb dX10_carry_12 rfl (lv_at hl 2 rfl) ?_
    refine lv_iconst (v := (-1)) hx hb dX10_carry_13 (by decide) ?_
    refine lv_bipush (v := 16) hx hb dX10_carry_14 (by decide) ?_
    obtain ⟨r13, hc16, hm⟩ := k_bds hm
    refine k_i_0 (k_rS (As := [.int a2, .int (-1), .int 16]) (rest := []) ⟨hx, hb, hml, hown, hts⟩ hK hN k_P0 (k_D0 (A := A)) (zX10_in hc16) (va_cwS 3 hts gX10_carry_X10_in rfl rfl rfl (by decide +kernel) ⟨Nat.le_of_ble_eq_true rfl, Nat.le_of_ble_eq_true rfl⟩) rfl hl.1 rfl (Nat.le_of_ble_eq_true rfl) dX10_carry_16 ⟨Nat.zero_le _, Nat.zero_le _⟩) hP hS hA (fun H locs hP hS => ?_)
    refine lv_if_eq (tgt := 32) hx hb dX10_carry_19 (by decide) (fun cc19 => ?_) (fun cc19 => ?_)
    · have hm := k_ip cc19 hm
      exact J_32 c_s c_before c_known 0 _ _ hP hD hS _ (lv_sub hl [0] rfl) hm
    · have hm := k_in cc19 hm
      refine lv_iload_n hx hb dX10_carry_22 rfl (lv_at hl 3 rfl) ?_
      refine lv_iconst (v := (-1)) hx hb dX10_carry_23 (by decide) ?_
      refine lv_bipush (v := 16) hx hb dX10_carry_24 (by decide) ?_
      obtain ⟨r14, hc26, hm⟩ := k_bds hm
      refine k_i_0 (k_rS (As := [.int a3, .int (-1), .int 16]) (rest := []) ⟨hx, hb, hml, hown, hts⟩ hK hN k_P0 (k_D0 (A := A)) (zX10_in hc26) (va_cwS 3 hts gX10_carry_X10_in rfl rfl rfl (by decide +kernel) ⟨Nat.le_of_ble_eq_true rfl, Nat.le_of_ble_eq_true rfl⟩) rfl hl.1 rfl (Nat.le_of_ble_eq_true rfl) dX10_carry_26 ⟨Nat.zero_le _, Nat.zero_le _⟩) hP hS hA (fun H locs hP hS => ?_)
      refine lv_if_ne (tgt := 38) hx hb dX10_carry_29 (by decide) (fun cc29 => ?_) (fun cc29 => ?_)
      · have hm := k_in cc29 hm
        refine lv_iload_n hx hb dX10_carry_38 rfl (lv_at hl 3 rfl) ?_
        obtain ⟨r15, hc39, hm⟩ := k_bds hm
        refine k_i_0 (k_rS (As := [.int a3]) (rest := []) ⟨hx, hb, hml, hown, hts⟩ hK hN k_P0 (k_D0 (A := A)) (zX10_isPoint hc39) (va_cwS 1 hts gX10_carry_X10_isPoint rfl rfl rfl (by decide +kernel) ⟨Nat.le_of_ble_eq_true rfl, Nat.le_of_ble_eq_true rfl⟩) rfl hl.1 rfl (Nat.le_of_ble_eq_true rfl) dX10_carry_39 ⟨Nat.zero_le _, Nat.zero_le _⟩) hP hS hA (fun H locs hP hS => ?_)
        refine lv_if_eq (tgt := 60) hx hb dX10_carry_42 (by decide) (fun cc42 => ?_) (fun cc42 => ?_)
        · have hm := k_ip cc42 hm
          exact J_60 c_s c_before c_known 0 _ _ hP hD hS _ (lv_sub hl [0, 1, 2, 3] rfl) hm
        · have hm := k_in cc42 hm
          refine lv_aload_n hx hb dX10_carry_45 rfl (lv_at hl 0 rfl) ?_
          refine lv_iconst (v := 1) hx hb dX10_carry_46 (by decide) ?_
          refine lv_iload_n hx hb dX10_carry_47 rfl (lv_at hl 1 rfl) ?_
          refine lv_isub hx hb dX10_carry_48 ?_
          refine lv_iload_n hx hb dX10_carry_49 rfl (lv_at hl 3 rfl) ?_
          obtain ⟨r16, hc50, hm⟩ := k_bds hm
          refine k_i_s (k_rV (As := [.int (1 - a1), .int a3]) (rest := []) ⟨hx, hb, hml, hown, hts⟩ hK hN hP hD (zX10_at hc50) (cwV 2 hts gX10_carry_X10_at rfl rfl rfl (by decide +kernel) ⟨Nat.le_of_ble_eq_true rfl, Nat.le_of_ble_eq_true rfl⟩) rfl rfl rfl hl.1 rfl (Nat.le_of_ble_eq_true rfl) dX10_carry_50 ⟨Nat.zero_le _, Nat.zero_le _⟩) hD hS hA (fun H locs hP hD hS => ?_)
          refine lv_if_le (tgt := 60) hx hb dX10_carry_53 (by decide) (fun cc53 => ?_) (fun cc53 => ?_)
          · have hm := k_ip cc53 hm
            exact J_60 c_s c_before c_known 0 _ _ hP hD hS _ (lv_sub hl [0, 1, 2, 3] rfl) hm
          · have hm := k_in cc53 hm
            refine lv_iconst (v := 1) hx hb dX10_carry_56 (by decide) ?_
            refine lv_goto (tgt := 61) hx hb dX10_carry_57 (by decide) ?_
            exact J_61 true c_s c_before c_known 0 _ _ hP hD hS _ (lv_sub hl [0, 1, 2, 3] rfl) hm
      · have hm := k_ip cc29 hm
        exact J_32 c_s c_before c_known 0 _ _ hP hD hS _ (lv_sub hl [0] rfl) hm

abbrev rmX10_offer : Room := { frames := 1, cells := 0, slots := 0, locals := 21 }
set_option maxHeartbeats 4000000 in
set_option maxRecDepth 100000 in
theorem zX10_offer {l : Launch} {D : va_G} {cI cJ cC cG : ClassId} {sz : Nat} {ad : Nat → Nat} {c_s : Nat → Int32} {c_before : Nat → Int32} {c_known : Int32} {c_kept : Nat → Int32} {c_isKept : Bool} {c_aside : Nat → Int32} {c_buffer : Nat → Int32} {c_length : Int32} {c_thrown : Int32} {c_laid : Nat → Int32} {c_spot : Int32} {c_isWrong : Bool} {c_isHalted : Bool} {c_mine : Nat → Int64} {c_theirs : Nat → Int64} {c_many : Int32} {c_from0 : Nat → Int64} {c_from1 : Nat → Int64} {c_dice : Nat → Int32} {c_hash : Int64} {r : Int32} {c_s' : Nat → Int32} {c_before' : Nat → Int32} {c_known' : Int32} {c_thrown' : Int32} (hm : mX10_offer c_s c_before c_known c_thrown = some (r, c_s', c_before', c_known', c_thrown')) : k_Mi l yX10_offer wsX10_offer rmX10_offer D (kT cI cJ cC cG) sz ([.ref (ad 0)] : List Value) (wM cI cJ ad c_s c_before c_known c_kept c_isKept c_aside c_buffer c_length c_thrown c_laid c_spot c_isWrong c_isHalted c_mine c_theirs c_many c_from0 c_from1 c_dice c_hash) (wM cI cJ ad c_s' c_before' c_known' c_kept c_isKept c_aside c_buffer c_length c_thrown' c_laid c_spot c_isWrong c_isHalted c_mine c_theirs c_many c_from0 c_from1 c_dice c_hash) r := by
  refine k_st_i (cc := cX10_offer) (maxL := 1) (by decide) rfl (Nat.le_of_ble_eq_true rfl) ?_
  intro p e z m below meth c A hx hb hr hml hts hown hlocks hsz hN hA hK hP hD hS ls hl
  have hown : z.vm.findClass RX10 = some m.cls := hown
  have hinX10 : ∀ w ∈ wsX100, w ∈ wsX10_offer := by decide +kernel
  have fl48 := hts (.fieldLink RX10 48 "MagpieRunsModel" "thrown" "I") (by decide +kernel)
  have hl : lv_has ls 1 [(0, .ref (ad 0))] := hl
  unfold mX10_offer at hm
  refine lv_aload_n hx hb dX10_offer_0 rfl (lv_at hl 0 rfl) ?_
  refine lv_iconst (v := 0) hx hb dX10_offer_1 (by decide) ?_
  refine va_put (D := D) (ci := 6) (v := .int 0) (ty := .int) (C := RX10) (T := TX10) (N := 20) hx hb hts hinX10 tyX10 tyX10_ok nmX10 hown hK hP hD hS 0 rfl rfl 8 (by decide) fl48 (fun _ h9 => h9) rfl (by decide +kernel) rfl rfl (Nat.le_of_ble_eq_true rfl) dX10_offer_2 (fun H locs hP hD hS => ?_)
  have hP : va_P D vwCl (wM cI cJ ad c_s c_before c_known c_kept c_isKept c_aside c_buffer c_length 0 c_laid c_spot c_isWrong c_isHalted c_mine c_theirs c_many c_from0 c_from1 c_dice c_hash) H := hP
  have hD : va_D A (wM cI cJ ad c_s c_before c_known c_kept c_isKept c_aside c_buffer c_length 0 c_laid c_spot c_isWrong c_isHalted c_mine c_theirs c_many c_from0 c_from1 c_dice c_hash) := hD
  refine lv_aload_n hx hb dX10_offer_5 rfl (lv_at hl 0 rfl) ?_
  obtain ⟨r1, hc6, hm⟩ := k_bds hm
  refine k_i_s (k_rV (As := []) (rest := []) ⟨hx, hb, hml, hown, hts⟩ hK hN hP hD (zX10_canOffer hc6) (cwV 0 hts gX10_offer_X10_canOffer rfl rfl rfl (by decide +kernel) ⟨Nat.le_of_ble_eq_true rfl, Nat.le_of_ble_eq_true rfl⟩) rfl rfl rfl hl.1 rfl (Nat.le_of_ble_eq_true rfl) dX10_offer_6 ⟨Nat.zero_le _, Nat.zero_le _⟩) hD hS hA (fun H locs hP hD hS => ?_)
  refine lv_if_ne (tgt := 18) hx hb dX10_offer_9 (by decide) (fun cc9 => ?_) (fun cc9 => ?_)
  · have hm := k_in cc9 hm
    refine lv_aload_n hx hb dX10_offer_18 rfl (lv_at hl 0 rfl) ?_
    obtain ⟨w2, w3, hc19, hm⟩ := k_bd2s hm
    refine k_v_s (k_rV (As := []) (rest := []) ⟨hx, hb, hml, hown, hts⟩ hK hN hP hD (zX10_save hc19) (cwV 0 hts gX10_offer_X10_save rfl rfl rfl (by decide +kernel) ⟨Nat.le_of_ble_eq_true rfl, Nat.le_of_ble_eq_true rfl⟩) rfl rfl rfl hl.1 rfl (Nat.le_of_ble_eq_true rfl) dX10_offer_19 ⟨Nat.zero_le _, Nat.zero_le _⟩) hD hS hA (fun H locs hP hD hS => ?_)
    refine lv_aload_n hx hb dX10_offer_22 rfl (lv_at hl 0 rfl) ?_
    obtain ⟨r4, w5, hc23, hm⟩ := k_bd2s hm
    refine k_i_s (k_rV (As := []) (rest := []) ⟨hx, hb, hml, hown, hts⟩ hK hN hP hD (zX10_offers hc23) (cwV 0 hts gX10_offer_X10_offers rfl rfl rfl (by decide +kernel) ⟨Nat.le_of_ble_eq_true rfl, Nat.le_of_ble_eq_true rfl⟩) rfl rfl rfl hl.1 rfl (Nat.le_of_ble_eq_true rfl) dX10_offer_23 ⟨Nat.zero_le _, Nat.zero_le _⟩) hD hS hA (fun H locs hP hD hS => ?_)
    cases hm
    exact k_end_i hx hb hr hlocks hK hP hD hS dX10_offer_26
  · have hm := k_ip cc9 hm
    refine lv_aload_n hx hb dX10_offer_12 rfl (lv_at hl 0 rfl) ?_
    refine lv_iconst (v := 1) hx hb dX10_offer_13 (by decide) ?_
    obtain ⟨r6, w7, hc14, hm⟩ := k_bd2s hm
    refine k_i_s (k_rV (As := [.int 1]) (rest := []) ⟨hx, hb, hml, hown, hts⟩ hK hN hP hD (zX10_throwing hc14) (cwV 1 hts gX10_offer_X10_throwing rfl rfl rfl (by decide +kernel) ⟨Nat.le_of_ble_eq_true rfl, Nat.le_of_ble_eq_true rfl⟩) rfl rfl rfl hl.1 rfl (Nat.le_of_ble_eq_true rfl) dX10_offer_14 ⟨Nat.zero_le _, Nat.zero_le _⟩) hD hS hA (fun H locs hP hD hS => ?_)
    cases hm
    exact k_end_i hx hb hr hlocks hK hP hD hS dX10_offer_17

abbrev rmX10_take : Room := { frames := 1, cells := 0, slots := 0, locals := 21 }
set_option maxHeartbeats 4000000 in
set_option maxRecDepth 100000 in
theorem zX10_take {l : Launch} {D : va_G} {cI cJ cC cG : ClassId} {sz : Nat} {ad : Nat → Nat} {c_s : Nat → Int32} {c_before : Nat → Int32} {c_known : Int32} {c_kept : Nat → Int32} {c_isKept : Bool} {c_aside : Nat → Int32} {c_buffer : Nat → Int32} {c_length : Int32} {c_thrown : Int32} {c_laid : Nat → Int32} {c_spot : Int32} {c_isWrong : Bool} {c_isHalted : Bool} {c_mine : Nat → Int64} {c_theirs : Nat → Int64} {c_many : Int32} {c_from0 : Nat → Int64} {c_from1 : Nat → Int64} {c_dice : Nat → Int32} {c_hash : Int64} {r : Int32} {c_s' : Nat → Int32} {c_before' : Nat → Int32} {c_known' : Int32} {c_thrown' : Int32} (hm : mX10_take c_s c_before c_known c_thrown = some (r, c_s', c_before', c_known', c_thrown')) : k_Mi l yX10_take wsX10_take rmX10_take D (kT cI cJ cC cG) sz ([.ref (ad 0)] : List Value) (wM cI cJ ad c_s c_before c_known c_kept c_isKept c_aside c_buffer c_length c_thrown c_laid c_spot c_isWrong c_isHalted c_mine c_theirs c_many c_from0 c_from1 c_dice c_hash) (wM cI cJ ad c_s' c_before' c_known' c_kept c_isKept c_aside c_buffer c_length c_thrown' c_laid c_spot c_isWrong c_isHalted c_mine c_theirs c_many c_from0 c_from1 c_dice c_hash) r := by
  refine k_st_i (cc := cX10_take) (maxL := 1) (by decide) rfl (Nat.le_of_ble_eq_true rfl) ?_
  intro p e z m below meth c A hx hb hr hml hts hown hlocks hsz hN hA hK hP hD hS ls hl
  have hown : z.vm.findClass RX10 = some m.cls := hown
  have hinX10 : ∀ w ∈ wsX100, w ∈ wsX10_take := by decide +kernel
  have fl7 := hts (.fieldLink RX10 7 "MagpieRunsModel" "s" "[I") (by decide +kernel)
  have fl48 := hts (.fieldLink RX10 48 "MagpieRunsModel" "thrown" "I") (by decide +kernel)
  have hl : lv_has ls 1 [(0, .ref (ad 0))] := hl
  unfold mX10_take at hm
  refine lv_aload_n hx hb dX10_take_0 rfl (lv_at hl 0 rfl) ?_
  refine lv_iconst (v := 0) hx hb dX10_take_1 (by decide) ?_
  refine va_put (D := D) (ci := 6) (v := .int 0) (ty := .int) (C := RX10) (T := TX10) (N := 20) hx hb hts hinX10 tyX10 tyX10_ok nmX10 hown hK hP hD hS 0 rfl rfl 8 (by decide) fl48 (fun _ h9 => h9) rfl (by decide +kernel) rfl rfl (Nat.le_of_ble_eq_true rfl) dX10_take_2 (fun H locs hP hD hS => ?_)
  have hP : va_P D vwCl (wM cI cJ ad c_s c_before c_known c_kept c_isKept c_aside c_buffer c_length 0 c_laid c_spot c_isWrong c_isHalted c_mine c_theirs c_many c_from0 c_from1 c_dice c_hash) H := hP
  have hD : va_D A (wM cI cJ ad c_s c_before c_known c_kept c_isKept c_aside c_buffer c_length 0 c_laid c_spot c_isWrong c_isHalted c_mine c_theirs c_many c_from0 c_from1 c_dice c_hash) := hD
  refine lv_aload_n hx hb dX10_take_5 rfl (lv_at hl 0 rfl) ?_
  refine va_get (D := D) (ci := 6) (v := .ref (ad 1)) (C := RX10) (T := TX10) (N := 20) hx hb hts hinX10 hown hK hP 0 rfl rfl 0 (by decide) fl7 (fun _ h9 => h9) rfl dX10_take_6 ?_
  refine lv_bipush (v := 37) hx hb dX10_take_9 (by decide) ?_
  refine k_iaC hx hb hK hP 1 0 rfl rfl kl_37 ki_37_51 dX10_take_11 ?_
  refine lv_iconst (v := 2) hx hb dX10_take_12 (by decide) ?_
  refine lv_icmp_eq (tgt := 22) hx hb dX10_take_13 (by decide) (fun cc13 => ?_) (fun cc13 => ?_)
  · have hm := k_ip cc13 hm
    refine lv_aload_n hx hb dX10_take_22 rfl (lv_at hl 0 rfl) ?_
    obtain ⟨w1, w2, hc23, hm⟩ := k_bd2s hm
    refine k_v_s (k_rV (As := []) (rest := []) ⟨hx, hb, hml, hown, hts⟩ hK hN hP hD (zX10_save hc23) (cwV 0 hts gX10_take_X10_save rfl rfl rfl (by decide +kernel) ⟨Nat.le_of_ble_eq_true rfl, Nat.le_of_ble_eq_true rfl⟩) rfl rfl rfl hl.1 rfl (Nat.le_of_ble_eq_true rfl) dX10_take_23 ⟨Nat.zero_le _, Nat.zero_le _⟩) hD hS hA (fun H locs hP hD hS => ?_)
    refine lv_aload_n hx hb dX10_take_26 rfl (lv_at hl 0 rfl) ?_
    obtain ⟨r3, w4, hc27, hm⟩ := k_bd2s hm
    refine k_i_s (k_rV (As := []) (rest := []) ⟨hx, hb, hml, hown, hts⟩ hK hN hP hD (zX10_doubles hc27) (cwV 0 hts gX10_take_X10_doubles rfl rfl rfl (by decide +kernel) ⟨Nat.le_of_ble_eq_true rfl, Nat.le_of_ble_eq_true rfl⟩) rfl rfl rfl hl.1 rfl (Nat.le_of_ble_eq_true rfl) dX10_take_27 ⟨Nat.zero_le _, Nat.zero_le _⟩) hD hS hA (fun H locs hP hD hS => ?_)
    cases hm
    exact k_end_i hx hb hr hlocks hK hP hD hS dX10_take_30
  · have hm := k_in cc13 hm
    refine lv_aload_n hx hb dX10_take_16 rfl (lv_at hl 0 rfl) ?_
    refine lv_iconst (v := 1) hx hb dX10_take_17 (by decide) ?_
    obtain ⟨r5, w6, hc18, hm⟩ := k_bd2s hm
    refine k_i_s (k_rV (As := [.int 1]) (rest := []) ⟨hx, hb, hml, hown, hts⟩ hK hN hP hD (zX10_throwing hc18) (cwV 1 hts gX10_take_X10_throwing rfl rfl rfl (by decide +kernel) ⟨Nat.le_of_ble_eq_true rfl, Nat.le_of_ble_eq_true rfl⟩) rfl rfl rfl hl.1 rfl (Nat.le_of_ble_eq_true rfl) dX10_take_18 ⟨Nat.zero_le _, Nat.zero_le _⟩) hD hS hA (fun H locs hP hD hS => ?_)
    cases hm
    exact k_end_i hx hb hr hlocks hK hP hD hS dX10_take_21

abbrev rmX10_drop : Room := { frames := 1, cells := 0, slots := 0, locals := 21 }
set_option maxHeartbeats 4000000 in
set_option maxRecDepth 100000 in
theorem zX10_drop {l : Launch} {D : va_G} {cI cJ cC cG : ClassId} {sz : Nat} {ad : Nat → Nat} {c_s : Nat → Int32} {c_before : Nat → Int32} {c_known : Int32} {c_kept : Nat → Int32} {c_isKept : Bool} {c_aside : Nat → Int32} {c_buffer : Nat → Int32} {c_length : Int32} {c_thrown : Int32} {c_laid : Nat → Int32} {c_spot : Int32} {c_isWrong : Bool} {c_isHalted : Bool} {c_mine : Nat → Int64} {c_theirs : Nat → Int64} {c_many : Int32} {c_from0 : Nat → Int64} {c_from1 : Nat → Int64} {c_dice : Nat → Int32} {c_hash : Int64} {r : Int32} {c_s' : Nat → Int32} {c_before' : Nat → Int32} {c_known' : Int32} {c_thrown' : Int32} (hm : mX10_drop c_s c_before c_known c_thrown = some (r, c_s', c_before', c_known', c_thrown')) : k_Mi l yX10_drop wsX10_drop rmX10_drop D (kT cI cJ cC cG) sz ([.ref (ad 0)] : List Value) (wM cI cJ ad c_s c_before c_known c_kept c_isKept c_aside c_buffer c_length c_thrown c_laid c_spot c_isWrong c_isHalted c_mine c_theirs c_many c_from0 c_from1 c_dice c_hash) (wM cI cJ ad c_s' c_before' c_known' c_kept c_isKept c_aside c_buffer c_length c_thrown' c_laid c_spot c_isWrong c_isHalted c_mine c_theirs c_many c_from0 c_from1 c_dice c_hash) r := by
  refine k_st_i (cc := cX10_drop) (maxL := 1) (by decide) rfl (Nat.le_of_ble_eq_true rfl) ?_
  intro p e z m below meth c A hx hb hr hml hts hown hlocks hsz hN hA hK hP hD hS ls hl
  have hown : z.vm.findClass RX10 = some m.cls := hown
  have hinX10 : ∀ w ∈ wsX100, w ∈ wsX10_drop := by decide +kernel
  have fl7 := hts (.fieldLink RX10 7 "MagpieRunsModel" "s" "[I") (by decide +kernel)
  have fl48 := hts (.fieldLink RX10 48 "MagpieRunsModel" "thrown" "I") (by decide +kernel)
  have hl : lv_has ls 1 [(0, .ref (ad 0))] := hl
  unfold mX10_drop at hm
  refine lv_aload_n hx hb dX10_drop_0 rfl (lv_at hl 0 rfl) ?_
  refine lv_iconst (v := 0) hx hb dX10_drop_1 (by decide) ?_
  refine va_put (D := D) (ci := 6) (v := .int 0) (ty := .int) (C := RX10) (T := TX10) (N := 20) hx hb hts hinX10 tyX10 tyX10_ok nmX10 hown hK hP hD hS 0 rfl rfl 8 (by decide) fl48 (fun _ h9 => h9) rfl (by decide +kernel) rfl rfl (Nat.le_of_ble_eq_true rfl) dX10_drop_2 (fun H locs hP hD hS => ?_)
  have hP : va_P D vwCl (wM cI cJ ad c_s c_before c_known c_kept c_isKept c_aside c_buffer c_length 0 c_laid c_spot c_isWrong c_isHalted c_mine c_theirs c_many c_from0 c_from1 c_dice c_hash) H := hP
  have hD : va_D A (wM cI cJ ad c_s c_before c_known c_kept c_isKept c_aside c_buffer c_length 0 c_laid c_spot c_isWrong c_isHalted c_mine c_theirs c_many c_from0 c_from1 c_dice c_hash) := hD
  refine lv_aload_n hx hb dX10_drop_5 rfl (lv_at hl 0 rfl) ?_
  refine va_get (D := D) (ci := 6) (v := .ref (ad 1)) (C := RX10) (T := TX10) (N := 20) hx hb hts hinX10 hown hK hP 0 rfl rfl 0 (by decide) fl7 (fun _ h9 => h9) rfl dX10_drop_6 ?_
  refine lv_bipush (v := 37) hx hb dX10_drop_9 (by decide) ?_
  refine k_iaC hx hb hK hP 1 0 rfl rfl kl_37 ki_37_51 dX10_drop_11 ?_
  refine lv_iconst (v := 2) hx hb dX10_drop_12 (by decide) ?_
  refine lv_icmp_eq (tgt := 22) hx hb dX10_drop_13 (by decide) (fun cc13 => ?_) (fun cc13 => ?_)
  · have hm := k_ip cc13 hm
    refine lv_aload_n hx hb dX10_drop_22 rfl (lv_at hl 0 rfl) ?_
    obtain ⟨w1, w2, hc23, hm⟩ := k_bd2s hm
    refine k_v_s (k_rV (As := []) (rest := []) ⟨hx, hb, hml, hown, hts⟩ hK hN hP hD (zX10_save hc23) (cwV 0 hts gX10_drop_X10_save rfl rfl rfl (by decide +kernel) ⟨Nat.le_of_ble_eq_true rfl, Nat.le_of_ble_eq_true rfl⟩) rfl rfl rfl hl.1 rfl (Nat.le_of_ble_eq_true rfl) dX10_drop_23 ⟨Nat.zero_le _, Nat.zero_le _⟩) hD hS hA (fun H locs hP hD hS => ?_)
    refine lv_aload_n hx hb dX10_drop_26 rfl (lv_at hl 0 rfl) ?_
    obtain ⟨r3, w4, hc27, hm⟩ := k_bd2s hm
    refine k_i_s (k_rV (As := []) (rest := []) ⟨hx, hb, hml, hown, hts⟩ hK hN hP hD (zX10_drops hc27) (cwV 0 hts gX10_drop_X10_drops rfl rfl rfl (by decide +kernel) ⟨Nat.le_of_ble_eq_true rfl, Nat.le_of_ble_eq_true rfl⟩) rfl rfl rfl hl.1 rfl (Nat.le_of_ble_eq_true rfl) dX10_drop_27 ⟨Nat.zero_le _, Nat.zero_le _⟩) hD hS hA (fun H locs hP hD hS => ?_)
    cases hm
    exact k_end_i hx hb hr hlocks hK hP hD hS dX10_drop_30
  · have hm := k_in cc13 hm
    refine lv_aload_n hx hb dX10_drop_16 rfl (lv_at hl 0 rfl) ?_
    refine lv_iconst (v := 1) hx hb dX10_drop_17 (by decide) ?_
    obtain ⟨r5, w6, hc18, hm⟩ := k_bd2s hm
    refine k_i_s (k_rV (As := [.int 1]) (rest := []) ⟨hx, hb, hml, hown, hts⟩ hK hN hP hD (zX10_throwing hc18) (cwV 1 hts gX10_drop_X10_throwing rfl rfl rfl (by decide +kernel) ⟨Nat.le_of_ble_eq_true rfl, Nat.le_of_ble_eq_true rfl⟩) rfl rfl rfl hl.1 rfl (Nat.le_of_ble_eq_true rfl) dX10_drop_18 ⟨Nat.zero_le _, Nat.zero_le _⟩) hD hS hA (fun H locs hP hD hS => ?_)
    cases hm
    exact k_end_i hx hb hr hlocks hK hP hD hS dX10_drop_21

abbrev rmX10_newGame : Room := { frames := 3, cells := 0, slots := 0, locals := 65 }
set_option maxHeartbeats 4000000 in
set_option maxRecDepth 100000 in
theorem zX10_newGame {l : Launch} {D : va_G} {cI cJ cC cG : ClassId} {sz : Nat} {ad : Nat → Nat} {c_s : Nat → Int32} {c_before : Nat → Int32} {c_known : Int32} {c_kept : Nat → Int32} {c_isKept : Bool} {c_aside : Nat → Int32} {c_buffer : Nat → Int32} {c_length : Int32} {c_thrown : Int32} {c_laid : Nat → Int32} {c_spot : Int32} {c_isWrong : Bool} {c_isHalted : Bool} {c_mine : Nat → Int64} {c_theirs : Nat → Int64} {c_many : Int32} {c_from0 : Nat → Int64} {c_from1 : Nat → Int64} {c_dice : Nat → Int32} {c_hash : Int64} {r : Int32} {c_s' : Nat → Int32} {c_before' : Nat → Int32} {c_known' : Int32} {c_thrown' : Int32} (hm : mX10_newGame c_s c_before c_known c_thrown = some (r, c_s', c_before', c_known', c_thrown')) : k_Mi l yX10_newGame wsX10_newGame rmX10_newGame D (kT cI cJ cC cG) sz ([.ref (ad 0)] : List Value) (wM cI cJ ad c_s c_before c_known c_kept c_isKept c_aside c_buffer c_length c_thrown c_laid c_spot c_isWrong c_isHalted c_mine c_theirs c_many c_from0 c_from1 c_dice c_hash) (wM cI cJ ad c_s' c_before' c_known' c_kept c_isKept c_aside c_buffer c_length c_thrown' c_laid c_spot c_isWrong c_isHalted c_mine c_theirs c_many c_from0 c_from1 c_dice c_hash) r := by
  refine k_st_i (cc := cX10_newGame) (maxL := 1) (by decide) rfl (Nat.le_of_ble_eq_true rfl) ?_
  intro p e z m below meth c A hx hb hr hml hts hown hlocks hsz hN hA hK hP hD hS ls hl
  have hown : z.vm.findClass RX10 = some m.cls := hown
  have hinX10 : ∀ w ∈ wsX100, w ∈ wsX10_newGame := by decide +kernel
  have fl7 := hts (.fieldLink RX10 7 "MagpieRunsModel" "s" "[I") (by decide +kernel)
  have fl48 := hts (.fieldLink RX10 48 "MagpieRunsModel" "thrown" "I") (by decide +kernel)
  have hl : lv_has ls 1 [(0, .ref (ad 0))] := hl
  unfold mX10_newGame at hm
  refine lv_aload_n hx hb dX10_newGame_0 rfl (lv_at hl 0 rfl) ?_
  refine lv_iconst (v := 0) hx hb dX10_newGame_1 (by decide) ?_
  refine va_put (D := D) (ci := 6) (v := .int 0) (ty := .int) (C := RX10) (T := TX10) (N := 20) hx hb hts hinX10 tyX10 tyX10_ok nmX10 hown hK hP hD hS 0 rfl rfl 8 (by decide) fl48 (fun _ h9 => h9) rfl (by decide +kernel) rfl rfl (Nat.le_of_ble_eq_true rfl) dX10_newGame_2 (fun H locs hP hD hS => ?_)
  have hP : va_P D vwCl (wM cI cJ ad c_s c_before c_known c_kept c_isKept c_aside c_buffer c_length 0 c_laid c_spot c_isWrong c_isHalted c_mine c_theirs c_many c_from0 c_from1 c_dice c_hash) H := hP
  have hD : va_D A (wM cI cJ ad c_s c_before c_known c_kept c_isKept c_aside c_buffer c_length 0 c_laid c_spot c_isWrong c_isHalted c_mine c_theirs c_many c_from0 c_from1 c_dice c_hash) := hD
  refine lv_aload_n hx hb dX10_newGame_5 rfl (lv_at hl 0 rfl) ?_
  refine va_get (D := D) (ci := 6) (v := .ref (ad 1)) (C := RX10) (T := TX10) (N := 20) hx hb hts hinX10 hown hK hP 0 rfl rfl 0 (by decide) fl7 (fun _ h9 => h9) rfl dX10_newGame_6 ?_
  refine lv_bipush (v := 37) hx hb dX10_newGame_9 (by decide) ?_
  refine k_iaC hx hb hK hP 1 0 rfl rfl kl_37 ki_37_51 dX10_newGame_11 ?_
  refine lv_iconst (v := 3) hx hb dX10_newGame_12 (by decide) ?_
  refine lv_icmp_eq (tgt := 22) hx hb dX10_newGame_13 (by decide) (fun cc13 => ?_) (fun cc13 => ?_)
  · have hm := k_ip cc13 hm
    refine lv_aload_n hx hb dX10_newGame_22 rfl (lv_at hl 0 rfl) ?_
    obtain ⟨w1, w2, hc23, hm⟩ := k_bd2s hm
    refine k_v_s (k_rV (As := []) (rest := []) ⟨hx, hb, hml, hown, hts⟩ hK hN hP hD (zX10_save hc23) (cwV 0 hts gX10_newGame_X10_save rfl rfl rfl (by decide +kernel) ⟨Nat.le_of_ble_eq_true rfl, Nat.le_of_ble_eq_true rfl⟩) rfl rfl rfl hl.1 rfl (Nat.le_of_ble_eq_true rfl) dX10_newGame_23 ⟨Nat.zero_le _, Nat.zero_le _⟩) hD hS hA (fun H locs hP hD hS => ?_)
    refine lv_aload_n hx hb dX10_newGame_26 rfl (lv_at hl 0 rfl) ?_
    obtain ⟨r3, w4, hc27, hm⟩ := k_bd2s hm
    refine k_i_s (k_rV (As := []) (rest := []) ⟨hx, hb, hml, hown, hts⟩ hK hN hP hD (zX10_anew hc27) (cwV 0 hts gX10_newGame_X10_anew rfl rfl rfl (by decide +kernel) ⟨Nat.le_of_ble_eq_true rfl, Nat.le_of_ble_eq_true rfl⟩) rfl rfl rfl hl.1 rfl (Nat.le_of_ble_eq_true rfl) dX10_newGame_27 ⟨Nat.zero_le _, Nat.zero_le _⟩) hD hS hA (fun H locs hP hD hS => ?_)
    cases hm
    exact k_end_i hx hb hr hlocks hK hP hD hS dX10_newGame_30
  · have hm := k_in cc13 hm
    refine lv_aload_n hx hb dX10_newGame_16 rfl (lv_at hl 0 rfl) ?_
    refine lv_iconst (v := 1) hx hb dX10_newGame_17 (by decide) ?_
    obtain ⟨r5, w6, hc18, hm⟩ := k_bd2s hm
    refine k_i_s (k_rV (As := [.int 1]) (rest := []) ⟨hx, hb, hml, hown, hts⟩ hK hN hP hD (zX10_throwing hc18) (cwV 1 hts gX10_newGame_X10_throwing rfl rfl rfl (by decide +kernel) ⟨Nat.le_of_ble_eq_true rfl, Nat.le_of_ble_eq_true rfl⟩) rfl rfl rfl hl.1 rfl (Nat.le_of_ble_eq_true rfl) dX10_newGame_18 ⟨Nat.zero_le _, Nat.zero_le _⟩) hD hS hA (fun H locs hP hD hS => ?_)
    cases hm
    exact k_end_i hx hb hr hlocks hK hP hD hS dX10_newGame_21

abbrev rmX10_append : Room := { frames := 1, cells := 0, slots := 0, locals := 22 }
set_option maxHeartbeats 4000000 in
set_option maxRecDepth 100000 in
theorem zX10_append {l : Launch} {D : va_G} {cI cJ cC cG : ClassId} {sz : Nat} {ad : Nat → Nat} {c_s : Nat → Int32} {c_before : Nat → Int32} {c_known : Int32} {c_kept : Nat → Int32} {c_isKept : Bool} {c_aside : Nat → Int32} {c_buffer : Nat → Int32} {c_length : Int32} {c_thrown : Int32} {c_laid : Nat → Int32} {c_spot : Int32} {c_isWrong : Bool} {c_isHalted : Bool} {c_mine : Nat → Int64} {c_theirs : Nat → Int64} {c_many : Int32} {c_from0 : Nat → Int64} {c_from1 : Nat → Int64} {c_dice : Nat → Int32} {c_hash : Int64} {a1 : Int32} {r : Int32} {c_buffer' : Nat → Int32} {c_length' : Int32} {c_thrown' : Int32} (hm : mX10_append c_buffer c_length c_thrown a1 = some (r, c_buffer', c_length', c_thrown')) : k_Mi l yX10_append wsX10_append rmX10_append D (kT cI cJ cC cG) sz ([.ref (ad 0), .int a1] : List Value) (wM cI cJ ad c_s c_before c_known c_kept c_isKept c_aside c_buffer c_length c_thrown c_laid c_spot c_isWrong c_isHalted c_mine c_theirs c_many c_from0 c_from1 c_dice c_hash) (wM cI cJ ad c_s c_before c_known c_kept c_isKept c_aside c_buffer' c_length' c_thrown' c_laid c_spot c_isWrong c_isHalted c_mine c_theirs c_many c_from0 c_from1 c_dice c_hash) r := by
  refine k_st_i (cc := cX10_append) (maxL := 2) (by decide) rfl (Nat.le_of_ble_eq_true rfl) ?_
  intro p e z m below meth c A hx hb hr hml hts hown hlocks hsz hN hA hK hP hD hS ls hl
  have hown : z.vm.findClass RX10 = some m.cls := hown
  have hinX10 : ∀ w ∈ wsX100, w ∈ wsX10_append := by decide +kernel
  have fl22 := hts (.fieldLink RX10 22 "MagpieRunsModel" "buffer" "[I") (by decide +kernel)
  have fl48 := hts (.fieldLink RX10 48 "MagpieRunsModel" "thrown" "I") (by decide +kernel)
  have fl173 := hts (.fieldLink RX10 173 "MagpieRunsModel" "length" "I") (by decide +kernel)
  have hl : lv_has ls 2 [(0, .ref (ad 0)), (1, .int a1)] := hl
  unfold mX10_append at hm
  refine lv_aload_n hx hb dX10_append_0 rfl (lv_at hl 0 rfl) ?_
  refine lv_iconst (v := 0) hx hb dX10_append_1 (by decide) ?_
  refine va_put (D := D) (ci := 6) (v := .int 0) (ty := .int) (C := RX10) (T := TX10) (N := 20) hx hb hts hinX10 tyX10 tyX10_ok nmX10 hown hK hP hD hS 0 rfl rfl 8 (by decide) fl48 (fun _ h9 => h9) rfl (by decide +kernel) rfl rfl (Nat.le_of_ble_eq_true rfl) dX10_append_2 (fun H locs hP hD hS => ?_)
  have hP : va_P D vwCl (wM cI cJ ad c_s c_before c_known c_kept c_isKept c_aside c_buffer c_length 0 c_laid c_spot c_isWrong c_isHalted c_mine c_theirs c_many c_from0 c_from1 c_dice c_hash) H := hP
  have hD : va_D A (wM cI cJ ad c_s c_before c_known c_kept c_isKept c_aside c_buffer c_length 0 c_laid c_spot c_isWrong c_isHalted c_mine c_theirs c_many c_from0 c_from1 c_dice c_hash) := hD
  refine lv_iload_n hx hb dX10_append_5 rfl (lv_at hl 1 rfl) ?_
  refine lv_bipush (v := 33) hx hb dX10_append_6 (by decide) ?_
  refine lv_bipush (v := 126) hx hb dX10_append_8 (by decide) ?_
  obtain ⟨r1, hc10, hm⟩ := k_bds hm
  refine k_i_0 (k_rS (As := [.int a1, .int 33, .int 126]) (rest := []) ⟨hx, hb, hml, hown, hts⟩ hK hN k_P0 (k_D0 (A := A)) (zX10_in hc10) (va_cwS 3 hts gX10_append_X10_in rfl rfl rfl (by decide +kernel) ⟨Nat.le_of_ble_eq_true rfl, Nat.le_of_ble_eq_true rfl⟩) rfl hl.1 rfl (Nat.le_of_ble_eq_true rfl) dX10_append_10 ⟨Nat.zero_le _, Nat.zero_le _⟩) hP hS hA (fun H locs hP hS => ?_)
  refine lv_if_ne (tgt := 22) hx hb dX10_append_13 (by decide) (fun cc13 => ?_) (fun cc13 => ?_)
  · have hm := k_in cc13 hm
    refine lv_aload_n hx hb dX10_append_22 rfl (lv_at hl 0 rfl) ?_
    refine va_get (D := D) (ci := 6) (v := .int c_length) (C := RX10) (T := TX10) (N := 20) hx hb hts hinX10 hown hK hP 0 rfl rfl 7 (by decide) fl173 (fun _ h9 => h9) rfl dX10_append_23 ?_
    refine lv_bipush (v := 60) hx hb dX10_append_26 (by decide) ?_
    refine lv_icmp_ne (tgt := 37) hx hb dX10_append_28 (by decide) (fun cc28 => ?_) (fun cc28 => ?_)
    · have hm := k_in cc28 hm
      refine lv_aload_n hx hb dX10_append_37 rfl (lv_at hl 0 rfl) ?_
      refine va_get (D := D) (ci := 6) (v := .ref (ad 5)) (C := RX10) (T := TX10) (N := 20) hx hb hts hinX10 hown hK hP 0 rfl rfl 6 (by decide) fl22 (fun _ h9 => h9) rfl dX10_append_38 ?_
      refine lv_aload_n hx hb dX10_append_41 rfl (lv_at hl 0 rfl) ?_
      refine va_get (D := D) (ci := 6) (v := .int c_length) (C := RX10) (T := TX10) (N := 20) hx hb hts hinX10 hown hK hP 0 rfl rfl 7 (by decide) fl173 (fun _ h9 => h9) rfl dX10_append_42 ?_
      refine lv_iload_n hx hb dX10_append_45 rfl (lv_at hl 1 rfl) ?_
      obtain ⟨gi46, hm⟩ := k_gs hm
      refine va_iast hx hb hK hP hD hS 5 0 rfl rfl gi46 dX10_append_46 (fun H locs hP hD hS => ?_)
      have hP : va_P D vwCl (wM cI cJ ad c_s c_before c_known c_kept c_isKept c_aside (upd c_buffer (Int32.toNatClampNeg c_length) a1) c_length 0 c_laid c_spot c_isWrong c_isHalted c_mine c_theirs c_many c_from0 c_from1 c_dice c_hash) H := hP
      have hD : va_D A (wM cI cJ ad c_s c_before c_known c_kept c_isKept c_aside (upd c_buffer (Int32.toNatClampNeg c_length) a1) c_length 0 c_laid c_spot c_isWrong c_isHalted c_mine c_theirs c_many c_from0 c_from1 c_dice c_hash) := hD
      refine lv_aload_n hx hb dX10_append_47 rfl (lv_at hl 0 rfl) ?_
      refine lv_dup hx hb dX10_append_48 rfl ?_
      refine va_get (D := D) (ci := 6) (v := .int c_length) (C := RX10) (T := TX10) (N := 20) hx hb hts hinX10 hown hK hP 0 rfl rfl 7 (by decide) fl173 (fun _ h9 => h9) rfl dX10_append_49 ?_
      refine lv_iconst (v := 1) hx hb dX10_append_52 (by decide) ?_
      refine lv_iadd hx hb dX10_append_53 ?_
      refine va_put (D := D) (ci := 6) (v := .int (c_length + 1)) (ty := .int) (C := RX10) (T := TX10) (N := 20) hx hb hts hinX10 tyX10 tyX10_ok nmX10 hown hK hP hD hS 0 rfl rfl 7 (by decide) fl173 (fun _ h9 => h9) rfl (by decide +kernel) rfl rfl (Nat.le_of_ble_eq_true rfl) dX10_append_54 (fun H locs hP hD hS => ?_)
      have hP : va_P D vwCl (wM cI cJ ad c_s c_before c_known c_kept c_isKept c_aside (upd c_buffer (Int32.toNatClampNeg c_length) a1) (c_length + 1) 0 c_laid c_spot c_isWrong c_isHalted c_mine c_theirs c_many c_from0 c_from1 c_dice c_hash) H := hP
      have hD : va_D A (wM cI cJ ad c_s c_before c_known c_kept c_isKept c_aside (upd c_buffer (Int32.toNatClampNeg c_length) a1) (c_length + 1) 0 c_laid c_spot c_isWrong c_isHalted c_mine c_theirs c_many c_from0 c_from1 c_dice c_hash) := hD
      refine lv_aload_n hx hb dX10_append_57 rfl (lv_at hl 0 rfl) ?_
      refine va_get (D := D) (ci := 6) (v := .int (c_length + 1)) (C := RX10) (T := TX10) (N := 20) hx hb hts hinX10 hown hK hP 0 rfl rfl 7 (by decide) fl173 (fun _ h9 => h9) rfl dX10_append_58 ?_
      cases hm
      exact k_end_i hx hb hr hlocks hK hP hD hS dX10_append_61
    · have hm := k_ip cc28 hm
      refine lv_aload_n hx hb dX10_append_31 rfl (lv_at hl 0 rfl) ?_
      refine lv_iconst (v := 2) hx hb dX10_append_32 (by decide) ?_
      obtain ⟨r2, w3, hc33, hm⟩ := k_bd2s hm
      refine k_i_s (k_rV (As := [.int 2]) (rest := []) ⟨hx, hb, hml, hown, hts⟩ hK hN hP hD (zX10_throwing hc33) (cwV 1 hts gX10_append_X10_throwing rfl rfl rfl (by decide +kernel) ⟨Nat.le_of_ble_eq_true rfl, Nat.le_of_ble_eq_true rfl⟩) rfl rfl rfl hl.1 rfl (Nat.le_of_ble_eq_true rfl) dX10_append_33 ⟨Nat.zero_le _, Nat.zero_le _⟩) hD hS hA (fun H locs hP hD hS => ?_)
      cases hm
      exact k_end_i hx hb hr hlocks hK hP hD hS dX10_append_36
  · have hm := k_ip cc13 hm
    refine lv_aload_n hx hb dX10_append_16 rfl (lv_at hl 0 rfl) ?_
    refine lv_iconst (v := 1) hx hb dX10_append_17 (by decide) ?_
    obtain ⟨r4, w5, hc18, hm⟩ := k_bd2s hm
    refine k_i_s (k_rV (As := [.int 1]) (rest := []) ⟨hx, hb, hml, hown, hts⟩ hK hN hP hD (zX10_throwing hc18) (cwV 1 hts gX10_append_X10_throwing rfl rfl rfl (by decide +kernel) ⟨Nat.le_of_ble_eq_true rfl, Nat.le_of_ble_eq_true rfl⟩) rfl rfl rfl hl.1 rfl (Nat.le_of_ble_eq_true rfl) dX10_append_18 ⟨Nat.zero_le _, Nat.zero_le _⟩) hD hS hA (fun H locs hP hD hS => ?_)
    cases hm
    exact k_end_i hx hb hr hlocks hK hP hD hS dX10_append_21

abbrev rmX10_clearBuffer : Room := { frames := 0, cells := 0, slots := 0, locals := 0 }
set_option maxHeartbeats 4000000 in
set_option maxRecDepth 100000 in
theorem zX10_clearBuffer {l : Launch} {D : va_G} {cI cJ cC cG : ClassId} {sz : Nat} {ad : Nat → Nat} {c_s : Nat → Int32} {c_before : Nat → Int32} {c_known : Int32} {c_kept : Nat → Int32} {c_isKept : Bool} {c_aside : Nat → Int32} {c_buffer : Nat → Int32} {c_length : Int32} {c_thrown : Int32} {c_laid : Nat → Int32} {c_spot : Int32} {c_isWrong : Bool} {c_isHalted : Bool} {c_mine : Nat → Int64} {c_theirs : Nat → Int64} {c_many : Int32} {c_from0 : Nat → Int64} {c_from1 : Nat → Int64} {c_dice : Nat → Int32} {c_hash : Int64} {r : Int32} {c_length' : Int32} {c_thrown' : Int32} (hm : mX10_clearBuffer c_length c_thrown = some (r, c_length', c_thrown')) : k_Mi l yX10_clearBuffer wsX10_clearBuffer rmX10_clearBuffer D (kT cI cJ cC cG) sz ([.ref (ad 0)] : List Value) (wM cI cJ ad c_s c_before c_known c_kept c_isKept c_aside c_buffer c_length c_thrown c_laid c_spot c_isWrong c_isHalted c_mine c_theirs c_many c_from0 c_from1 c_dice c_hash) (wM cI cJ ad c_s c_before c_known c_kept c_isKept c_aside c_buffer c_length' c_thrown' c_laid c_spot c_isWrong c_isHalted c_mine c_theirs c_many c_from0 c_from1 c_dice c_hash) r := by
  refine k_st_i (cc := cX10_clearBuffer) (maxL := 2) (by decide) rfl (Nat.le_of_ble_eq_true rfl) ?_
  intro p e z m below meth c A hx hb hr hml hts hown hlocks hsz hN hA hK hP hD hS ls hl
  have hown : z.vm.findClass RX10 = some m.cls := hown
  have hinX10 : ∀ w ∈ wsX100, w ∈ wsX10_clearBuffer := by decide +kernel
  have fl48 := hts (.fieldLink RX10 48 "MagpieRunsModel" "thrown" "I") (by decide +kernel)
  have fl173 := hts (.fieldLink RX10 173 "MagpieRunsModel" "length" "I") (by decide +kernel)
  have hl : lv_has ls 2 [(0, .ref (ad 0))] := hl
  unfold mX10_clearBuffer at hm
  refine lv_aload_n hx hb dX10_clearBuffer_0 rfl (lv_at hl 0 rfl) ?_
  refine lv_iconst (v := 0) hx hb dX10_clearBuffer_1 (by decide) ?_
  refine va_put (D := D) (ci := 6) (v := .int 0) (ty := .int) (C := RX10) (T := TX10) (N := 20) hx hb hts hinX10 tyX10 tyX10_ok nmX10 hown hK hP hD hS 0 rfl rfl 8 (by decide) fl48 (fun _ h9 => h9) rfl (by decide +kernel) rfl rfl (Nat.le_of_ble_eq_true rfl) dX10_clearBuffer_2 (fun H locs hP hD hS => ?_)
  have hP : va_P D vwCl (wM cI cJ ad c_s c_before c_known c_kept c_isKept c_aside c_buffer c_length 0 c_laid c_spot c_isWrong c_isHalted c_mine c_theirs c_many c_from0 c_from1 c_dice c_hash) H := hP
  have hD : va_D A (wM cI cJ ad c_s c_before c_known c_kept c_isKept c_aside c_buffer c_length 0 c_laid c_spot c_isWrong c_isHalted c_mine c_theirs c_many c_from0 c_from1 c_dice c_hash) := hD
  refine lv_aload_n hx hb dX10_clearBuffer_5 rfl (lv_at hl 0 rfl) ?_
  refine va_get (D := D) (ci := 6) (v := .int c_length) (C := RX10) (T := TX10) (N := 20) hx hb hts hinX10 hown hK hP 0 rfl rfl 7 (by decide) fl173 (fun _ h9 => h9) rfl dX10_clearBuffer_6 ?_
  refine lv_istore_n (lv' := [(1, .int c_length), (0, .ref (ad 0))]) hx hb dX10_clearBuffer_9 rfl hl (by decide) rfl (fun ls hl => ?_)
  refine lv_aload_n hx hb dX10_clearBuffer_10 rfl (lv_at hl 1 rfl) ?_
  refine lv_iconst (v := 0) hx hb dX10_clearBuffer_11 (by decide) ?_
  refine va_put (D := D) (ci := 6) (v := .int 0) (ty := .int) (C := RX10) (T := TX10) (N := 20) hx hb hts hinX10 tyX10 tyX10_ok nmX10 hown hK hP hD hS 0 rfl rfl 7 (by decide) fl173 (fun _ h9 => h9) rfl (by decide +kernel) rfl rfl (Nat.le_of_ble_eq_true rfl) dX10_clearBuffer_12 (fun H locs hP hD hS => ?_)
  have hP : va_P D vwCl (wM cI cJ ad c_s c_before c_known c_kept c_isKept c_aside c_buffer 0 0 c_laid c_spot c_isWrong c_isHalted c_mine c_theirs c_many c_from0 c_from1 c_dice c_hash) H := hP
  have hD : va_D A (wM cI cJ ad c_s c_before c_known c_kept c_isKept c_aside c_buffer 0 0 c_laid c_spot c_isWrong c_isHalted c_mine c_theirs c_many c_from0 c_from1 c_dice c_hash) := hD
  refine lv_iload_n hx hb dX10_clearBuffer_15 rfl (lv_at hl 0 rfl) ?_
  cases hm
  exact k_end_i hx hb hr hlocks hK hP hD hS dX10_clearBuffer_16

abbrev rmX10_sign : Room := { frames := 1, cells := 0, slots := 0, locals := 22 }
set_option maxHeartbeats 4000000 in
set_option maxRecDepth 100000 in
theorem zX10_sign {l : Launch} {D : va_G} {cI cJ cC cG : ClassId} {sz : Nat} {ad : Nat → Nat} {c_s : Nat → Int32} {c_before : Nat → Int32} {c_known : Int32} {c_kept : Nat → Int32} {c_isKept : Bool} {c_aside : Nat → Int32} {c_buffer : Nat → Int32} {c_length : Int32} {c_thrown : Int32} {c_laid : Nat → Int32} {c_spot : Int32} {c_isWrong : Bool} {c_isHalted : Bool} {c_mine : Nat → Int64} {c_theirs : Nat → Int64} {c_many : Int32} {c_from0 : Nat → Int64} {c_from1 : Nat → Int64} {c_dice : Nat → Int32} {c_hash : Int64} {a1 : Int32} {a2 : Int32} {r : Int32} {c_spot' : Int32} {c_isWrong' : Bool} (hm : mX10_sign c_buffer c_length c_spot c_isWrong a1 a2 = some (r, c_spot', c_isWrong')) : k_Mi l yX10_sign wsX10_sign rmX10_sign D (kT cI cJ cC cG) sz ([.ref (ad 0), .int a1, .int a2] : List Value) (wM cI cJ ad c_s c_before c_known c_kept c_isKept c_aside c_buffer c_length c_thrown c_laid c_spot c_isWrong c_isHalted c_mine c_theirs c_many c_from0 c_from1 c_dice c_hash) (wM cI cJ ad c_s c_before c_known c_kept c_isKept c_aside c_buffer c_length c_thrown c_laid c_spot' c_isWrong' c_isHalted c_mine c_theirs c_many c_from0 c_from1 c_dice c_hash) r := by
  refine k_st_i (cc := cX10_sign) (maxL := 4) (by decide) rfl (Nat.le_of_ble_eq_true rfl) ?_
  intro p e z m below meth c A hx hb hr hml hts hown hlocks hsz hN hA hK hP hD hS ls hl
  have hown : z.vm.findClass RX10 = some m.cls := hown
  have hinX10 : ∀ w ∈ wsX100, w ∈ wsX10_sign := by decide +kernel
  have fl22 := hts (.fieldLink RX10 22 "MagpieRunsModel" "buffer" "[I") (by decide +kernel)
  have fl173 := hts (.fieldLink RX10 173 "MagpieRunsModel" "length" "I") (by decide +kernel)
  have fl176 := hts (.fieldLink RX10 176 "MagpieRunsModel" "spot" "I") (by decide +kernel)
  have fl179 := hts (.fieldLink RX10 179 "MagpieRunsModel" "isWrong" "Z") (by decide +kernel)
  have hl : lv_has ls 4 [(0, .ref (ad 0)), (1, .int a1), (2, .int a2)] := hl
  have J_74 : ∀ (t0 : Bool) (t1 : Int32) (l3 : Int32) (c_spot : Int32) (c_isWrong : Bool) (H : Heap) (locs : List Loc), va_P D vwCl (wM cI cJ ad c_s c_before c_known c_kept c_isKept c_aside c_buffer c_length c_thrown c_laid c_spot c_isWrong c_isHalted c_mine c_theirs c_many c_from0 c_from1 c_dice c_hash) H → va_D A (wM cI cJ ad c_s c_before c_known c_kept c_isKept c_aside c_buffer c_length c_thrown c_laid c_spot c_isWrong c_isHalted c_mine c_theirs c_many c_from0 c_from1 c_dice c_hash) → va_S A z.heap H locs → ∀ ls : Array Slot, lv_has ls 4 [(3, .int l3)] → mX10_sign_74 c_buffer c_length a1 a2 t0 t1 l3 c_spot c_isWrong = some (r, c_spot', c_isWrong') → W p l e rmX10_sign z m ([.ref (ad 0), .int a1, .int a2] : List Value).toArray below meth c H locs 0 0 (k_Qi below ([.ref (ad 0), .int a1, .int a2] : List Value) D (kT cI cJ cC cG) z A (wM cI cJ ad c_s c_before c_known c_kept c_isKept c_aside c_buffer c_length c_thrown c_laid c_spot' c_isWrong' c_isHalted c_mine c_theirs c_many c_from0 c_from1 c_dice c_hash) r) (F0 m 74 ls [.int (k_b t0), .int t1, .ref (ad 0)]) := by
    intro t0 t1 l3 c_spot c_isWrong H locs hP hD hS ls hl hm
    unfold mX10_sign_74 at hm
    refine lv_iadd hx hb dX10_sign_74 ?_
    refine va_put (D := D) (ci := 6) (v := .int (t1 + (k_b t0))) (ty := .int) (C := RX10) (T := TX10) (N := 20) hx hb hts hinX10 tyX10 tyX10_ok nmX10 hown hK hP hD hS 0 rfl rfl 10 (by decide) fl176 (fun _ h9 => h9) rfl (by decide +kernel) rfl rfl (Nat.le_of_ble_eq_true rfl) dX10_sign_75 (fun H locs hP hD hS => ?_)
    have hP : va_P D vwCl (wM cI cJ ad c_s c_before c_known c_kept c_isKept c_aside c_buffer c_length c_thrown c_laid (t1 + (k_b t0)) c_isWrong c_isHalted c_mine c_theirs c_many c_from0 c_from1 c_dice c_hash) H := hP
    have hD : va_D A (wM cI cJ ad c_s c_before c_known c_kept c_isKept c_aside c_buffer c_length c_thrown c_laid (t1 + (k_b t0)) c_isWrong c_isHalted c_mine c_theirs c_many c_from0 c_from1 c_dice c_hash) := hD
    refine lv_iload_n hx hb dX10_sign_78 rfl (lv_at hl 0 rfl) ?_
    cases hm
    exact k_end_i hx hb hr hlocks hK hP hD hS dX10_sign_79
  have J_54 : ∀ (t0 : Bool) (l3 : Int32) (c_spot : Int32) (c_isWrong : Bool) (H : Heap) (locs : List Loc), va_P D vwCl (wM cI cJ ad c_s c_before c_known c_kept c_isKept c_aside c_buffer c_length c_thrown c_laid c_spot c_isWrong c_isHalted c_mine c_theirs c_many c_from0 c_from1 c_dice c_hash) H → va_D A (wM cI cJ ad c_s c_before c_known c_kept c_isKept c_aside c_buffer c_length c_thrown c_laid c_spot c_isWrong c_isHalted c_mine c_theirs c_many c_from0 c_from1 c_dice c_hash) → va_S A z.heap H locs → ∀ ls : Array Slot, lv_has ls 4 [(0, .ref (ad 0)), (3, .int l3)] → mX10_sign_54 c_buffer c_length a1 a2 t0 l3 c_spot c_isWrong = some (r, c_spot', c_isWrong') → W p l e rmX10_sign z m ([.ref (ad 0), .int a1, .int a2] : List Value).toArray below meth c H locs 0 0 (k_Qi below ([.ref (ad 0), .int a1, .int a2] : List Value) D (kT cI cJ cC cG) z A (wM cI cJ ad c_s c_before c_known c_kept c_isKept c_aside c_buffer c_length c_thrown c_laid c_spot' c_isWrong' c_isHalted c_mine c_theirs c_many c_from0 c_from1 c_dice c_hash) r) (F0 m 54 ls [.int (k_b t0), .ref (ad 0)]) := by
    intro t0 l3 c_spot c_isWrong H locs hP hD hS ls hl hm
    unfold mX10_sign_54 at hm
    refine va_put (D := D) (ci := 6) (v := .int (k_b t0)) (ty := .boolean) (C := RX10) (T := TX10) (N := 20) hx hb hts hinX10 tyX10 tyX10_ok nmX10 hown hK hP hD hS 0 rfl rfl 11 (by decide) fl179 (fun _ h9 => h9) rfl (by decide +kernel) (k_nz _) (k_fz _) (Nat.le_of_ble_eq_true rfl) dX10_sign_54 (fun H locs hP hD hS => ?_)
    have hP : va_P D vwCl (wM cI cJ ad c_s c_before c_known c_kept c_isKept c_aside c_buffer c_length c_thrown c_laid c_spot t0 c_isHalted c_mine c_theirs c_many c_from0 c_from1 c_dice c_hash) H := hP
    have hD : va_D A (wM cI cJ ad c_s c_before c_known c_kept c_isKept c_aside c_buffer c_length c_thrown c_laid c_spot t0 c_isHalted c_mine c_theirs c_many c_from0 c_from1 c_dice c_hash) := hD
    refine lv_aload_n hx hb dX10_sign_57 rfl (lv_at hl 0 rfl) ?_
    refine lv_dup hx hb dX10_sign_58 rfl ?_
    refine va_get (D := D) (ci := 6) (v := .int c_spot) (C := RX10) (T := TX10) (N := 20) hx hb hts hinX10 hown hK hP 0 rfl rfl 10 (by decide) fl176 (fun _ h9 => h9) rfl dX10_sign_59 ?_
    refine lv_aload_n hx hb dX10_sign_62 rfl (lv_at hl 0 rfl) ?_
    refine va_get (D := D) (ci := 6) (v := .int (k_b t0)) (C := RX10) (T := TX10) (N := 20) hx hb hts hinX10 hown hK hP 0 rfl rfl 11 (by decide) fl179 (fun _ h9 => h9) rfl dX10_sign_63 ?_
    refine lv_if_eq (tgt := 73) hx hb dX10_sign_66 (by decide) (fun cc66 => ?_) (fun cc66 => ?_)
    · have hm := k_ip cc66 hm
      refine lv_iconst (v := 1) hx hb dX10_sign_73 (by decide) ?_
      exact J_74 true c_spot l3 c_spot t0 _ _ hP hD hS _ (lv_sub hl [1] rfl) hm
    · have hm := k_in cc66 hm
      refine lv_iconst (v := 0) hx hb dX10_sign_69 (by decide) ?_
      refine lv_goto (tgt := 74) hx hb dX10_sign_70 (by decide) ?_
      exact J_74 false c_spot l3 c_spot t0 _ _ hP hD hS _ (lv_sub hl [1] rfl) hm
  have J_31 : ∀ (t0 : Int32) (c_spot : Int32) (c_isWrong : Bool) (H : Heap) (locs : List Loc), va_P D vwCl (wM cI cJ ad c_s c_before c_known c_kept c_isKept c_aside c_buffer c_length c_thrown c_laid c_spot c_isWrong c_isHalted c_mine c_theirs c_many c_from0 c_from1 c_dice c_hash) H → va_D A (wM cI cJ ad c_s c_before c_known c_kept c_isKept c_aside c_buffer c_length c_thrown c_laid c_spot c_isWrong c_isHalted c_mine c_theirs c_many c_from0 c_from1 c_dice c_hash) → va_S A z.heap H locs → ∀ ls : Array Slot, lv_has ls 4 [(0, .ref (ad 0)), (1, .int a1), (2, .int a2)] → mX10_sign_31 c_buffer c_length a1 a2 t0 c_spot c_isWrong = some (r, c_spot', c_isWrong') → W p l e rmX10_sign z m ([.ref (ad 0), .int a1, .int a2] : List Value).toArray below meth c H locs 0 0 (k_Qi below ([.ref (ad 0), .int a1, .int a2] : List Value) D (kT cI cJ cC cG) z A (wM cI cJ ad c_s c_before c_known c_kept c_isKept c_aside c_buffer c_length c_thrown c_laid c_spot' c_isWrong' c_isHalted c_mine c_theirs c_many c_from0 c_from1 c_dice c_hash) r) (F0 m 31 ls [.int t0]) := by
    intro t0 c_spot c_isWrong H locs hP hD hS ls hl hm
    unfold mX10_sign_31 at hm
    refine lv_istore_n (lv' := [(3, .int t0), (0, .ref (ad 0)), (1, .int a1), (2, .int a2)]) hx hb dX10_sign_31 rfl hl (by decide) rfl (fun ls hl => ?_)
    refine lv_aload_n hx hb dX10_sign_32 rfl (lv_at hl 1 rfl) ?_
    refine lv_aload_n hx hb dX10_sign_33 rfl (lv_at hl 1 rfl) ?_
    refine va_get (D := D) (ci := 6) (v := .int (k_b c_isWrong)) (C := RX10) (T := TX10) (N := 20) hx hb hts hinX10 hown hK hP 0 rfl rfl 11 (by decide) fl179 (fun _ h9 => h9) rfl dX10_sign_34 ?_
    refine lv_if_ne (tgt := 49) hx hb dX10_sign_37 (by decide) (fun cc37 => ?_) (fun cc37 => ?_)
    · have hm := k_in cc37 hm
      refine lv_iconst (v := 1) hx hb dX10_sign_49 (by decide) ?_
      refine lv_goto (tgt := 54) hx hb dX10_sign_50 (by decide) ?_
      exact J_54 true t0 c_spot c_isWrong _ _ hP hD hS _ (lv_sub hl [1, 0] rfl) hm
    · have hm := k_ip cc37 hm
      refine lv_iload_n hx hb dX10_sign_40 rfl (lv_at hl 0 rfl) ?_
      refine lv_iload_n hx hb dX10_sign_41 rfl (lv_at hl 2 rfl) ?_
      refine lv_iload_n hx hb dX10_sign_42 rfl (lv_at hl 3 rfl) ?_
      obtain ⟨r1, hc43, hm⟩ := k_bds hm
      refine k_i_0 (k_rS (As := [.int t0, .int a1, .int a2]) (rest := [.ref (ad 0)]) ⟨hx, hb, hml, hown, hts⟩ hK hN k_P0 (k_D0 (A := A)) (zX10_in hc43) (va_cwS 3 hts gX10_sign_X10_in rfl rfl rfl (by decide +kernel) ⟨Nat.le_of_ble_eq_true rfl, Nat.le_of_ble_eq_true rfl⟩) rfl hl.1 rfl (Nat.le_of_ble_eq_true rfl) dX10_sign_43 ⟨Nat.zero_le _, Nat.zero_le _⟩) hP hS hA (fun H locs hP hS => ?_)
      refine lv_if_ne (tgt := 53) hx hb dX10_sign_46 (by decide) (fun cc46 => ?_) (fun cc46 => ?_)
      · have hm := k_in cc46 hm
        refine lv_iconst (v := 0) hx hb dX10_sign_53 (by decide) ?_
        exact J_54 false t0 c_spot c_isWrong _ _ hP hD hS _ (lv_sub hl [1, 0] rfl) hm
      · have hm := k_ip cc46 hm
        refine lv_iconst (v := 1) hx hb dX10_sign_49 (by decide) ?_
        refine lv_goto (tgt := 54) hx hb dX10_sign_50 (by decide) ?_
        exact J_54 true t0 c_spot c_isWrong _ _ hP hD hS _ (lv_sub hl [1, 0] rfl) hm
  have J_30 : ∀ (c_spot : Int32) (c_isWrong : Bool) (H : Heap) (locs : List Loc), va_P D vwCl (wM cI cJ ad c_s c_before c_known c_kept c_isKept c_aside c_buffer c_length c_thrown c_laid c_spot c_isWrong c_isHalted c_mine c_theirs c_many c_from0 c_from1 c_dice c_hash) H → va_D A (wM cI cJ ad c_s c_before c_known c_kept c_isKept c_aside c_buffer c_length c_thrown c_laid c_spot c_isWrong c_isHalted c_mine c_theirs c_many c_from0 c_from1 c_dice c_hash) → va_S A z.heap H locs → ∀ ls : Array Slot, lv_has ls 4 [(0, .ref (ad 0)), (1, .int a1), (2, .int a2)] → mX10_sign_30 c_buffer c_length a1 a2 c_spot c_isWrong = some (r, c_spot', c_isWrong') → W p l e rmX10_sign z m ([.ref (ad 0), .int a1, .int a2] : List Value).toArray below meth c H locs 0 0 (k_Qi below ([.ref (ad 0), .int a1, .int a2] : List Value) D (kT cI cJ cC cG) z A (wM cI cJ ad c_s c_before c_known c_kept c_isKept c_aside c_buffer c_length c_thrown c_laid c_spot' c_isWrong' c_isHalted c_mine c_theirs c_many c_from0 c_from1 c_dice c_hash) r) (F0 m 30 ls []) := by
    intro c_spot c_isWrong H locs hP hD hS ls hl hm
    unfold mX10_sign_30 at hm
    refine lv_iconst (v := 0) hx hb dX10_sign_30 (by decide) ?_
    exact J_31 0 c_spot c_isWrong _ _ hP hD hS _ (lv_sub hl [0, 1, 2] rfl) hm
  unfold mX10_sign at hm
  refine lv_aload_n hx hb dX10_sign_0 rfl (lv_at hl 0 rfl) ?_
  refine va_get (D := D) (ci := 6) (v := .int c_spot) (C := RX10) (T := TX10) (N := 20) hx hb hts hinX10 hown hK hP 0 rfl rfl 10 (by decide) fl176 (fun _ h9 => h9) rfl dX10_sign_1 ?_
  refine lv_aload_n hx hb dX10_sign_4 rfl (lv_at hl 0 rfl) ?_
  refine va_get (D := D) (ci := 6) (v := .int c_length) (C := RX10) (T := TX10) (N := 20) hx hb hts hinX10 hown hK hP 0 rfl rfl 7 (by decide) fl173 (fun _ h9 => h9) rfl dX10_sign_5 ?_
  refine lv_icmp_ge (tgt := 30) hx hb dX10_sign_8 (by decide) (fun cc8 => ?_) (fun cc8 => ?_)
  · have hm := k_ip cc8 hm
    exact J_30 c_spot c_isWrong _ _ hP hD hS _ (lv_sub hl [0, 1, 2] rfl) hm
  · have hm := k_in cc8 hm
    refine lv_aload_n hx hb dX10_sign_11 rfl (lv_at hl 0 rfl) ?_
    refine va_get (D := D) (ci := 6) (v := .int (k_b c_isWrong)) (C := RX10) (T := TX10) (N := 20) hx hb hts hinX10 hown hK hP 0 rfl rfl 11 (by decide) fl179 (fun _ h9 => h9) rfl dX10_sign_12 ?_
    refine lv_if_ne (tgt := 30) hx hb dX10_sign_15 (by decide) (fun cc15 => ?_) (fun cc15 => ?_)
    · have hm := k_in cc15 hm
      exact J_30 c_spot c_isWrong _ _ hP hD hS _ (lv_sub hl [0, 1, 2] rfl) hm
    · have hm := k_ip cc15 hm
      refine lv_aload_n hx hb dX10_sign_18 rfl (lv_at hl 0 rfl) ?_
      refine va_get (D := D) (ci := 6) (v := .ref (ad 5)) (C := RX10) (T := TX10) (N := 20) hx hb hts hinX10 hown hK hP 0 rfl rfl 6 (by decide) fl22 (fun _ h9 => h9) rfl dX10_sign_19 ?_
      refine lv_aload_n hx hb dX10_sign_22 rfl (lv_at hl 0 rfl) ?_
      refine va_get (D := D) (ci := 6) (v := .int c_spot) (C := RX10) (T := TX10) (N := 20) hx hb hts hinX10 hown hK hP 0 rfl rfl 10 (by decide) fl176 (fun _ h9 => h9) rfl dX10_sign_23 ?_
      obtain ⟨gi26, hm⟩ := k_gs hm
      refine va_iald hx hb hK hP 5 0 rfl rfl gi26 dX10_sign_26 ?_
      refine lv_goto (tgt := 31) hx hb dX10_sign_27 (by decide) ?_
      exact J_31 (c_buffer (Int32.toNatClampNeg c_spot)) c_spot c_isWrong _ _ hP hD hS _ (lv_sub hl [0, 1, 2] rfl) hm

abbrev rmX10_isPlayed : Room := { frames := 8, cells := 0, slots := 0, locals := 191 }
set_option maxHeartbeats 4000000 in
set_option maxRecDepth 100000 in
theorem zX10_isPlayed {l : Launch} {D : va_G} {cI cJ cC cG : ClassId} {sz : Nat} {ad : Nat → Nat} {c_s : Nat → Int32} {c_before : Nat → Int32} {c_known : Int32} {c_kept : Nat → Int32} {c_isKept : Bool} {c_aside : Nat → Int32} {c_buffer : Nat → Int32} {c_length : Int32} {c_thrown : Int32} {c_laid : Nat → Int32} {c_spot : Int32} {c_isWrong : Bool} {c_isHalted : Bool} {c_mine : Nat → Int64} {c_theirs : Nat → Int64} {c_many : Int32} {c_from0 : Nat → Int64} {c_from1 : Nat → Int64} {c_dice : Nat → Int32} {c_hash : Int64} {a1 : Int32} {a2 : Int32} {a3 : Int32} {r : Bool} {c_s' : Nat → Int32} {c_laid' : Nat → Int32} (hm : mX10_isPlayed c_s c_laid a1 a2 a3 = some (r, c_s', c_laid')) : k_Mi l yX10_isPlayed wsX10_isPlayed rmX10_isPlayed D (kT cI cJ cC cG) sz ([.ref (ad 0), .int a1, .int a2, .int a3] : List Value) (wM cI cJ ad c_s c_before c_known c_kept c_isKept c_aside c_buffer c_length c_thrown c_laid c_spot c_isWrong c_isHalted c_mine c_theirs c_many c_from0 c_from1 c_dice c_hash) (wM cI cJ ad c_s' c_before c_known c_kept c_isKept c_aside c_buffer c_length c_thrown c_laid' c_spot c_isWrong c_isHalted c_mine c_theirs c_many c_from0 c_from1 c_dice c_hash) (k_b r) := by
  refine k_st_i (cc := cX10_isPlayed) (maxL := 8) (by decide) rfl (Nat.le_of_ble_eq_true rfl) ?_
  intro p e z m below meth c A hx hb hr hml hts hown hlocks hsz hN hA hK hP hD hS ls hl
  have hown : z.vm.findClass RX10 = some m.cls := hown
  have hinX10 : ∀ w ∈ wsX100, w ∈ wsX10_isPlayed := by decide +kernel
  have fl7 := hts (.fieldLink RX10 7 "MagpieRunsModel" "s" "[I") (by decide +kernel)
  have hl : lv_has ls 8 [(0, .ref (ad 0)), (1, .int a1), (2, .int a2), (3, .int a3)] := hl
  have J_143 : ∀ (t0 : Bool) (l4 : Bool) (l5 : Bool) (c_s : Nat → Int32) (c_laid : Nat → Int32) (H : Heap) (locs : List Loc), va_P D vwCl (wM cI cJ ad c_s c_before c_known c_kept c_isKept c_aside c_buffer c_length c_thrown c_laid c_spot c_isWrong c_isHalted c_mine c_theirs c_many c_from0 c_from1 c_dice c_hash) H → va_D A (wM cI cJ ad c_s c_before c_known c_kept c_isKept c_aside c_buffer c_length c_thrown c_laid c_spot c_isWrong c_isHalted c_mine c_theirs c_many c_from0 c_from1 c_dice c_hash) → va_S A z.heap H locs → ∀ ls : Array Slot, lv_has ls 8 [(0, .ref (ad 0)), (1, .int a1), (2, .int a2), (3, .int a3), (4, .int (k_b l4)), (5, .int (k_b l5))] → mX10_isPlayed_143 a1 a2 a3 t0 l4 l5 c_s c_laid = some (r, c_s', c_laid') → W p l e rmX10_isPlayed z m ([.ref (ad 0), .int a1, .int a2, .int a3] : List Value).toArray below meth c H locs 0 0 (k_Qi below ([.ref (ad 0), .int a1, .int a2, .int a3] : List Value) D (kT cI cJ cC cG) z A (wM cI cJ ad c_s' c_before c_known c_kept c_isKept c_aside c_buffer c_length c_thrown c_laid' c_spot c_isWrong c_isHalted c_mine c_theirs c_many c_from0 c_from1 c_dice c_hash) (k_b r)) (F0 m 143 ls [.int (k_b t0)]) := by
    intro t0 l4 l5 c_s c_laid H locs hP hD hS ls hl hm
    unfold mX10_isPlayed_143 at hm
    refine lv_istore (lv' := [(6, .int (k_b t0)), (0, .ref (ad 0)), (1, .int a1), (2, .int a2), (3, .int a3), (4, .int (k_b l4)), (5, .int (k_b l5))]) hx hb dX10_isPlayed_143 hl (by decide) rfl (fun ls hl => ?_)
    refine lv_iload hx hb dX10_isPlayed_145 (lv_at hl 5 rfl) ?_
    refine lv_if_eq (tgt := 154) hx hb dX10_isPlayed_147 (by decide) (fun cc147 => ?_) (fun cc147 => ?_)
    · have hm := k_ip cc147 hm
      refine lv_iload_n hx hb dX10_isPlayed_154 rfl (lv_at hl 2 rfl) ?_
      refine lv_bipush (v := 114) hx hb dX10_isPlayed_155 (by decide) ?_
      refine lv_icmp_ne (tgt := 169) hx hb dX10_isPlayed_157 (by decide) (fun cc157 => ?_) (fun cc157 => ?_)
      · have hm := k_in cc157 hm
        refine lv_iload_n hx hb dX10_isPlayed_169 rfl (lv_at hl 2 rfl) ?_
        refine lv_bipush (v := 101) hx hb dX10_isPlayed_170 (by decide) ?_
        refine lv_icmp_ne (tgt := 182) hx hb dX10_isPlayed_172 (by decide) (fun cc172 => ?_) (fun cc172 => ?_)
        · have hm := k_in cc172 hm
          refine lv_iload_n hx hb dX10_isPlayed_182 rfl (lv_at hl 2 rfl) ?_
          refine lv_bipush (v := 120) hx hb dX10_isPlayed_183 (by decide) ?_
          refine lv_icmp_ne (tgt := 195) hx hb dX10_isPlayed_185 (by decide) (fun cc185 => ?_) (fun cc185 => ?_)
          · have hm := k_in cc185 hm
            refine lv_iload_n hx hb dX10_isPlayed_195 rfl (lv_at hl 2 rfl) ?_
            refine lv_bipush (v := 116) hx hb dX10_isPlayed_196 (by decide) ?_
            refine lv_icmp_ne (tgt := 208) hx hb dX10_isPlayed_198 (by decide) (fun cc198 => ?_) (fun cc198 => ?_)
            · have hm := k_in cc198 hm
              refine lv_iload_n hx hb dX10_isPlayed_208 rfl (lv_at hl 2 rfl) ?_
              refine lv_bipush (v := 100) hx hb dX10_isPlayed_209 (by decide) ?_
              refine lv_icmp_ne (tgt := 221) hx hb dX10_isPlayed_211 (by decide) (fun cc211 => ?_) (fun cc211 => ?_)
              · have hm := k_in cc211 hm
                refine lv_aload_n hx hb dX10_isPlayed_221 rfl (lv_at hl 1 rfl) ?_
                obtain ⟨r1, w2, hc222, hm⟩ := k_bd2s hm
                refine k_i_s (k_rV (As := []) (rest := []) ⟨hx, hb, hml, hown, hts⟩ hK hN hP hD (zX10_anew hc222) (cwV 0 hts gX10_isPlayed_X10_anew rfl rfl rfl (by decide +kernel) ⟨Nat.le_of_ble_eq_true rfl, Nat.le_of_ble_eq_true rfl⟩) rfl rfl rfl hl.1 rfl (Nat.le_of_ble_eq_true rfl) dX10_isPlayed_222 ⟨Nat.zero_le _, Nat.zero_le _⟩) hD hS hA (fun H locs hP hD hS => ?_)
                refine lv_istore (lv' := [(7, .int r1), (6, .int (k_b t0)), (0, .ref (ad 0)), (1, .int a1), (2, .int a2), (3, .int a3), (4, .int (k_b l4)), (5, .int (k_b l5))]) hx hb dX10_isPlayed_225 hl (by decide) rfl (fun ls hl => ?_)
                refine lv_iload hx hb dX10_isPlayed_227 (lv_at hl 7 rfl) ?_
                cases hm
                exact k_end_z _ hx hb hr hlocks hK hP hD hS dX10_isPlayed_229
              · have hm := k_ip cc211 hm
                refine lv_aload_n hx hb dX10_isPlayed_214 rfl (lv_at hl 1 rfl) ?_
                obtain ⟨r3, w4, hc215, hm⟩ := k_bd2s hm
                refine k_i_s (k_rV (As := []) (rest := []) ⟨hx, hb, hml, hown, hts⟩ hK hN hP hD (zX10_drops hc215) (cwV 0 hts gX10_isPlayed_X10_drops rfl rfl rfl (by decide +kernel) ⟨Nat.le_of_ble_eq_true rfl, Nat.le_of_ble_eq_true rfl⟩) rfl rfl rfl hl.1 rfl (Nat.le_of_ble_eq_true rfl) dX10_isPlayed_215 ⟨Nat.zero_le _, Nat.zero_le _⟩) hD hS hA (fun H locs hP hD hS => ?_)
                refine lv_goto (tgt := 225) hx hb dX10_isPlayed_218 (by decide) ?_
                refine lv_istore (lv' := [(7, .int r3), (6, .int (k_b t0)), (0, .ref (ad 0)), (1, .int a1), (2, .int a2), (3, .int a3), (4, .int (k_b l4)), (5, .int (k_b l5))]) hx hb dX10_isPlayed_225 hl (by decide) rfl (fun ls hl => ?_)
                refine lv_iload hx hb dX10_isPlayed_227 (lv_at hl 7 rfl) ?_
                cases hm
                exact k_end_z _ hx hb hr hlocks hK hP hD hS dX10_isPlayed_229
            · have hm := k_ip cc198 hm
              refine lv_aload_n hx hb dX10_isPlayed_201 rfl (lv_at hl 1 rfl) ?_
              obtain ⟨r5, w6, hc202, hm⟩ := k_bd2s hm
              refine k_i_s (k_rV (As := []) (rest := []) ⟨hx, hb, hml, hown, hts⟩ hK hN hP hD (zX10_doubles hc202) (cwV 0 hts gX10_isPlayed_X10_doubles rfl rfl rfl (by decide +kernel) ⟨Nat.le_of_ble_eq_true rfl, Nat.le_of_ble_eq_true rfl⟩) rfl rfl rfl hl.1 rfl (Nat.le_of_ble_eq_true rfl) dX10_isPlayed_202 ⟨Nat.zero_le _, Nat.zero_le _⟩) hD hS hA (fun H locs hP hD hS => ?_)
              refine lv_goto (tgt := 225) hx hb dX10_isPlayed_205 (by decide) ?_
              refine lv_istore (lv' := [(7, .int r5), (6, .int (k_b t0)), (0, .ref (ad 0)), (1, .int a1), (2, .int a2), (3, .int a3), (4, .int (k_b l4)), (5, .int (k_b l5))]) hx hb dX10_isPlayed_225 hl (by decide) rfl (fun ls hl => ?_)
              refine lv_iload hx hb dX10_isPlayed_227 (lv_at hl 7 rfl) ?_
              cases hm
              exact k_end_z _ hx hb hr hlocks hK hP hD hS dX10_isPlayed_229
          · have hm := k_ip cc185 hm
            refine lv_aload_n hx hb dX10_isPlayed_188 rfl (lv_at hl 1 rfl) ?_
            obtain ⟨r7, w8, hc189, hm⟩ := k_bd2s hm
            refine k_i_s (k_rV (As := []) (rest := []) ⟨hx, hb, hml, hown, hts⟩ hK hN hP hD (zX10_offers hc189) (cwV 0 hts gX10_isPlayed_X10_offers rfl rfl rfl (by decide +kernel) ⟨Nat.le_of_ble_eq_true rfl, Nat.le_of_ble_eq_true rfl⟩) rfl rfl rfl hl.1 rfl (Nat.le_of_ble_eq_true rfl) dX10_isPlayed_189 ⟨Nat.zero_le _, Nat.zero_le _⟩) hD hS hA (fun H locs hP hD hS => ?_)
            refine lv_goto (tgt := 225) hx hb dX10_isPlayed_192 (by decide) ?_
            refine lv_istore (lv' := [(7, .int r7), (6, .int (k_b t0)), (0, .ref (ad 0)), (1, .int a1), (2, .int a2), (3, .int a3), (4, .int (k_b l4)), (5, .int (k_b l5))]) hx hb dX10_isPlayed_225 hl (by decide) rfl (fun ls hl => ?_)
            refine lv_iload hx hb dX10_isPlayed_227 (lv_at hl 7 rfl) ?_
            cases hm
            exact k_end_z _ hx hb hr hlocks hK hP hD hS dX10_isPlayed_229
        · have hm := k_ip cc172 hm
          refine lv_aload_n hx hb dX10_isPlayed_175 rfl (lv_at hl 1 rfl) ?_
          obtain ⟨r9, w10, hc176, hm⟩ := k_bd2s hm
          refine k_i_s (k_rV (As := []) (rest := []) ⟨hx, hb, hml, hown, hts⟩ hK hN hP hD (zX10_ends hc176) (cwV 0 hts gX10_isPlayed_X10_ends rfl rfl rfl (by decide +kernel) ⟨Nat.le_of_ble_eq_true rfl, Nat.le_of_ble_eq_true rfl⟩) rfl rfl rfl hl.1 rfl (Nat.le_of_ble_eq_true rfl) dX10_isPlayed_176 ⟨Nat.zero_le _, Nat.zero_le _⟩) hD hS hA (fun H locs hP hD hS => ?_)
          refine lv_goto (tgt := 225) hx hb dX10_isPlayed_179 (by decide) ?_
          refine lv_istore (lv' := [(7, .int r9), (6, .int (k_b t0)), (0, .ref (ad 0)), (1, .int a1), (2, .int a2), (3, .int a3), (4, .int (k_b l4)), (5, .int (k_b l5))]) hx hb dX10_isPlayed_225 hl (by decide) rfl (fun ls hl => ?_)
          refine lv_iload hx hb dX10_isPlayed_227 (lv_at hl 7 rfl) ?_
          cases hm
          exact k_end_z _ hx hb hr hlocks hK hP hD hS dX10_isPlayed_229
      · have hm := k_ip cc157 hm
        refine lv_aload_n hx hb dX10_isPlayed_160 rfl (lv_at hl 1 rfl) ?_
        refine lv_iload_n hx hb dX10_isPlayed_161 rfl (lv_at hl 3 rfl) ?_
        refine lv_iload_n hx hb dX10_isPlayed_162 rfl (lv_at hl 4 rfl) ?_
        obtain ⟨r11, w12, hc163, hm⟩ := k_bd2s hm
        refine k_i_s (k_rV (As := [.int a2, .int a3]) (rest := []) ⟨hx, hb, hml, hown, hts⟩ hK hN hP hD (zX10_rolls hc163) (cwV 2 hts gX10_isPlayed_X10_rolls rfl rfl rfl (by decide +kernel) ⟨Nat.le_of_ble_eq_true rfl, Nat.le_of_ble_eq_true rfl⟩) rfl rfl rfl hl.1 rfl (Nat.le_of_ble_eq_true rfl) dX10_isPlayed_163 ⟨Nat.zero_le _, Nat.zero_le _⟩) hD hS hA (fun H locs hP hD hS => ?_)
        refine lv_goto (tgt := 225) hx hb dX10_isPlayed_166 (by decide) ?_
        refine lv_istore (lv' := [(7, .int r11), (6, .int (k_b t0)), (0, .ref (ad 0)), (1, .int a1), (2, .int a2), (3, .int a3), (4, .int (k_b l4)), (5, .int (k_b l5))]) hx hb dX10_isPlayed_225 hl (by decide) rfl (fun ls hl => ?_)
        refine lv_iload hx hb dX10_isPlayed_227 (lv_at hl 7 rfl) ?_
        cases hm
        exact k_end_z _ hx hb hr hlocks hK hP hD hS dX10_isPlayed_229
    · have hm := k_in cc147 hm
      refine lv_iconst (v := 0) hx hb dX10_isPlayed_150 (by decide) ?_
      refine lv_goto (tgt := 225) hx hb dX10_isPlayed_151 (by decide) ?_
      refine lv_istore (lv' := [(7, .int 0), (6, .int (k_b t0)), (0, .ref (ad 0)), (1, .int a1), (2, .int a2), (3, .int a3), (4, .int (k_b l4)), (5, .int (k_b l5))]) hx hb dX10_isPlayed_225 hl (by decide) rfl (fun ls hl => ?_)
      refine lv_iload hx hb dX10_isPlayed_227 (lv_at hl 7 rfl) ?_
      cases hm
      exact k_end_z _ hx hb hr hlocks hK hP hD hS dX10_isPlayed_229
  have J_142 : ∀ (l4 : Bool) (l5 : Bool) (c_s : Nat → Int32) (c_laid : Nat → Int32) (H : Heap) (locs : List Loc), va_P D vwCl (wM cI cJ ad c_s c_before c_known c_kept c_isKept c_aside c_buffer c_length c_thrown c_laid c_spot c_isWrong c_isHalted c_mine c_theirs c_many c_from0 c_from1 c_dice c_hash) H → va_D A (wM cI cJ ad c_s c_before c_known c_kept c_isKept c_aside c_buffer c_length c_thrown c_laid c_spot c_isWrong c_isHalted c_mine c_theirs c_many c_from0 c_from1 c_dice c_hash) → va_S A z.heap H locs → ∀ ls : Array Slot, lv_has ls 8 [(0, .ref (ad 0)), (1, .int a1), (2, .int a2), (3, .int a3), (4, .int (k_b l4)), (5, .int (k_b l5))] → mX10_isPlayed_142 a1 a2 a3 l4 l5 c_s c_laid = some (r, c_s', c_laid') → W p l e rmX10_isPlayed z m ([.ref (ad 0), .int a1, .int a2, .int a3] : List Value).toArray below meth c H locs 0 0 (k_Qi below ([.ref (ad 0), .int a1, .int a2, .int a3] : List Value) D (kT cI cJ cC cG) z A (wM cI cJ ad c_s' c_before c_known c_kept c_isKept c_aside c_buffer c_length c_thrown c_laid' c_spot c_isWrong c_isHalted c_mine c_theirs c_many c_from0 c_from1 c_dice c_hash) (k_b r)) (F0 m 142 ls []) := by
    intro l4 l5 c_s c_laid H locs hP hD hS ls hl hm
    unfold mX10_isPlayed_142 at hm
    refine lv_iconst (v := 0) hx hb dX10_isPlayed_142 (by decide) ?_
    exact J_143 false l4 l5 c_s c_laid _ _ hP hD hS _ (lv_sub hl [0, 1, 2, 3, 4, 5] rfl) hm
  have J_117 : ∀ (t0 : Bool) (l4 : Bool) (c_s : Nat → Int32) (c_laid : Nat → Int32) (H : Heap) (locs : List Loc), va_P D vwCl (wM cI cJ ad c_s c_before c_known c_kept c_isKept c_aside c_buffer c_length c_thrown c_laid c_spot c_isWrong c_isHalted c_mine c_theirs c_many c_from0 c_from1 c_dice c_hash) H → va_D A (wM cI cJ ad c_s c_before c_known c_kept c_isKept c_aside c_buffer c_length c_thrown c_laid c_spot c_isWrong c_isHalted c_mine c_theirs c_many c_from0 c_from1 c_dice c_hash) → va_S A z.heap H locs → ∀ ls : Array Slot, lv_has ls 8 [(0, .ref (ad 0)), (1, .int a1), (2, .int a2), (3, .int a3), (4, .int (k_b l4))] → mX10_isPlayed_117 a1 a2 a3 t0 l4 c_s c_laid = some (r, c_s', c_laid') → W p l e rmX10_isPlayed z m ([.ref (ad 0), .int a1, .int a2, .int a3] : List Value).toArray below meth c H locs 0 0 (k_Qi below ([.ref (ad 0), .int a1, .int a2, .int a3] : List Value) D (kT cI cJ cC cG) z A (wM cI cJ ad c_s' c_before c_known c_kept c_isKept c_aside c_buffer c_length c_thrown c_laid' c_spot c_isWrong c_isHalted c_mine c_theirs c_many c_from0 c_from1 c_dice c_hash) (k_b r)) (F0 m 117 ls [.int (k_b t0)]) := by
    intro t0 l4 c_s c_laid H locs hP hD hS ls hl hm
    unfold mX10_isPlayed_117 at hm
    refine lv_istore (lv' := [(5, .int (k_b t0)), (0, .ref (ad 0)), (1, .int a1), (2, .int a2), (3, .int a3), (4, .int (k_b l4))]) hx hb dX10_isPlayed_117 hl (by decide) rfl (fun ls hl => ?_)
    refine lv_iload hx hb dX10_isPlayed_119 (lv_at hl 0 rfl) ?_
    refine lv_if_eq (tgt := 227) hx hb dX10_isPlayed_121 (by decide) (fun cc121 => ?_) (fun cc121 => ?_)
    · have hm := k_ip cc121 hm
      refine lv_iload hx hb dX10_isPlayed_227 (lv_at hl 0 rfl) ?_
      cases hm
      exact k_end_z _ hx hb hr hlocks hK hP hD hS dX10_isPlayed_229
    · have hm := k_in cc121 hm
      refine lv_iload hx hb dX10_isPlayed_124 (lv_at hl 5 rfl) ?_
      refine lv_if_eq (tgt := 142) hx hb dX10_isPlayed_126 (by decide) (fun cc126 => ?_) (fun cc126 => ?_)
      · have hm := k_ip cc126 hm
        exact J_142 l4 t0 c_s c_laid _ _ hP hD hS _ (lv_sub hl [1, 2, 3, 4, 5, 0] rfl) hm
      · have hm := k_in cc126 hm
        refine lv_aload_n hx hb dX10_isPlayed_129 rfl (lv_at hl 1 rfl) ?_
        refine lv_iload_n hx hb dX10_isPlayed_130 rfl (lv_at hl 3 rfl) ?_
        refine lv_iload_n hx hb dX10_isPlayed_131 rfl (lv_at hl 4 rfl) ?_
        obtain ⟨r13, w14, hc132, hm⟩ := k_bd2s hm
        refine k_i_s (k_rV (As := [.int a2, .int a3]) (rest := []) ⟨hx, hb, hml, hown, hts⟩ hK hN hP hD (zX10_steps hc132) (cwV 2 hts gX10_isPlayed_X10_steps rfl rfl rfl (by decide +kernel) ⟨Nat.le_of_ble_eq_true rfl, Nat.le_of_ble_eq_true rfl⟩) rfl rfl rfl hl.1 rfl (Nat.le_of_ble_eq_true rfl) dX10_isPlayed_132 ⟨Nat.zero_le _, Nat.zero_le _⟩) hD hS hA (fun H locs hP hD hS => ?_)
        refine lv_if_eq (tgt := 142) hx hb dX10_isPlayed_135 (by decide) (fun cc135 => ?_) (fun cc135 => ?_)
        · have hm := k_ip cc135 hm
          exact J_142 l4 t0 w14 c_laid _ _ hP hD hS _ (lv_sub hl [1, 2, 3, 4, 5, 0] rfl) hm
        · have hm := k_in cc135 hm
          refine lv_iconst (v := 1) hx hb dX10_isPlayed_138 (by decide) ?_
          refine lv_goto (tgt := 143) hx hb dX10_isPlayed_139 (by decide) ?_
          exact J_143 true l4 t0 w14 c_laid _ _ hP hD hS _ (lv_sub hl [1, 2, 3, 4, 5, 0] rfl) hm
  have J_109 : ∀ (t0 : Int32) (t1 : Int32) (l4 : Bool) (c_s : Nat → Int32) (c_laid : Nat → Int32) (H : Heap) (locs : List Loc), va_P D vwCl (wM cI cJ ad c_s c_before c_known c_kept c_isKept c_aside c_buffer c_length c_thrown c_laid c_spot c_isWrong c_isHalted c_mine c_theirs c_many c_from0 c_from1 c_dice c_hash) H → va_D A (wM cI cJ ad c_s c_before c_known c_kept c_isKept c_aside c_buffer c_length c_thrown c_laid c_spot c_isWrong c_isHalted c_mine c_theirs c_many c_from0 c_from1 c_dice c_hash) → va_S A z.heap H locs → ∀ ls : Array Slot, lv_has ls 8 [(0, .ref (ad 0)), (1, .int a1), (2, .int a2), (3, .int a3), (4, .int (k_b l4))] → mX10_isPlayed_109 a1 a2 a3 t0 t1 l4 c_s c_laid = some (r, c_s', c_laid') → W p l e rmX10_isPlayed z m ([.ref (ad 0), .int a1, .int a2, .int a3] : List Value).toArray below meth c H locs 0 0 (k_Qi below ([.ref (ad 0), .int a1, .int a2, .int a3] : List Value) D (kT cI cJ cC cG) z A (wM cI cJ ad c_s' c_before c_known c_kept c_isKept c_aside c_buffer c_length c_thrown c_laid' c_spot c_isWrong c_isHalted c_mine c_theirs c_many c_from0 c_from1 c_dice c_hash) (k_b r)) (F0 m 109 ls [.int t0, .int t1]) := by
    intro t0 t1 l4 c_s c_laid H locs hP hD hS ls hl hm
    unfold mX10_isPlayed_109 at hm
    refine lv_icmp_ne (tgt := 116) hx hb dX10_isPlayed_109 (by decide) (fun cc109 => ?_) (fun cc109 => ?_)
    · have hm := k_in cc109 hm
      refine lv_iconst (v := 0) hx hb dX10_isPlayed_116 (by decide) ?_
      exact J_117 false l4 c_s c_laid _ _ hP hD hS _ (lv_sub hl [0, 1, 2, 3, 4] rfl) hm
    · have hm := k_ip cc109 hm
      refine lv_iconst (v := 1) hx hb dX10_isPlayed_112 (by decide) ?_
      refine lv_goto (tgt := 117) hx hb dX10_isPlayed_113 (by decide) ?_
      exact J_117 true l4 c_s c_laid _ _ hP hD hS _ (lv_sub hl [0, 1, 2, 3, 4] rfl) hm
  have J_17 : ∀ (t0 : Bool) (c_s : Nat → Int32) (c_laid : Nat → Int32) (H : Heap) (locs : List Loc), va_P D vwCl (wM cI cJ ad c_s c_before c_known c_kept c_isKept c_aside c_buffer c_length c_thrown c_laid c_spot c_isWrong c_isHalted c_mine c_theirs c_many c_from0 c_from1 c_dice c_hash) H → va_D A (wM cI cJ ad c_s c_before c_known c_kept c_isKept c_aside c_buffer c_length c_thrown c_laid c_spot c_isWrong c_isHalted c_mine c_theirs c_many c_from0 c_from1 c_dice c_hash) → va_S A z.heap H locs → ∀ ls : Array Slot, lv_has ls 8 [(0, .ref (ad 0)), (1, .int a1), (2, .int a2), (3, .int a3)] → mX10_isPlayed_17 a1 a2 a3 t0 c_s c_laid = some (r, c_s', c_laid') → W p l e rmX10_isPlayed z m ([.ref (ad 0), .int a1, .int a2, .int a3] : List Value).toArray below meth c H locs 0 0 (k_Qi below ([.ref (ad 0), .int a1, .int a2, .int a3] : List Value) D (kT cI cJ cC cG) z A (wM cI cJ ad c_s' c_before c_known c_kept c_isKept c_aside c_buffer c_length c_thrown c_laid' c_spot c_isWrong c_isHalted c_mine c_theirs c_many c_from0 c_from1 c_dice c_hash) (k_b r)) (F0 m 17 ls [.int (k_b t0)]) := by
    intro t0 c_s c_laid H locs hP hD hS ls hl hm
    unfold mX10_isPlayed_17 at hm
    refine lv_istore (lv' := [(4, .int (k_b t0)), (0, .ref (ad 0)), (1, .int a1), (2, .int a2), (3, .int a3)]) hx hb dX10_isPlayed_17 hl (by decide) rfl (fun ls hl => ?_)
    refine lv_iload_n hx hb dX10_isPlayed_19 rfl (lv_at hl 2 rfl) ?_
    refine lv_bipush (v := 114) hx hb dX10_isPlayed_20 (by decide) ?_
    refine lv_icmp_ne (tgt := 43) hx hb dX10_isPlayed_22 (by decide) (fun cc22 => ?_) (fun cc22 => ?_)
    · have hm := k_in cc22 hm
      refine lv_iload hx hb dX10_isPlayed_43 (lv_at hl 0 rfl) ?_
      refine lv_if_eq (tgt := 65) hx hb dX10_isPlayed_45 (by decide) (fun cc45 => ?_) (fun cc45 => ?_)
      · have hm := k_ip cc45 hm
        refine lv_iload_n hx hb dX10_isPlayed_65 rfl (lv_at hl 2 rfl) ?_
        refine lv_bipush (v := 101) hx hb dX10_isPlayed_66 (by decide) ?_
        refine lv_icmp_ne (tgt := 78) hx hb dX10_isPlayed_68 (by decide) (fun cc68 => ?_) (fun cc68 => ?_)
        · have hm := k_in cc68 hm
          refine lv_iload_n hx hb dX10_isPlayed_78 rfl (lv_at hl 2 rfl) ?_
          refine lv_bipush (v := 120) hx hb dX10_isPlayed_79 (by decide) ?_
          refine lv_icmp_ne (tgt := 91) hx hb dX10_isPlayed_81 (by decide) (fun cc81 => ?_) (fun cc81 => ?_)
          · have hm := k_in cc81 hm
            refine lv_aload_n hx hb dX10_isPlayed_91 rfl (lv_at hl 1 rfl) ?_
            refine va_get (D := D) (ci := 6) (v := .ref (ad 1)) (C := RX10) (T := TX10) (N := 20) hx hb hts hinX10 hown hK hP 0 rfl rfl 0 (by decide) fl7 (fun _ h9 => h9) rfl dX10_isPlayed_92 ?_
            refine lv_bipush (v := 37) hx hb dX10_isPlayed_95 (by decide) ?_
            refine k_iaC hx hb hK hP 1 0 rfl rfl kl_37 ki_37_51 dX10_isPlayed_97 ?_
            refine lv_iload_n hx hb dX10_isPlayed_98 rfl (lv_at hl 2 rfl) ?_
            refine lv_bipush (v := 110) hx hb dX10_isPlayed_99 (by decide) ?_
            refine lv_icmp_ne (tgt := 108) hx hb dX10_isPlayed_101 (by decide) (fun cc101 => ?_) (fun cc101 => ?_)
            · have hm := k_in cc101 hm
              refine lv_iconst (v := 2) hx hb dX10_isPlayed_108 (by decide) ?_
              exact J_109 2 (c_s 37) t0 c_s c_laid _ _ hP hD hS _ (lv_sub hl [1, 2, 3, 4, 0] rfl) hm
            · have hm := k_ip cc101 hm
              refine lv_iconst (v := 3) hx hb dX10_isPlayed_104 (by decide) ?_
              refine lv_goto (tgt := 109) hx hb dX10_isPlayed_105 (by decide) ?_
              exact J_109 3 (c_s 37) t0 c_s c_laid _ _ hP hD hS _ (lv_sub hl [1, 2, 3, 4, 0] rfl) hm
          · have hm := k_ip cc81 hm
            refine lv_aload_n hx hb dX10_isPlayed_84 rfl (lv_at hl 1 rfl) ?_
            obtain ⟨r15, hc85, hm⟩ := k_bds hm
            refine k_i_s (k_rV (As := []) (rest := []) ⟨hx, hb, hml, hown, hts⟩ hK hN hP hD (zX10_canOffer hc85) (cwV 0 hts gX10_isPlayed_X10_canOffer rfl rfl rfl (by decide +kernel) ⟨Nat.le_of_ble_eq_true rfl, Nat.le_of_ble_eq_true rfl⟩) rfl rfl rfl hl.1 rfl (Nat.le_of_ble_eq_true rfl) dX10_isPlayed_85 ⟨Nat.zero_le _, Nat.zero_le _⟩) hD hS hA (fun H locs hP hD hS => ?_)
            refine lv_goto (tgt := 117) hx hb dX10_isPlayed_88 (by decide) ?_
            exact J_117 r15 t0 c_s c_laid _ _ hP hD hS _ (lv_sub hl [1, 2, 3, 4, 0] rfl) hm
        · have hm := k_ip cc68 hm
          refine lv_aload_n hx hb dX10_isPlayed_71 rfl (lv_at hl 1 rfl) ?_
          obtain ⟨r16, w17, w18, hc72, hm⟩ := k_bd3s hm
          refine k_i_s (k_rV (As := []) (rest := []) ⟨hx, hb, hml, hown, hts⟩ hK hN hP hD (zX10_canEnd hc72) (cwV 0 hts gX10_isPlayed_X10_canEnd rfl rfl rfl (by decide +kernel) ⟨Nat.le_of_ble_eq_true rfl, Nat.le_of_ble_eq_true rfl⟩) rfl rfl rfl hl.1 rfl (Nat.le_of_ble_eq_true rfl) dX10_isPlayed_72 ⟨Nat.zero_le _, Nat.zero_le _⟩) hD hS hA (fun H locs hP hD hS => ?_)
          refine lv_goto (tgt := 117) hx hb dX10_isPlayed_75 (by decide) ?_
          exact J_117 r16 t0 w17 w18 _ _ hP hD hS _ (lv_sub hl [1, 2, 3, 4, 0] rfl) hm
      · have hm := k_in cc45 hm
        refine lv_aload_n hx hb dX10_isPlayed_48 rfl (lv_at hl 1 rfl) ?_
        refine lv_iload_n hx hb dX10_isPlayed_49 rfl (lv_at hl 3 rfl) ?_
        refine lv_iload_n hx hb dX10_isPlayed_50 rfl (lv_at hl 4 rfl) ?_
        obtain ⟨r19, w20, w21, hc51, hm⟩ := k_bd3s hm
        refine k_i_s (k_rV (As := [.int a2, .int a3]) (rest := []) ⟨hx, hb, hml, hown, hts⟩ hK hN hP hD (zX10_why hc51) (cwV 2 hts gX10_isPlayed_X10_why rfl rfl rfl (by decide +kernel) ⟨Nat.le_of_ble_eq_true rfl, Nat.le_of_ble_eq_true rfl⟩) rfl rfl rfl hl.1 rfl (Nat.le_of_ble_eq_true rfl) dX10_isPlayed_51 ⟨Nat.zero_le _, Nat.zero_le _⟩) hD hS hA (fun H locs hP hD hS => ?_)
        refine lv_if_ne (tgt := 61) hx hb dX10_isPlayed_54 (by decide) (fun cc54 => ?_) (fun cc54 => ?_)
        · have hm := k_in cc54 hm
          refine lv_iconst (v := 0) hx hb dX10_isPlayed_61 (by decide) ?_
          refine lv_goto (tgt := 117) hx hb dX10_isPlayed_62 (by decide) ?_
          exact J_117 false t0 w20 w21 _ _ hP hD hS _ (lv_sub hl [1, 2, 3, 4, 0] rfl) hm
        · have hm := k_ip cc54 hm
          refine lv_iconst (v := 1) hx hb dX10_isPlayed_57 (by decide) ?_
          refine lv_goto (tgt := 117) hx hb dX10_isPlayed_58 (by decide) ?_
          exact J_117 true t0 w20 w21 _ _ hP hD hS _ (lv_sub hl [1, 2, 3, 4, 0] rfl) hm
    · have hm := k_ip cc22 hm
      refine lv_aload_n hx hb dX10_isPlayed_25 rfl (lv_at hl 1 rfl) ?_
      refine va_get (D := D) (ci := 6) (v := .ref (ad 1)) (C := RX10) (T := TX10) (N := 20) hx hb hts hinX10 hown hK hP 0 rfl rfl 0 (by decide) fl7 (fun _ h9 => h9) rfl dX10_isPlayed_26 ?_
      refine lv_bipush (v := 37) hx hb dX10_isPlayed_29 (by decide) ?_
      refine k_iaC hx hb hK hP 1 0 rfl rfl kl_37 ki_37_51 dX10_isPlayed_31 ?_
      refine lv_if_ne (tgt := 39) hx hb dX10_isPlayed_32 (by decide) (fun cc32 => ?_) (fun cc32 => ?_)
      · have hm := k_in cc32 hm
        refine lv_iconst (v := 0) hx hb dX10_isPlayed_39 (by decide) ?_
        refine lv_goto (tgt := 117) hx hb dX10_isPlayed_40 (by decide) ?_
        exact J_117 false t0 c_s c_laid _ _ hP hD hS _ (lv_sub hl [1, 2, 3, 4, 0] rfl) hm
      · have hm := k_ip cc32 hm
        refine lv_iconst (v := 1) hx hb dX10_isPlayed_35 (by decide) ?_
        refine lv_goto (tgt := 117) hx hb dX10_isPlayed_36 (by decide) ?_
        exact J_117 true t0 c_s c_laid _ _ hP hD hS _ (lv_sub hl [1, 2, 3, 4, 0] rfl) hm
  unfold mX10_isPlayed at hm
  refine lv_iload_n hx hb dX10_isPlayed_0 rfl (lv_at hl 1 rfl) ?_
  refine lv_bipush (v := 109) hx hb dX10_isPlayed_1 (by decide) ?_
  refine lv_icmp_eq (tgt := 12) hx hb dX10_isPlayed_3 (by decide) (fun cc3 => ?_) (fun cc3 => ?_)
  · have hm := k_ip cc3 hm
    refine lv_iconst (v := 1) hx hb dX10_isPlayed_12 (by decide) ?_
    refine lv_goto (tgt := 17) hx hb dX10_isPlayed_13 (by decide) ?_
    exact J_17 true c_s c_laid _ _ hP hD hS _ (lv_sub hl [0, 1, 2, 3] rfl) hm
  · have hm := k_in cc3 hm
    refine lv_iload_n hx hb dX10_isPlayed_6 rfl (lv_at hl 1 rfl) ?_
    refine lv_bipush (v := 98) hx hb dX10_isPlayed_7 (by decide) ?_
    refine lv_icmp_ne (tgt := 16) hx hb dX10_isPlayed_9 (by decide) (fun cc9 => ?_) (fun cc9 => ?_)
    · have hm := k_in cc9 hm
      refine lv_iconst (v := 0) hx hb dX10_isPlayed_16 (by decide) ?_
      exact J_17 false c_s c_laid _ _ hP hD hS _ (lv_sub hl [0, 1, 2, 3] rfl) hm
    · have hm := k_ip cc9 hm
      refine lv_iconst (v := 1) hx hb dX10_isPlayed_12 (by decide) ?_
      refine lv_goto (tgt := 17) hx hb dX10_isPlayed_13 (by decide) ?_
      exact J_17 true c_s c_laid _ _ hP hD hS _ (lv_sub hl [0, 1, 2, 3] rfl) hm

abbrev rmX10_part : Room := { frames := 9, cells := 0, slots := 0, locals := 218 }
set_option maxHeartbeats 4000000 in
set_option maxRecDepth 100000 in
theorem zX10_part {l : Launch} {D : va_G} {cI cJ cC cG : ClassId} {sz : Nat} {ad : Nat → Nat} {c_s : Nat → Int32} {c_before : Nat → Int32} {c_known : Int32} {c_kept : Nat → Int32} {c_isKept : Bool} {c_aside : Nat → Int32} {c_buffer : Nat → Int32} {c_length : Int32} {c_thrown : Int32} {c_laid : Nat → Int32} {c_spot : Int32} {c_isWrong : Bool} {c_isHalted : Bool} {c_mine : Nat → Int64} {c_theirs : Nat → Int64} {c_many : Int32} {c_from0 : Nat → Int64} {c_from1 : Nat → Int64} {c_dice : Nat → Int32} {c_hash : Int64} {a1 : Bool} {r : Bool} {c_s' : Nat → Int32} {c_laid' : Nat → Int32} {c_spot' : Int32} {c_isWrong' : Bool} (hm : mX10_part c_s c_buffer c_length c_laid c_spot c_isWrong a1 = some (r, c_s', c_laid', c_spot', c_isWrong')) : k_Mi l yX10_part wsX10_part rmX10_part D (kT cI cJ cC cG) sz ([.ref (ad 0), .int (k_b a1)] : List Value) (wM cI cJ ad c_s c_before c_known c_kept c_isKept c_aside c_buffer c_length c_thrown c_laid c_spot c_isWrong c_isHalted c_mine c_theirs c_many c_from0 c_from1 c_dice c_hash) (wM cI cJ ad c_s' c_before c_known c_kept c_isKept c_aside c_buffer c_length c_thrown c_laid' c_spot' c_isWrong' c_isHalted c_mine c_theirs c_many c_from0 c_from1 c_dice c_hash) (k_b r) := by
  refine k_st_i (cc := cX10_part) (maxL := 7) (by decide) rfl (Nat.le_of_ble_eq_true rfl) ?_
  intro p e z m below meth c A hx hb hr hml hts hown hlocks hsz hN hA hK hP hD hS ls hl
  have hown : z.vm.findClass RX10 = some m.cls := hown
  have hinX10 : ∀ w ∈ wsX100, w ∈ wsX10_part := by decide +kernel
  have fl22 := hts (.fieldLink RX10 22 "MagpieRunsModel" "buffer" "[I") (by decide +kernel)
  have fl173 := hts (.fieldLink RX10 173 "MagpieRunsModel" "length" "I") (by decide +kernel)
  have fl176 := hts (.fieldLink RX10 176 "MagpieRunsModel" "spot" "I") (by decide +kernel)
  have fl179 := hts (.fieldLink RX10 179 "MagpieRunsModel" "isWrong" "Z") (by decide +kernel)
  have hl : lv_has ls 7 [(0, .ref (ad 0)), (1, .int (k_b a1))] := hl
  have J_290 : ∀ (l2 : Int32) (l4 : Int32) (l5 : Int32) (c_s : Nat → Int32) (c_laid : Nat → Int32) (c_spot : Int32) (c_isWrong : Bool) (H : Heap) (locs : List Loc), va_P D vwCl (wM cI cJ ad c_s c_before c_known c_kept c_isKept c_aside c_buffer c_length c_thrown c_laid c_spot c_isWrong c_isHalted c_mine c_theirs c_many c_from0 c_from1 c_dice c_hash) H → va_D A (wM cI cJ ad c_s c_before c_known c_kept c_isKept c_aside c_buffer c_length c_thrown c_laid c_spot c_isWrong c_isHalted c_mine c_theirs c_many c_from0 c_from1 c_dice c_hash) → va_S A z.heap H locs → ∀ ls : Array Slot, lv_has ls 7 [(0, .ref (ad 0)), (1, .int (k_b a1)), (2, .int l2), (4, .int l4), (5, .int l5)] → mX10_part_290 c_buffer c_length a1 l2 l4 l5 c_s c_laid c_spot c_isWrong = some (r, c_s', c_laid', c_spot', c_isWrong') → W p l e rmX10_part z m ([.ref (ad 0), .int (k_b a1)] : List Value).toArray below meth c H locs 0 0 (k_Qi below ([.ref (ad 0), .int (k_b a1)] : List Value) D (kT cI cJ cC cG) z A (wM cI cJ ad c_s' c_before c_known c_kept c_isKept c_aside c_buffer c_length c_thrown c_laid' c_spot' c_isWrong' c_isHalted c_mine c_theirs c_many c_from0 c_from1 c_dice c_hash) (k_b r)) (F0 m 290 ls []) := by
    intro l2 l4 l5 c_s c_laid c_spot c_isWrong H locs hP hD hS ls hl hm
    unfold mX10_part_290 at hm
    refine lv_iload_n hx hb dX10_part_290 rfl (lv_at hl 1 rfl) ?_
    refine lv_if_eq (tgt := 306) hx hb dX10_part_291 (by decide) (fun cc291 => ?_) (fun cc291 => ?_)
    · have hm := k_ip cc291 hm
      refine lv_iconst (v := 1) hx hb dX10_part_306 (by decide) ?_
      refine lv_goto (tgt := 311) hx hb dX10_part_307 (by decide) ?_
      cases hm
      exact k_end_z true hx hb hr hlocks hK hP hD hS dX10_part_311
    · have hm := k_in cc291 hm
      refine lv_aload_n hx hb dX10_part_294 rfl (lv_at hl 0 rfl) ?_
      refine lv_iload_n hx hb dX10_part_295 rfl (lv_at hl 2 rfl) ?_
      refine lv_iload hx hb dX10_part_296 (lv_at hl 3 rfl) ?_
      refine lv_iload hx hb dX10_part_298 (lv_at hl 4 rfl) ?_
      obtain ⟨r1, w2, w3, hc300, hm⟩ := k_bd3s hm
      refine k_i_s (k_rV (As := [.int l2, .int l4, .int l5]) (rest := []) ⟨hx, hb, hml, hown, hts⟩ hK hN hP hD (zX10_isPlayed hc300) (cwV 3 hts gX10_part_X10_isPlayed rfl rfl rfl (by decide +kernel) ⟨Nat.le_of_ble_eq_true rfl, Nat.le_of_ble_eq_true rfl⟩) rfl rfl rfl hl.1 rfl (Nat.le_of_ble_eq_true rfl) dX10_part_300 ⟨Nat.zero_le _, Nat.zero_le _⟩) hD hS hA (fun H locs hP hD hS => ?_)
      refine lv_if_eq (tgt := 310) hx hb dX10_part_303 (by decide) (fun cc303 => ?_) (fun cc303 => ?_)
      · have hm := k_ip cc303 hm
        refine lv_iconst (v := 0) hx hb dX10_part_310 (by decide) ?_
        cases hm
        exact k_end_z false hx hb hr hlocks hK hP hD hS dX10_part_311
      · have hm := k_in cc303 hm
        refine lv_iconst (v := 1) hx hb dX10_part_306 (by decide) ?_
        refine lv_goto (tgt := 311) hx hb dX10_part_307 (by decide) ?_
        cases hm
        exact k_end_z true hx hb hr hlocks hK hP hD hS dX10_part_311
  have J_277 : ∀ (l2 : Int32) (l4 : Int32) (c_s : Nat → Int32) (c_laid : Nat → Int32) (c_spot : Int32) (c_isWrong : Bool) (H : Heap) (locs : List Loc), va_P D vwCl (wM cI cJ ad c_s c_before c_known c_kept c_isKept c_aside c_buffer c_length c_thrown c_laid c_spot c_isWrong c_isHalted c_mine c_theirs c_many c_from0 c_from1 c_dice c_hash) H → va_D A (wM cI cJ ad c_s c_before c_known c_kept c_isKept c_aside c_buffer c_length c_thrown c_laid c_spot c_isWrong c_isHalted c_mine c_theirs c_many c_from0 c_from1 c_dice c_hash) → va_S A z.heap H locs → ∀ ls : Array Slot, lv_has ls 7 [(0, .ref (ad 0)), (1, .int (k_b a1)), (2, .int l2), (4, .int l4)] → mX10_part_277 c_buffer c_length a1 l2 l4 c_s c_laid c_spot c_isWrong = some (r, c_s', c_laid', c_spot', c_isWrong') → W p l e rmX10_part z m ([.ref (ad 0), .int (k_b a1)] : List Value).toArray below meth c H locs 0 0 (k_Qi below ([.ref (ad 0), .int (k_b a1)] : List Value) D (kT cI cJ cC cG) z A (wM cI cJ ad c_s' c_before c_known c_kept c_isKept c_aside c_buffer c_length c_thrown c_laid' c_spot' c_isWrong' c_isHalted c_mine c_theirs c_many c_from0 c_from1 c_dice c_hash) (k_b r)) (F0 m 277 ls []) := by
    intro l2 l4 c_s c_laid c_spot c_isWrong H locs hP hD hS ls hl hm
    unfold mX10_part_277 at hm
    refine lv_aload_n hx hb dX10_part_277 rfl (lv_at hl 0 rfl) ?_
    refine lv_bipush (v := 49) hx hb dX10_part_278 (by decide) ?_
    refine lv_bipush (v := 54) hx hb dX10_part_280 (by decide) ?_
    obtain ⟨r4, w5, w6, hc282, hm⟩ := k_bd3s hm
    refine k_i_s (k_rV (As := [.int 49, .int 54]) (rest := []) ⟨hx, hb, hml, hown, hts⟩ hK hN hP hD (zX10_sign hc282) (cwV 2 hts gX10_part_X10_sign rfl rfl rfl (by decide +kernel) ⟨Nat.le_of_ble_eq_true rfl, Nat.le_of_ble_eq_true rfl⟩) rfl rfl rfl hl.1 rfl (Nat.le_of_ble_eq_true rfl) dX10_part_282 ⟨Nat.zero_le _, Nat.zero_le _⟩) hD hS hA (fun H locs hP hD hS => ?_)
    refine lv_bipush (v := 48) hx hb dX10_part_285 (by decide) ?_
    refine lv_isub hx hb dX10_part_287 ?_
    refine lv_istore (lv' := [(5, .int (r4 - 48)), (0, .ref (ad 0)), (1, .int (k_b a1)), (2, .int l2), (4, .int l4)]) hx hb dX10_part_288 hl (by decide) rfl (fun ls hl => ?_)
    exact J_290 l2 l4 (r4 - 48) c_s c_laid w5 w6 _ _ hP hD hS _ (lv_sub hl [1, 2, 3, 4, 0] rfl) hm
  have J_257 : ∀ (t0 : Int32) (l2 : Int32) (l4 : Int32) (l5 : Bool) (c_s : Nat → Int32) (c_laid : Nat → Int32) (c_spot : Int32) (c_isWrong : Bool) (H : Heap) (locs : List Loc), va_P D vwCl (wM cI cJ ad c_s c_before c_known c_kept c_isKept c_aside c_buffer c_length c_thrown c_laid c_spot c_isWrong c_isHalted c_mine c_theirs c_many c_from0 c_from1 c_dice c_hash) H → va_D A (wM cI cJ ad c_s c_before c_known c_kept c_isKept c_aside c_buffer c_length c_thrown c_laid c_spot c_isWrong c_isHalted c_mine c_theirs c_many c_from0 c_from1 c_dice c_hash) → va_S A z.heap H locs → ∀ ls : Array Slot, lv_has ls 7 [(0, .ref (ad 0)), (1, .int (k_b a1)), (2, .int l2), (4, .int l4), (5, .int (k_b l5))] → mX10_part_257 c_buffer c_length a1 t0 l2 l4 l5 c_s c_laid c_spot c_isWrong = some (r, c_s', c_laid', c_spot', c_isWrong') → W p l e rmX10_part z m ([.ref (ad 0), .int (k_b a1)] : List Value).toArray below meth c H locs 0 0 (k_Qi below ([.ref (ad 0), .int (k_b a1)] : List Value) D (kT cI cJ cC cG) z A (wM cI cJ ad c_s' c_before c_known c_kept c_isKept c_aside c_buffer c_length c_thrown c_laid' c_spot' c_isWrong' c_isHalted c_mine c_theirs c_many c_from0 c_from1 c_dice c_hash) (k_b r)) (F0 m 257 ls [.int t0]) := by
    intro t0 l2 l4 l5 c_s c_laid c_spot c_isWrong H locs hP hD hS ls hl hm
    unfold mX10_part_257 at hm
    refine lv_istore (lv' := [(6, .int t0), (0, .ref (ad 0)), (1, .int (k_b a1)), (2, .int l2), (4, .int l4), (5, .int (k_b l5))]) hx hb dX10_part_257 hl (by decide) rfl (fun ls hl => ?_)
    refine lv_iload_n hx hb dX10_part_259 rfl (lv_at hl 3 rfl) ?_
    refine lv_bipush (v := 114) hx hb dX10_part_260 (by decide) ?_
    refine lv_icmp_eq (tgt := 277) hx hb dX10_part_262 (by decide) (fun cc262 => ?_) (fun cc262 => ?_)
    · have hm := k_ip cc262 hm
      exact J_277 l2 l4 c_s c_laid c_spot c_isWrong _ _ hP hD hS _ (lv_sub hl [1, 2, 3, 4] rfl) hm
    · have hm := k_in cc262 hm
      refine lv_iload_n hx hb dX10_part_265 rfl (lv_at hl 3 rfl) ?_
      refine lv_bipush (v := 109) hx hb dX10_part_266 (by decide) ?_
      refine lv_icmp_eq (tgt := 277) hx hb dX10_part_268 (by decide) (fun cc268 => ?_) (fun cc268 => ?_)
      · have hm := k_ip cc268 hm
        exact J_277 l2 l4 c_s c_laid c_spot c_isWrong _ _ hP hD hS _ (lv_sub hl [1, 2, 3, 4] rfl) hm
      · have hm := k_in cc268 hm
        refine lv_iload_n hx hb dX10_part_271 rfl (lv_at hl 3 rfl) ?_
        refine lv_bipush (v := 98) hx hb dX10_part_272 (by decide) ?_
        refine lv_icmp_ne (tgt := 290) hx hb dX10_part_274 (by decide) (fun cc274 => ?_) (fun cc274 => ?_)
        · have hm := k_in cc274 hm
          exact J_290 l2 l4 (k_b l5) c_s c_laid c_spot c_isWrong _ _ hP hD hS _ (lv_sub hl [1, 2, 3, 4, 5] rfl) hm
        · have hm := k_ip cc274 hm
          exact J_277 l2 l4 c_s c_laid c_spot c_isWrong _ _ hP hD hS _ (lv_sub hl [1, 2, 3, 4] rfl) hm
  have J_245 : ∀ (l2 : Int32) (l4 : Int32) (l5 : Bool) (c_s : Nat → Int32) (c_laid : Nat → Int32) (c_spot : Int32) (c_isWrong : Bool) (H : Heap) (locs : List Loc), va_P D vwCl (wM cI cJ ad c_s c_before c_known c_kept c_isKept c_aside c_buffer c_length c_thrown c_laid c_spot c_isWrong c_isHalted c_mine c_theirs c_many c_from0 c_from1 c_dice c_hash) H → va_D A (wM cI cJ ad c_s c_before c_known c_kept c_isKept c_aside c_buffer c_length c_thrown c_laid c_spot c_isWrong c_isHalted c_mine c_theirs c_many c_from0 c_from1 c_dice c_hash) → va_S A z.heap H locs → ∀ ls : Array Slot, lv_has ls 7 [(0, .ref (ad 0)), (1, .int (k_b a1)), (2, .int l2), (4, .int l4), (5, .int (k_b l5))] → mX10_part_245 c_buffer c_length a1 l2 l4 l5 c_s c_laid c_spot c_isWrong = some (r, c_s', c_laid', c_spot', c_isWrong') → W p l e rmX10_part z m ([.ref (ad 0), .int (k_b a1)] : List Value).toArray below meth c H locs 0 0 (k_Qi below ([.ref (ad 0), .int (k_b a1)] : List Value) D (kT cI cJ cC cG) z A (wM cI cJ ad c_s' c_before c_known c_kept c_isKept c_aside c_buffer c_length c_thrown c_laid' c_spot' c_isWrong' c_isHalted c_mine c_theirs c_many c_from0 c_from1 c_dice c_hash) (k_b r)) (F0 m 245 ls []) := by
    intro l2 l4 l5 c_s c_laid c_spot c_isWrong H locs hP hD hS ls hl hm
    unfold mX10_part_245 at hm
    refine lv_aload_n hx hb dX10_part_245 rfl (lv_at hl 0 rfl) ?_
    refine lv_bipush (v := 46) hx hb dX10_part_246 (by decide) ?_
    refine lv_bipush (v := 46) hx hb dX10_part_248 (by decide) ?_
    obtain ⟨r7, w8, w9, hc250, hm⟩ := k_bd3s hm
    refine k_i_s (k_rV (As := [.int 46, .int 46]) (rest := []) ⟨hx, hb, hml, hown, hts⟩ hK hN hP hD (zX10_sign hc250) (cwV 2 hts gX10_part_X10_sign rfl rfl rfl (by decide +kernel) ⟨Nat.le_of_ble_eq_true rfl, Nat.le_of_ble_eq_true rfl⟩) rfl rfl rfl hl.1 rfl (Nat.le_of_ble_eq_true rfl) dX10_part_250 ⟨Nat.zero_le _, Nat.zero_le _⟩) hD hS hA (fun H locs hP hD hS => ?_)
    refine lv_goto (tgt := 257) hx hb dX10_part_253 (by decide) ?_
    exact J_257 r7 l2 l4 l5 c_s c_laid w8 w9 _ _ hP hD hS _ (lv_sub hl [0, 1, 2, 3, 4] rfl) hm
  have J_233 : ∀ (l2 : Int32) (l4 : Int32) (l5 : Bool) (c_s : Nat → Int32) (c_laid : Nat → Int32) (c_spot : Int32) (c_isWrong : Bool) (H : Heap) (locs : List Loc), va_P D vwCl (wM cI cJ ad c_s c_before c_known c_kept c_isKept c_aside c_buffer c_length c_thrown c_laid c_spot c_isWrong c_isHalted c_mine c_theirs c_many c_from0 c_from1 c_dice c_hash) H → va_D A (wM cI cJ ad c_s c_before c_known c_kept c_isKept c_aside c_buffer c_length c_thrown c_laid c_spot c_isWrong c_isHalted c_mine c_theirs c_many c_from0 c_from1 c_dice c_hash) → va_S A z.heap H locs → ∀ ls : Array Slot, lv_has ls 7 [(0, .ref (ad 0)), (1, .int (k_b a1)), (2, .int l2), (4, .int l4), (5, .int (k_b l5))] → mX10_part_233 c_buffer c_length a1 l2 l4 l5 c_s c_laid c_spot c_isWrong = some (r, c_s', c_laid', c_spot', c_isWrong') → W p l e rmX10_part z m ([.ref (ad 0), .int (k_b a1)] : List Value).toArray below meth c H locs 0 0 (k_Qi below ([.ref (ad 0), .int (k_b a1)] : List Value) D (kT cI cJ cC cG) z A (wM cI cJ ad c_s' c_before c_known c_kept c_isKept c_aside c_buffer c_length c_thrown c_laid' c_spot' c_isWrong' c_isHalted c_mine c_theirs c_many c_from0 c_from1 c_dice c_hash) (k_b r)) (F0 m 233 ls []) := by
    intro l2 l4 l5 c_s c_laid c_spot c_isWrong H locs hP hD hS ls hl hm
    unfold mX10_part_233 at hm
    refine lv_iload_n hx hb dX10_part_233 rfl (lv_at hl 2 rfl) ?_
    refine lv_bipush (v := 109) hx hb dX10_part_234 (by decide) ?_
    refine lv_icmp_eq (tgt := 245) hx hb dX10_part_236 (by decide) (fun cc236 => ?_) (fun cc236 => ?_)
    · have hm := k_ip cc236 hm
      exact J_245 l2 l4 l5 c_s c_laid c_spot c_isWrong _ _ hP hD hS _ (lv_sub hl [0, 1, 2, 3, 4] rfl) hm
    · have hm := k_in cc236 hm
      refine lv_iload_n hx hb dX10_part_239 rfl (lv_at hl 2 rfl) ?_
      refine lv_bipush (v := 98) hx hb dX10_part_240 (by decide) ?_
      refine lv_icmp_ne (tgt := 256) hx hb dX10_part_242 (by decide) (fun cc242 => ?_) (fun cc242 => ?_)
      · have hm := k_in cc242 hm
        refine lv_iconst (v := 0) hx hb dX10_part_256 (by decide) ?_
        exact J_257 0 l2 l4 l5 c_s c_laid c_spot c_isWrong _ _ hP hD hS _ (lv_sub hl [0, 1, 2, 3, 4] rfl) hm
      · have hm := k_ip cc242 hm
        exact J_245 l2 l4 l5 c_s c_laid c_spot c_isWrong _ _ hP hD hS _ (lv_sub hl [0, 1, 2, 3, 4] rfl) hm
  have J_123 : ∀ (t0 : Bool) (t1 : Int32) (l2 : Int32) (c_s : Nat → Int32) (c_laid : Nat → Int32) (c_spot : Int32) (c_isWrong : Bool) (H : Heap) (locs : List Loc), va_P D vwCl (wM cI cJ ad c_s c_before c_known c_kept c_isKept c_aside c_buffer c_length c_thrown c_laid c_spot c_isWrong c_isHalted c_mine c_theirs c_many c_from0 c_from1 c_dice c_hash) H → va_D A (wM cI cJ ad c_s c_before c_known c_kept c_isKept c_aside c_buffer c_length c_thrown c_laid c_spot c_isWrong c_isHalted c_mine c_theirs c_many c_from0 c_from1 c_dice c_hash) → va_S A z.heap H locs → ∀ ls : Array Slot, lv_has ls 7 [(0, .ref (ad 0)), (1, .int (k_b a1)), (2, .int l2)] → mX10_part_123 c_buffer c_length a1 t0 t1 l2 c_s c_laid c_spot c_isWrong = some (r, c_s', c_laid', c_spot', c_isWrong') → W p l e rmX10_part z m ([.ref (ad 0), .int (k_b a1)] : List Value).toArray below meth c H locs 0 0 (k_Qi below ([.ref (ad 0), .int (k_b a1)] : List Value) D (kT cI cJ cC cG) z A (wM cI cJ ad c_s' c_before c_known c_kept c_isKept c_aside c_buffer c_length c_thrown c_laid' c_spot' c_isWrong' c_isHalted c_mine c_theirs c_many c_from0 c_from1 c_dice c_hash) (k_b r)) (F0 m 123 ls [.int (k_b t0), .int t1, .ref (ad 0)]) := by
    intro t0 t1 l2 c_s c_laid c_spot c_isWrong H locs hP hD hS ls hl hm
    unfold mX10_part_123 at hm
    refine lv_iadd hx hb dX10_part_123 ?_
    refine va_put (D := D) (ci := 6) (v := .int (t1 + (k_b t0))) (ty := .int) (C := RX10) (T := TX10) (N := 20) hx hb hts hinX10 tyX10 tyX10_ok nmX10 hown hK hP hD hS 0 rfl rfl 10 (by decide) fl176 (fun _ h9 => h9) rfl (by decide +kernel) rfl rfl (Nat.le_of_ble_eq_true rfl) dX10_part_124 (fun H locs hP hD hS => ?_)
    have hP : va_P D vwCl (wM cI cJ ad c_s c_before c_known c_kept c_isKept c_aside c_buffer c_length c_thrown c_laid (t1 + (k_b t0)) c_isWrong c_isHalted c_mine c_theirs c_many c_from0 c_from1 c_dice c_hash) H := hP
    have hD : va_D A (wM cI cJ ad c_s c_before c_known c_kept c_isKept c_aside c_buffer c_length c_thrown c_laid (t1 + (k_b t0)) c_isWrong c_isHalted c_mine c_theirs c_many c_from0 c_from1 c_dice c_hash) := hD
    refine lv_iconst (v := (-1)) hx hb dX10_part_127 (by decide) ?_
    refine lv_istore (lv' := [(4, .int (-1)), (0, .ref (ad 0)), (1, .int (k_b a1)), (2, .int l2)]) hx hb dX10_part_128 hl (by decide) rfl (fun ls hl => ?_)
    refine lv_iconst (v := 0) hx hb dX10_part_130 (by decide) ?_
    refine lv_istore (lv' := [(5, .int 0), (4, .int (-1)), (0, .ref (ad 0)), (1, .int (k_b a1)), (2, .int l2)]) hx hb dX10_part_131 hl (by decide) rfl (fun ls hl => ?_)
    refine lv_iload_n hx hb dX10_part_133 rfl (lv_at hl 4 rfl) ?_
    refine lv_bipush (v := 114) hx hb dX10_part_134 (by decide) ?_
    refine lv_icmp_ne (tgt := 155) hx hb dX10_part_136 (by decide) (fun cc136 => ?_) (fun cc136 => ?_)
    · have hm := k_in cc136 hm
      refine lv_iload_n hx hb dX10_part_155 rfl (lv_at hl 4 rfl) ?_
      refine lv_bipush (v := 109) hx hb dX10_part_156 (by decide) ?_
      refine lv_icmp_ne (tgt := 233) hx hb dX10_part_158 (by decide) (fun cc158 => ?_) (fun cc158 => ?_)
      · have hm := k_in cc158 hm
        exact J_233 l2 (-1) false c_s c_laid (t1 + (k_b t0)) c_isWrong _ _ hP hD hS _ (lv_sub hl [2, 3, 4, 1, 0] rfl) hm
      · have hm := k_ip cc158 hm
        refine lv_aload_n hx hb dX10_part_161 rfl (lv_at hl 2 rfl) ?_
        refine lv_bipush (v := 48) hx hb dX10_part_162 (by decide) ?_
        refine lv_bipush (v := 57) hx hb dX10_part_164 (by decide) ?_
        obtain ⟨r10, w11, w12, hc166, hm⟩ := k_bd3s hm
        refine k_i_s (k_rV (As := [.int 48, .int 57]) (rest := []) ⟨hx, hb, hml, hown, hts⟩ hK hN hP hD (zX10_sign hc166) (cwV 2 hts gX10_part_X10_sign rfl rfl rfl (by decide +kernel) ⟨Nat.le_of_ble_eq_true rfl, Nat.le_of_ble_eq_true rfl⟩) rfl rfl rfl hl.1 rfl (Nat.le_of_ble_eq_true rfl) dX10_part_166 ⟨Nat.zero_le _, Nat.zero_le _⟩) hD hS hA (fun H locs hP hD hS => ?_)
        refine lv_bipush (v := 48) hx hb dX10_part_169 (by decide) ?_
        refine lv_isub hx hb dX10_part_171 ?_
        refine lv_istore (lv' := [(4, .int (r10 - 48)), (5, .int 0), (0, .ref (ad 0)), (1, .int (k_b a1)), (2, .int l2)]) hx hb dX10_part_172 hl (by decide) rfl (fun ls hl => ?_)
        refine lv_iload hx hb dX10_part_174 (lv_at hl 0 rfl) ?_
        refine lv_iconst (v := 1) hx hb dX10_part_176 (by decide) ?_
        refine lv_icmp_ne (tgt := 233) hx hb dX10_part_177 (by decide) (fun cc177 => ?_) (fun cc177 => ?_)
        · have hm := k_in cc177 hm
          exact J_233 l2 (r10 - 48) false c_s c_laid w11 w12 _ _ hP hD hS _ (lv_sub hl [2, 3, 4, 0, 1] rfl) hm
        · have hm := k_ip cc177 hm
          refine lv_aload_n hx hb dX10_part_180 rfl (lv_at hl 2 rfl) ?_
          refine va_get (D := D) (ci := 6) (v := .int (k_b w12)) (C := RX10) (T := TX10) (N := 20) hx hb hts hinX10 hown hK hP 0 rfl rfl 11 (by decide) fl179 (fun _ h9 => h9) rfl dX10_part_181 ?_
          refine lv_if_ne (tgt := 233) hx hb dX10_part_184 (by decide) (fun cc184 => ?_) (fun cc184 => ?_)
          · have hm := k_in cc184 hm
            exact J_233 l2 (r10 - 48) false c_s c_laid w11 w12 _ _ hP hD hS _ (lv_sub hl [2, 3, 4, 0, 1] rfl) hm
          · have hm := k_ip cc184 hm
            refine lv_aload_n hx hb dX10_part_187 rfl (lv_at hl 2 rfl) ?_
            refine va_get (D := D) (ci := 6) (v := .int w11) (C := RX10) (T := TX10) (N := 20) hx hb hts hinX10 hown hK hP 0 rfl rfl 10 (by decide) fl176 (fun _ h9 => h9) rfl dX10_part_188 ?_
            refine lv_aload_n hx hb dX10_part_191 rfl (lv_at hl 2 rfl) ?_
            refine va_get (D := D) (ci := 6) (v := .int c_length) (C := RX10) (T := TX10) (N := 20) hx hb hts hinX10 hown hK hP 0 rfl rfl 7 (by decide) fl173 (fun _ h9 => h9) rfl dX10_part_192 ?_
            refine lv_icmp_ge (tgt := 233) hx hb dX10_part_195 (by decide) (fun cc195 => ?_) (fun cc195 => ?_)
            · have hm := k_ip cc195 hm
              exact J_233 l2 (r10 - 48) false c_s c_laid w11 w12 _ _ hP hD hS _ (lv_sub hl [2, 3, 4, 0, 1] rfl) hm
            · have hm := k_in cc195 hm
              refine lv_aload_n hx hb dX10_part_198 rfl (lv_at hl 2 rfl) ?_
              refine va_get (D := D) (ci := 6) (v := .ref (ad 5)) (C := RX10) (T := TX10) (N := 20) hx hb hts hinX10 hown hK hP 0 rfl rfl 6 (by decide) fl22 (fun _ h9 => h9) rfl dX10_part_199 ?_
              refine lv_aload_n hx hb dX10_part_202 rfl (lv_at hl 2 rfl) ?_
              refine va_get (D := D) (ci := 6) (v := .int w11) (C := RX10) (T := TX10) (N := 20) hx hb hts hinX10 hown hK hP 0 rfl rfl 10 (by decide) fl176 (fun _ h9 => h9) rfl dX10_part_203 ?_
              obtain ⟨gi206, hm⟩ := k_gs hm
              refine va_iald hx hb hK hP 5 0 rfl rfl gi206 dX10_part_206 ?_
              refine lv_bipush (v := 48) hx hb dX10_part_207 (by decide) ?_
              refine lv_bipush (v := 53) hx hb dX10_part_209 (by decide) ?_
              obtain ⟨r13, hc211, hm⟩ := k_bds hm
              refine k_i_0 (k_rS (As := [.int (c_buffer (Int32.toNatClampNeg w11)), .int 48, .int 53]) (rest := []) ⟨hx, hb, hml, hown, hts⟩ hK hN k_P0 (k_D0 (A := A)) (zX10_in hc211) (va_cwS 3 hts gX10_part_X10_in rfl rfl rfl (by decide +kernel) ⟨Nat.le_of_ble_eq_true rfl, Nat.le_of_ble_eq_true rfl⟩) rfl hl.1 rfl (Nat.le_of_ble_eq_true rfl) dX10_part_211 ⟨Nat.zero_le _, Nat.zero_le _⟩) hP hS hA (fun H locs hP hS => ?_)
              refine lv_if_eq (tgt := 233) hx hb dX10_part_214 (by decide) (fun cc214 => ?_) (fun cc214 => ?_)
              · have hm := k_ip cc214 hm
                exact J_233 l2 (r10 - 48) false c_s c_laid w11 w12 _ _ hP hD hS _ (lv_sub hl [2, 3, 4, 0, 1] rfl) hm
              · have hm := k_in cc214 hm
                refine lv_bipush (v := 10) hx hb dX10_part_217 (by decide) ?_
                refine lv_aload_n hx hb dX10_part_219 rfl (lv_at hl 2 rfl) ?_
                refine lv_bipush (v := 48) hx hb dX10_part_220 (by decide) ?_
                refine lv_bipush (v := 53) hx hb dX10_part_222 (by decide) ?_
                obtain ⟨r14, w15, w16, hc224, hm⟩ := k_bd3s hm
                refine k_i_s (k_rV (As := [.int 48, .int 53]) (rest := [.int 10]) ⟨hx, hb, hml, hown, hts⟩ hK hN hP hD (zX10_sign hc224) (cwV 2 hts gX10_part_X10_sign rfl rfl rfl (by decide +kernel) ⟨Nat.le_of_ble_eq_true rfl, Nat.le_of_ble_eq_true rfl⟩) rfl rfl rfl hl.1 rfl (Nat.le_of_ble_eq_true rfl) dX10_part_224 ⟨Nat.zero_le _, Nat.zero_le _⟩) hD hS hA (fun H locs hP hD hS => ?_)
                refine lv_iadd hx hb dX10_part_227 ?_
                refine lv_bipush (v := 48) hx hb dX10_part_228 (by decide) ?_
                refine lv_isub hx hb dX10_part_230 ?_
                refine lv_istore (lv' := [(4, .int ((10 + r14) - 48)), (5, .int 0), (0, .ref (ad 0)), (1, .int (k_b a1)), (2, .int l2)]) hx hb dX10_part_231 hl (by decide) rfl (fun ls hl => ?_)
                exact J_233 l2 ((10 + r14) - 48) false c_s c_laid w15 w16 _ _ hP hD hS _ (lv_sub hl [2, 3, 4, 0, 1] rfl) hm
    · have hm := k_ip cc136 hm
      refine lv_aload_n hx hb dX10_part_139 rfl (lv_at hl 2 rfl) ?_
      refine lv_bipush (v := 49) hx hb dX10_part_140 (by decide) ?_
      refine lv_bipush (v := 54) hx hb dX10_part_142 (by decide) ?_
      obtain ⟨r17, w18, w19, hc144, hm⟩ := k_bd3s hm
      refine k_i_s (k_rV (As := [.int 49, .int 54]) (rest := []) ⟨hx, hb, hml, hown, hts⟩ hK hN hP hD (zX10_sign hc144) (cwV 2 hts gX10_part_X10_sign rfl rfl rfl (by decide +kernel) ⟨Nat.le_of_ble_eq_true rfl, Nat.le_of_ble_eq_true rfl⟩) rfl rfl rfl hl.1 rfl (Nat.le_of_ble_eq_true rfl) dX10_part_144 ⟨Nat.zero_le _, Nat.zero_le _⟩) hD hS hA (fun H locs hP hD hS => ?_)
      refine lv_bipush (v := 48) hx hb dX10_part_147 (by decide) ?_
      refine lv_isub hx hb dX10_part_149 ?_
      refine lv_istore (lv' := [(4, .int (r17 - 48)), (5, .int 0), (0, .ref (ad 0)), (1, .int (k_b a1)), (2, .int l2)]) hx hb dX10_part_150 hl (by decide) rfl (fun ls hl => ?_)
      refine lv_goto (tgt := 233) hx hb dX10_part_152 (by decide) ?_
      exact J_233 l2 (r17 - 48) false c_s c_laid w18 w19 _ _ hP hD hS _ (lv_sub hl [2, 3, 4, 0, 1] rfl) hm
  have J_103 : ∀ (t0 : Bool) (l2 : Int32) (c_s : Nat → Int32) (c_laid : Nat → Int32) (c_spot : Int32) (c_isWrong : Bool) (H : Heap) (locs : List Loc), va_P D vwCl (wM cI cJ ad c_s c_before c_known c_kept c_isKept c_aside c_buffer c_length c_thrown c_laid c_spot c_isWrong c_isHalted c_mine c_theirs c_many c_from0 c_from1 c_dice c_hash) H → va_D A (wM cI cJ ad c_s c_before c_known c_kept c_isKept c_aside c_buffer c_length c_thrown c_laid c_spot c_isWrong c_isHalted c_mine c_theirs c_many c_from0 c_from1 c_dice c_hash) → va_S A z.heap H locs → ∀ ls : Array Slot, lv_has ls 7 [(0, .ref (ad 0)), (1, .int (k_b a1)), (2, .int l2)] → mX10_part_103 c_buffer c_length a1 t0 l2 c_s c_laid c_spot c_isWrong = some (r, c_s', c_laid', c_spot', c_isWrong') → W p l e rmX10_part z m ([.ref (ad 0), .int (k_b a1)] : List Value).toArray below meth c H locs 0 0 (k_Qi below ([.ref (ad 0), .int (k_b a1)] : List Value) D (kT cI cJ cC cG) z A (wM cI cJ ad c_s' c_before c_known c_kept c_isKept c_aside c_buffer c_length c_thrown c_laid' c_spot' c_isWrong' c_isHalted c_mine c_theirs c_many c_from0 c_from1 c_dice c_hash) (k_b r)) (F0 m 103 ls [.int (k_b t0), .ref (ad 0)]) := by
    intro t0 l2 c_s c_laid c_spot c_isWrong H locs hP hD hS ls hl hm
    unfold mX10_part_103 at hm
    refine va_put (D := D) (ci := 6) (v := .int (k_b t0)) (ty := .boolean) (C := RX10) (T := TX10) (N := 20) hx hb hts hinX10 tyX10 tyX10_ok nmX10 hown hK hP hD hS 0 rfl rfl 11 (by decide) fl179 (fun _ h9 => h9) rfl (by decide +kernel) (k_nz _) (k_fz _) (Nat.le_of_ble_eq_true rfl) dX10_part_103 (fun H locs hP hD hS => ?_)
    have hP : va_P D vwCl (wM cI cJ ad c_s c_before c_known c_kept c_isKept c_aside c_buffer c_length c_thrown c_laid c_spot t0 c_isHalted c_mine c_theirs c_many c_from0 c_from1 c_dice c_hash) H := hP
    have hD : va_D A (wM cI cJ ad c_s c_before c_known c_kept c_isKept c_aside c_buffer c_length c_thrown c_laid c_spot t0 c_isHalted c_mine c_theirs c_many c_from0 c_from1 c_dice c_hash) := hD
    refine lv_aload_n hx hb dX10_part_106 rfl (lv_at hl 0 rfl) ?_
    refine lv_dup hx hb dX10_part_107 rfl ?_
    refine va_get (D := D) (ci := 6) (v := .int c_spot) (C := RX10) (T := TX10) (N := 20) hx hb hts hinX10 hown hK hP 0 rfl rfl 10 (by decide) fl176 (fun _ h9 => h9) rfl dX10_part_108 ?_
    refine lv_aload_n hx hb dX10_part_111 rfl (lv_at hl 0 rfl) ?_
    refine va_get (D := D) (ci := 6) (v := .int (k_b t0)) (C := RX10) (T := TX10) (N := 20) hx hb hts hinX10 hown hK hP 0 rfl rfl 11 (by decide) fl179 (fun _ h9 => h9) rfl dX10_part_112 ?_
    refine lv_if_eq (tgt := 122) hx hb dX10_part_115 (by decide) (fun cc115 => ?_) (fun cc115 => ?_)
    · have hm := k_ip cc115 hm
      refine lv_iconst (v := 1) hx hb dX10_part_122 (by decide) ?_
      exact J_123 true c_spot l2 c_s c_laid c_spot t0 _ _ hP hD hS _ (lv_sub hl [0, 1, 2] rfl) hm
    · have hm := k_in cc115 hm
      refine lv_iconst (v := 0) hx hb dX10_part_118 (by decide) ?_
      refine lv_goto (tgt := 123) hx hb dX10_part_119 (by decide) ?_
      exact J_123 false c_spot l2 c_s c_laid c_spot t0 _ _ hP hD hS _ (lv_sub hl [0, 1, 2] rfl) hm
  have J_85 : ∀ (t0 : Bool) (l2 : Int32) (c_s : Nat → Int32) (c_laid : Nat → Int32) (c_spot : Int32) (c_isWrong : Bool) (H : Heap) (locs : List Loc), va_P D vwCl (wM cI cJ ad c_s c_before c_known c_kept c_isKept c_aside c_buffer c_length c_thrown c_laid c_spot c_isWrong c_isHalted c_mine c_theirs c_many c_from0 c_from1 c_dice c_hash) H → va_D A (wM cI cJ ad c_s c_before c_known c_kept c_isKept c_aside c_buffer c_length c_thrown c_laid c_spot c_isWrong c_isHalted c_mine c_theirs c_many c_from0 c_from1 c_dice c_hash) → va_S A z.heap H locs → ∀ ls : Array Slot, lv_has ls 7 [(0, .ref (ad 0)), (1, .int (k_b a1)), (2, .int l2)] → mX10_part_85 c_buffer c_length a1 t0 l2 c_s c_laid c_spot c_isWrong = some (r, c_s', c_laid', c_spot', c_isWrong') → W p l e rmX10_part z m ([.ref (ad 0), .int (k_b a1)] : List Value).toArray below meth c H locs 0 0 (k_Qi below ([.ref (ad 0), .int (k_b a1)] : List Value) D (kT cI cJ cC cG) z A (wM cI cJ ad c_s' c_before c_known c_kept c_isKept c_aside c_buffer c_length c_thrown c_laid' c_spot' c_isWrong' c_isHalted c_mine c_theirs c_many c_from0 c_from1 c_dice c_hash) (k_b r)) (F0 m 85 ls [.int (k_b t0)]) := by
    intro t0 l2 c_s c_laid c_spot c_isWrong H locs hP hD hS ls hl hm
    unfold mX10_part_85 at hm
    refine lv_istore_n (lv' := [(3, .int (k_b t0)), (0, .ref (ad 0)), (1, .int (k_b a1)), (2, .int l2)]) hx hb dX10_part_85 rfl hl (by decide) rfl (fun ls hl => ?_)
    refine lv_aload_n hx hb dX10_part_86 rfl (lv_at hl 1 rfl) ?_
    refine lv_aload_n hx hb dX10_part_87 rfl (lv_at hl 1 rfl) ?_
    refine va_get (D := D) (ci := 6) (v := .int (k_b c_isWrong)) (C := RX10) (T := TX10) (N := 20) hx hb hts hinX10 hown hK hP 0 rfl rfl 11 (by decide) fl179 (fun _ h9 => h9) rfl dX10_part_88 ?_
    refine lv_if_ne (tgt := 98) hx hb dX10_part_91 (by decide) (fun cc91 => ?_) (fun cc91 => ?_)
    · have hm := k_in cc91 hm
      refine lv_iconst (v := 1) hx hb dX10_part_98 (by decide) ?_
      refine lv_goto (tgt := 103) hx hb dX10_part_99 (by decide) ?_
      exact J_103 true l2 c_s c_laid c_spot c_isWrong _ _ hP hD hS _ (lv_sub hl [1, 2, 3] rfl) hm
    · have hm := k_ip cc91 hm
      refine lv_iload_n hx hb dX10_part_94 rfl (lv_at hl 0 rfl) ?_
      refine lv_if_ne (tgt := 102) hx hb dX10_part_95 (by decide) (fun cc95 => ?_) (fun cc95 => ?_)
      · have hm := k_in cc95 hm
        refine lv_iconst (v := 0) hx hb dX10_part_102 (by decide) ?_
        exact J_103 false l2 c_s c_laid c_spot c_isWrong _ _ hP hD hS _ (lv_sub hl [1, 2, 3] rfl) hm
      · have hm := k_ip cc95 hm
        refine lv_iconst (v := 1) hx hb dX10_part_98 (by decide) ?_
        refine lv_goto (tgt := 103) hx hb dX10_part_99 (by decide) ?_
        exact J_103 true l2 c_s c_laid c_spot c_isWrong _ _ hP hD hS _ (lv_sub hl [1, 2, 3] rfl) hm
  have J_31 : ∀ (t0 : Int32) (c_s : Nat → Int32) (c_laid : Nat → Int32) (c_spot : Int32) (c_isWrong : Bool) (H : Heap) (locs : List Loc), va_P D vwCl (wM cI cJ ad c_s c_before c_known c_kept c_isKept c_aside c_buffer c_length c_thrown c_laid c_spot c_isWrong c_isHalted c_mine c_theirs c_many c_from0 c_from1 c_dice c_hash) H → va_D A (wM cI cJ ad c_s c_before c_known c_kept c_isKept c_aside c_buffer c_length c_thrown c_laid c_spot c_isWrong c_isHalted c_mine c_theirs c_many c_from0 c_from1 c_dice c_hash) → va_S A z.heap H locs → ∀ ls : Array Slot, lv_has ls 7 [(0, .ref (ad 0)), (1, .int (k_b a1))] → mX10_part_31 c_buffer c_length a1 t0 c_s c_laid c_spot c_isWrong = some (r, c_s', c_laid', c_spot', c_isWrong') → W p l e rmX10_part z m ([.ref (ad 0), .int (k_b a1)] : List Value).toArray below meth c H locs 0 0 (k_Qi below ([.ref (ad 0), .int (k_b a1)] : List Value) D (kT cI cJ cC cG) z A (wM cI cJ ad c_s' c_before c_known c_kept c_isKept c_aside c_buffer c_length c_thrown c_laid' c_spot' c_isWrong' c_isHalted c_mine c_theirs c_many c_from0 c_from1 c_dice c_hash) (k_b r)) (F0 m 31 ls [.int t0]) := by
    intro t0 c_s c_laid c_spot c_isWrong H locs hP hD hS ls hl hm
    unfold mX10_part_31 at hm
    refine lv_istore_n (lv' := [(2, .int t0), (0, .ref (ad 0)), (1, .int (k_b a1))]) hx hb dX10_part_31 rfl hl (by decide) rfl (fun ls hl => ?_)
    refine lv_iload_n hx hb dX10_part_32 rfl (lv_at hl 0 rfl) ?_
    refine lv_bipush (v := 114) hx hb dX10_part_33 (by decide) ?_
    refine lv_icmp_eq (tgt := 80) hx hb dX10_part_35 (by decide) (fun cc35 => ?_) (fun cc35 => ?_)
    · have hm := k_ip cc35 hm
      refine lv_iconst (v := 1) hx hb dX10_part_80 (by decide) ?_
      refine lv_goto (tgt := 85) hx hb dX10_part_81 (by decide) ?_
      exact J_85 true t0 c_s c_laid c_spot c_isWrong _ _ hP hD hS _ (lv_sub hl [1, 2, 0] rfl) hm
    · have hm := k_in cc35 hm
      refine lv_iload_n hx hb dX10_part_38 rfl (lv_at hl 0 rfl) ?_
      refine lv_bipush (v := 109) hx hb dX10_part_39 (by decide) ?_
      refine lv_icmp_eq (tgt := 80) hx hb dX10_part_41 (by decide) (fun cc41 => ?_) (fun cc41 => ?_)
      · have hm := k_ip cc41 hm
        refine lv_iconst (v := 1) hx hb dX10_part_80 (by decide) ?_
        refine lv_goto (tgt := 85) hx hb dX10_part_81 (by decide) ?_
        exact J_85 true t0 c_s c_laid c_spot c_isWrong _ _ hP hD hS _ (lv_sub hl [1, 2, 0] rfl) hm
      · have hm := k_in cc41 hm
        refine lv_iload_n hx hb dX10_part_44 rfl (lv_at hl 0 rfl) ?_
        refine lv_bipush (v := 98) hx hb dX10_part_45 (by decide) ?_
        refine lv_icmp_eq (tgt := 80) hx hb dX10_part_47 (by decide) (fun cc47 => ?_) (fun cc47 => ?_)
        · have hm := k_ip cc47 hm
          refine lv_iconst (v := 1) hx hb dX10_part_80 (by decide) ?_
          refine lv_goto (tgt := 85) hx hb dX10_part_81 (by decide) ?_
          exact J_85 true t0 c_s c_laid c_spot c_isWrong _ _ hP hD hS _ (lv_sub hl [1, 2, 0] rfl) hm
        · have hm := k_in cc47 hm
          refine lv_iload_n hx hb dX10_part_50 rfl (lv_at hl 0 rfl) ?_
          refine lv_bipush (v := 101) hx hb dX10_part_51 (by decide) ?_
          refine lv_icmp_eq (tgt := 80) hx hb dX10_part_53 (by decide) (fun cc53 => ?_) (fun cc53 => ?_)
          · have hm := k_ip cc53 hm
            refine lv_iconst (v := 1) hx hb dX10_part_80 (by decide) ?_
            refine lv_goto (tgt := 85) hx hb dX10_part_81 (by decide) ?_
            exact J_85 true t0 c_s c_laid c_spot c_isWrong _ _ hP hD hS _ (lv_sub hl [1, 2, 0] rfl) hm
          · have hm := k_in cc53 hm
            refine lv_iload_n hx hb dX10_part_56 rfl (lv_at hl 0 rfl) ?_
            refine lv_bipush (v := 120) hx hb dX10_part_57 (by decide) ?_
            refine lv_icmp_eq (tgt := 80) hx hb dX10_part_59 (by decide) (fun cc59 => ?_) (fun cc59 => ?_)
            · have hm := k_ip cc59 hm
              refine lv_iconst (v := 1) hx hb dX10_part_80 (by decide) ?_
              refine lv_goto (tgt := 85) hx hb dX10_part_81 (by decide) ?_
              exact J_85 true t0 c_s c_laid c_spot c_isWrong _ _ hP hD hS _ (lv_sub hl [1, 2, 0] rfl) hm
            · have hm := k_in cc59 hm
              refine lv_iload_n hx hb dX10_part_62 rfl (lv_at hl 0 rfl) ?_
              refine lv_bipush (v := 116) hx hb dX10_part_63 (by decide) ?_
              refine lv_icmp_eq (tgt := 80) hx hb dX10_part_65 (by decide) (fun cc65 => ?_) (fun cc65 => ?_)
              · have hm := k_ip cc65 hm
                refine lv_iconst (v := 1) hx hb dX10_part_80 (by decide) ?_
                refine lv_goto (tgt := 85) hx hb dX10_part_81 (by decide) ?_
                exact J_85 true t0 c_s c_laid c_spot c_isWrong _ _ hP hD hS _ (lv_sub hl [1, 2, 0] rfl) hm
              · have hm := k_in cc65 hm
                refine lv_iload_n hx hb dX10_part_68 rfl (lv_at hl 0 rfl) ?_
                refine lv_bipush (v := 100) hx hb dX10_part_69 (by decide) ?_
                refine lv_icmp_eq (tgt := 80) hx hb dX10_part_71 (by decide) (fun cc71 => ?_) (fun cc71 => ?_)
                · have hm := k_ip cc71 hm
                  refine lv_iconst (v := 1) hx hb dX10_part_80 (by decide) ?_
                  refine lv_goto (tgt := 85) hx hb dX10_part_81 (by decide) ?_
                  exact J_85 true t0 c_s c_laid c_spot c_isWrong _ _ hP hD hS _ (lv_sub hl [1, 2, 0] rfl) hm
                · have hm := k_in cc71 hm
                  refine lv_iload_n hx hb dX10_part_74 rfl (lv_at hl 0 rfl) ?_
                  refine lv_bipush (v := 110) hx hb dX10_part_75 (by decide) ?_
                  refine lv_icmp_ne (tgt := 84) hx hb dX10_part_77 (by decide) (fun cc77 => ?_) (fun cc77 => ?_)
                  · have hm := k_in cc77 hm
                    refine lv_iconst (v := 0) hx hb dX10_part_84 (by decide) ?_
                    exact J_85 false t0 c_s c_laid c_spot c_isWrong _ _ hP hD hS _ (lv_sub hl [1, 2, 0] rfl) hm
                  · have hm := k_ip cc77 hm
                    refine lv_iconst (v := 1) hx hb dX10_part_80 (by decide) ?_
                    refine lv_goto (tgt := 85) hx hb dX10_part_81 (by decide) ?_
                    exact J_85 true t0 c_s c_laid c_spot c_isWrong _ _ hP hD hS _ (lv_sub hl [1, 2, 0] rfl) hm
  have J_30 : ∀ (c_s : Nat → Int32) (c_laid : Nat → Int32) (c_spot : Int32) (c_isWrong : Bool) (H : Heap) (locs : List Loc), va_P D vwCl (wM cI cJ ad c_s c_before c_known c_kept c_isKept c_aside c_buffer c_length c_thrown c_laid c_spot c_isWrong c_isHalted c_mine c_theirs c_many c_from0 c_from1 c_dice c_hash) H → va_D A (wM cI cJ ad c_s c_before c_known c_kept c_isKept c_aside c_buffer c_length c_thrown c_laid c_spot c_isWrong c_isHalted c_mine c_theirs c_many c_from0 c_from1 c_dice c_hash) → va_S A z.heap H locs → ∀ ls : Array Slot, lv_has ls 7 [(0, .ref (ad 0)), (1, .int (k_b a1))] → mX10_part_30 c_buffer c_length a1 c_s c_laid c_spot c_isWrong = some (r, c_s', c_laid', c_spot', c_isWrong') → W p l e rmX10_part z m ([.ref (ad 0), .int (k_b a1)] : List Value).toArray below meth c H locs 0 0 (k_Qi below ([.ref (ad 0), .int (k_b a1)] : List Value) D (kT cI cJ cC cG) z A (wM cI cJ ad c_s' c_before c_known c_kept c_isKept c_aside c_buffer c_length c_thrown c_laid' c_spot' c_isWrong' c_isHalted c_mine c_theirs c_many c_from0 c_from1 c_dice c_hash) (k_b r)) (F0 m 30 ls []) := by
    intro c_s c_laid c_spot c_isWrong H locs hP hD hS ls hl hm
    unfold mX10_part_30 at hm
    refine lv_iconst (v := 0) hx hb dX10_part_30 (by decide) ?_
    exact J_31 0 c_s c_laid c_spot c_isWrong _ _ hP hD hS _ (lv_sub hl [0, 1] rfl) hm
  unfold mX10_part at hm
  refine lv_aload_n hx hb dX10_part_0 rfl (lv_at hl 0 rfl) ?_
  refine va_get (D := D) (ci := 6) (v := .int c_spot) (C := RX10) (T := TX10) (N := 20) hx hb hts hinX10 hown hK hP 0 rfl rfl 10 (by decide) fl176 (fun _ h9 => h9) rfl dX10_part_1 ?_
  refine lv_aload_n hx hb dX10_part_4 rfl (lv_at hl 0 rfl) ?_
  refine va_get (D := D) (ci := 6) (v := .int c_length) (C := RX10) (T := TX10) (N := 20) hx hb hts hinX10 hown hK hP 0 rfl rfl 7 (by decide) fl173 (fun _ h9 => h9) rfl dX10_part_5 ?_
  refine lv_icmp_ge (tgt := 30) hx hb dX10_part_8 (by decide) (fun cc8 => ?_) (fun cc8 => ?_)
  · have hm := k_ip cc8 hm
    exact J_30 c_s c_laid c_spot c_isWrong _ _ hP hD hS _ (lv_sub hl [0, 1] rfl) hm
  · have hm := k_in cc8 hm
    refine lv_aload_n hx hb dX10_part_11 rfl (lv_at hl 0 rfl) ?_
    refine va_get (D := D) (ci := 6) (v := .int (k_b c_isWrong)) (C := RX10) (T := TX10) (N := 20) hx hb hts hinX10 hown hK hP 0 rfl rfl 11 (by decide) fl179 (fun _ h9 => h9) rfl dX10_part_12 ?_
    refine lv_if_ne (tgt := 30) hx hb dX10_part_15 (by decide) (fun cc15 => ?_) (fun cc15 => ?_)
    · have hm := k_in cc15 hm
      exact J_30 c_s c_laid c_spot c_isWrong _ _ hP hD hS _ (lv_sub hl [0, 1] rfl) hm
    · have hm := k_ip cc15 hm
      refine lv_aload_n hx hb dX10_part_18 rfl (lv_at hl 0 rfl) ?_
      refine va_get (D := D) (ci := 6) (v := .ref (ad 5)) (C := RX10) (T := TX10) (N := 20) hx hb hts hinX10 hown hK hP 0 rfl rfl 6 (by decide) fl22 (fun _ h9 => h9) rfl dX10_part_19 ?_
      refine lv_aload_n hx hb dX10_part_22 rfl (lv_at hl 0 rfl) ?_
      refine va_get (D := D) (ci := 6) (v := .int c_spot) (C := RX10) (T := TX10) (N := 20) hx hb hts hinX10 hown hK hP 0 rfl rfl 10 (by decide) fl176 (fun _ h9 => h9) rfl dX10_part_23 ?_
      obtain ⟨gi26, hm⟩ := k_gs hm
      refine va_iald hx hb hK hP 5 0 rfl rfl gi26 dX10_part_26 ?_
      refine lv_goto (tgt := 31) hx hb dX10_part_27 (by decide) ?_
      exact J_31 (c_buffer (Int32.toNatClampNeg c_spot)) c_s c_laid c_spot c_isWrong _ _ hP hD hS _ (lv_sub hl [0, 1] rfl) hm

