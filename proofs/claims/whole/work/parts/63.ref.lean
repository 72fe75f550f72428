abbrev rmX10_addsOne : Room := { frames := 3, cells := 0, slots := 0, locals := 71 }
set_option maxHeartbeats 4000000 in
set_option maxRecDepth 100000 in
theorem zX10_addsOne {l : Launch} {D : va_G} {cI cJ cC cG : ClassId} {sz : Nat} {ad : Nat → Nat} {c_s : Nat → Int32} {c_before : Nat → Int32} {c_known : Int32} {c_kept : Nat → Int32} {c_isKept : Bool} {c_aside : Nat → Int32} {c_buffer : Nat → Int32} {c_length : Int32} {c_thrown : Int32} {c_laid : Nat → Int32} {c_spot : Int32} {c_isWrong : Bool} {c_isHalted : Bool} {c_mine : Nat → Int64} {c_theirs : Nat → Int64} {c_many : Int32} {c_from0 : Nat → Int64} {c_from1 : Nat → Int64} {c_dice : Nat → Int32} {c_hash : Int64} {a1 : Int32} {c_s' : Nat → Int32} {c_laid' : Nat → Int32} {c_mine' : Nat → Int64} {c_theirs' : Nat → Int64} {c_many' : Int32} (hm : mX10_addsOne c_s c_laid c_mine c_theirs c_many a1 = some (c_s', c_laid', c_mine', c_theirs', c_many')) : k_Mv l yX10_addsOne wsX10_addsOne rmX10_addsOne D (kT cI cJ cC cG) sz ([.ref (ad 0), .int a1] : List Value) (wM cI cJ ad c_s c_before c_known c_kept c_isKept c_aside c_buffer c_length c_thrown c_laid c_spot c_isWrong c_isHalted c_mine c_theirs c_many c_from0 c_from1 c_dice c_hash) (wM cI cJ ad c_s' c_before c_known c_kept c_isKept c_aside c_buffer c_length c_thrown c_laid' c_spot c_isWrong c_isHalted c_mine' c_theirs' c_many' c_from0 c_from1 c_dice c_hash) := by
  refine k_st_v (cc := cX10_addsOne) (maxL := 5) (by decide) rfl (Nat.le_of_ble_eq_true rfl) ?_
  intro p e z m below meth c A hx hb hr hml hts hown hlocks hsz hN hA hK hP hD hS ls hl
  have hown : z.vm.findClass RX10 = some m.cls := hown
  have hinX10 : ∀ w ∈ wsX100, w ∈ wsX10_addsOne := by decide +kernel
  have fl7 := hts (.fieldLink RX10 7 "MagpieRunsModel" "s" "[I") (by decide +kernel)
  have hl : lv_has ls 5 [(0, .ref (ad 0)), (1, .int a1)] := hl
  have J_10 := k_loop (z := fun _ _ _ _ _ _ _ => none) (st := mX10_addsOne_10 a1) (fun k10 : (Int32) → (Int32) → (Nat → Int32) → (Nat → Int32) → (Nat → Int64) → (Nat → Int64) → (Int32) → Option ((Nat → Int32) × (Nat → Int32) × (Nat → Int64) × (Nat → Int64) × (Int32)) => ∀ (l2 : Int32) (l3 : Int32) (c_s : Nat → Int32) (c_laid : Nat → Int32) (c_mine : Nat → Int64) (c_theirs : Nat → Int64) (c_many : Int32) (H : Heap) (locs : List Loc), va_P D vwCl (wM cI cJ ad c_s c_before c_known c_kept c_isKept c_aside c_buffer c_length c_thrown c_laid c_spot c_isWrong c_isHalted c_mine c_theirs c_many c_from0 c_from1 c_dice c_hash) H → va_D A (wM cI cJ ad c_s c_before c_known c_kept c_isKept c_aside c_buffer c_length c_thrown c_laid c_spot c_isWrong c_isHalted c_mine c_theirs c_many c_from0 c_from1 c_dice c_hash) → va_S A z.heap H locs → ∀ ls : Array Slot, lv_has ls 5 [(0, .ref (ad 0)), (1, .int a1), (2, .int l2), (3, .int l3)] → k10 l2 l3 c_s c_laid c_mine c_theirs c_many = some (c_s', c_laid', c_mine', c_theirs', c_many') → W p l e rmX10_addsOne z m ([.ref (ad 0), .int a1] : List Value).toArray below meth c H locs 0 0 (k_Qv below ([.ref (ad 0), .int a1] : List Value) D (kT cI cJ cC cG) z A (wM cI cJ ad c_s' c_before c_known c_kept c_isKept c_aside c_buffer c_length c_thrown c_laid' c_spot c_isWrong c_isHalted c_mine' c_theirs' c_many' c_from0 c_from1 c_dice c_hash)) (F0 m 10 ls [])) (by intros; rename_i h; cases h) (by
    intro k10 ih10
    intro l2 l3 c_s c_laid c_mine c_theirs c_many H locs hP hD hS ls hl hm
    unfold mX10_addsOne_10 at hm
    refine lv_iload_n hx hb dX10_addsOne_10 rfl (lv_at hl 3 rfl) ?_
    refine lv_bipush (v := 16) hx hb dX10_addsOne_11 (by decide) ?_
    refine lv_icmp_ge (tgt := 55) hx hb dX10_addsOne_13 (by decide) (fun cc13 => ?_) (fun cc13 => ?_)
    · have hm := k_ip cc13 hm
      cases hm
      exact k_end_v hx hb hr hlocks hK hP hD hS dX10_addsOne_55
    · have hm := k_in cc13 hm
      refine lv_aload_n hx hb dX10_addsOne_16 rfl (lv_at hl 0 rfl) ?_
      refine lv_iload_n hx hb dX10_addsOne_17 rfl (lv_at hl 2 rfl) ?_
      refine lv_iload_n hx hb dX10_addsOne_18 rfl (lv_at hl 3 rfl) ?_
      refine lv_iload_n hx hb dX10_addsOne_19 rfl (lv_at hl 1 rfl) ?_
      obtain ⟨r1, hc20, hm⟩ := k_bds hm
      refine k_i_s (k_rV (As := [.int l2, .int l3, .int a1]) (rest := []) ⟨hx, hb, hml, hown, hts⟩ hK hN hP hD (zX10_refused hc20) (cwV 3 hts gX10_addsOne_X10_refused rfl rfl rfl (by decide +kernel) ⟨Nat.le_of_ble_eq_true rfl, Nat.le_of_ble_eq_true rfl⟩) rfl rfl rfl hl.1 rfl (Nat.le_of_ble_eq_true rfl) dX10_addsOne_20 ⟨Nat.zero_le _, Nat.zero_le _⟩) hD hS hA (fun H locs hP hD hS => ?_)
      refine lv_if_ne (tgt := 49) hx hb dX10_addsOne_23 (by decide) (fun cc23 => ?_) (fun cc23 => ?_)
      · have hm := k_in cc23 hm
        refine lv_iinc (v := (l3 + 1)) (lv' := [(3, .int (l3 + 1)), (0, .ref (ad 0)), (1, .int a1), (2, .int l2)]) hx hb dX10_addsOne_49 hl (k := 3) rfl rfl (by decide) rfl (fun ls hl => ?_)
        refine lv_goto (tgt := 10) hx hb dX10_addsOne_52 (by decide) ?_
        exact ih10 l2 (l3 + 1) c_s c_laid c_mine c_theirs c_many _ _ hP hD hS _ (lv_sub hl [1, 2, 3, 0] rfl) hm
      · have hm := k_ip cc23 hm
        refine lv_aload_n hx hb dX10_addsOne_26 rfl (lv_at hl 0 rfl) ?_
        refine lv_iconst (v := 0) hx hb dX10_addsOne_27 (by decide) ?_
        obtain ⟨w2, hc28, hm⟩ := k_bds hm
        refine k_v_s (k_rV (As := [.int 0]) (rest := []) ⟨hx, hb, hml, hown, hts⟩ hK hN hP hD (zX10_lays hc28) (cwV 1 hts gX10_addsOne_X10_lays rfl rfl rfl (by decide +kernel) ⟨Nat.le_of_ble_eq_true rfl, Nat.le_of_ble_eq_true rfl⟩) rfl rfl rfl hl.1 rfl (Nat.le_of_ble_eq_true rfl) dX10_addsOne_28 ⟨Nat.zero_le _, Nat.zero_le _⟩) hD hS hA (fun H locs hP hD hS => ?_)
        refine lv_aload_n hx hb dX10_addsOne_31 rfl (lv_at hl 0 rfl) ?_
        refine lv_iload_n hx hb dX10_addsOne_32 rfl (lv_at hl 2 rfl) ?_
        refine lv_iload_n hx hb dX10_addsOne_33 rfl (lv_at hl 3 rfl) ?_
        refine lv_iload_n hx hb dX10_addsOne_34 rfl (lv_at hl 1 rfl) ?_
        obtain ⟨r3, w4, hc35, hm⟩ := k_bd2s hm
        refine k_i_s (k_rV (As := [.int l2, .int l3, .int a1]) (rest := []) ⟨hx, hb, hml, hown, hts⟩ hK hN hP hD (zX10_moves hc35) (cwV 3 hts gX10_addsOne_X10_moves rfl rfl rfl (by decide +kernel) ⟨Nat.le_of_ble_eq_true rfl, Nat.le_of_ble_eq_true rfl⟩) rfl rfl rfl hl.1 rfl (Nat.le_of_ble_eq_true rfl) dX10_addsOne_35 ⟨Nat.zero_le _, Nat.zero_le _⟩) hD hS hA (fun H locs hP hD hS => ?_)
        refine lv_istore (lv' := [(4, .int (k_b r3)), (0, .ref (ad 0)), (1, .int a1), (2, .int l2), (3, .int l3)]) hx hb dX10_addsOne_38 hl (by decide) rfl (fun ls hl => ?_)
        refine lv_aload_n hx hb dX10_addsOne_40 rfl (lv_at hl 1 rfl) ?_
        obtain ⟨w5, w6, w7, hc41, hm⟩ := k_bd3s hm
        refine k_v_s (k_rV (As := []) (rest := []) ⟨hx, hb, hml, hown, hts⟩ hK hN hP hD (zX10_adds hc41) (cwV 0 hts gX10_addsOne_X10_adds rfl rfl rfl (by decide +kernel) ⟨Nat.le_of_ble_eq_true rfl, Nat.le_of_ble_eq_true rfl⟩) rfl rfl rfl hl.1 rfl (Nat.le_of_ble_eq_true rfl) dX10_addsOne_41 ⟨Nat.zero_le _, Nat.zero_le _⟩) hD hS hA (fun H locs hP hD hS => ?_)
        refine lv_aload_n hx hb dX10_addsOne_44 rfl (lv_at hl 1 rfl) ?_
        refine lv_iconst (v := 0) hx hb dX10_addsOne_45 (by decide) ?_
        obtain ⟨w8, hc46, hm⟩ := k_bds hm
        refine k_v_s (k_rV (As := [.int 0]) (rest := []) ⟨hx, hb, hml, hown, hts⟩ hK hN hP hD (zX10_takesUp hc46) (cwV 1 hts gX10_addsOne_X10_takesUp rfl rfl rfl (by decide +kernel) ⟨Nat.le_of_ble_eq_true rfl, Nat.le_of_ble_eq_true rfl⟩) rfl rfl rfl hl.1 rfl (Nat.le_of_ble_eq_true rfl) dX10_addsOne_46 ⟨Nat.zero_le _, Nat.zero_le _⟩) hD hS hA (fun H locs hP hD hS => ?_)
        refine lv_iinc (v := (l3 + 1)) (lv' := [(3, .int (l3 + 1)), (4, .int (k_b r3)), (0, .ref (ad 0)), (1, .int a1), (2, .int l2)]) hx hb dX10_addsOne_49 hl (k := 4) rfl rfl (by decide) rfl (fun ls hl => ?_)
        refine lv_goto (tgt := 10) hx hb dX10_addsOne_52 (by decide) ?_
        exact ih10 l2 (l3 + 1) w8 w2 w5 w6 w7 _ _ hP hD hS _ (lv_sub hl [2, 3, 4, 0] rfl) hm) k_F
  unfold mX10_addsOne at hm
  refine lv_aload_n hx hb dX10_addsOne_0 rfl (lv_at hl 0 rfl) ?_
  refine va_get (D := D) (ci := 6) (v := .ref (ad 1)) (C := RX10) (T := TX10) (N := 20) hx hb hts hinX10 hown hK hP 0 rfl rfl 0 (by decide) fl7 (fun _ h9 => h9) rfl dX10_addsOne_1 ?_
  refine lv_bipush (v := 36) hx hb dX10_addsOne_4 (by decide) ?_
  refine k_iaC hx hb hK hP 1 0 rfl rfl kl_36 ki_36_51 dX10_addsOne_6 ?_
  refine lv_istore_n (lv' := [(2, .int (c_s 36)), (0, .ref (ad 0)), (1, .int a1)]) hx hb dX10_addsOne_7 rfl hl (by decide) rfl (fun ls hl => ?_)
  refine lv_iconst (v := (-1)) hx hb dX10_addsOne_8 (by decide) ?_
  refine lv_istore_n (lv' := [(3, .int (-1)), (2, .int (c_s 36)), (0, .ref (ad 0)), (1, .int a1)]) hx hb dX10_addsOne_9 rfl hl (by decide) rfl (fun ls hl => ?_)
  exact J_10 (c_s 36) (-1) c_s c_laid c_mine c_theirs c_many _ _ hP hD hS _ (lv_sub hl [2, 3, 1, 0] rfl) hm

abbrev rmX10_likePlays : Room := { frames := 4, cells := 0, slots := 0, locals := 95 }
set_option maxHeartbeats 4000000 in
set_option maxRecDepth 100000 in
theorem zX10_likePlays {l : Launch} {D : va_G} {cI cJ cC cG : ClassId} {sz : Nat} {ad : Nat → Nat} {c_s : Nat → Int32} {c_before : Nat → Int32} {c_known : Int32} {c_kept : Nat → Int32} {c_isKept : Bool} {c_aside : Nat → Int32} {c_buffer : Nat → Int32} {c_length : Int32} {c_thrown : Int32} {c_laid : Nat → Int32} {c_spot : Int32} {c_isWrong : Bool} {c_isHalted : Bool} {c_mine : Nat → Int64} {c_theirs : Nat → Int64} {c_many : Int32} {c_from0 : Nat → Int64} {c_from1 : Nat → Int64} {c_dice : Nat → Int32} {c_hash : Int64} {a1 : Int32} {r : Int32} {c_s' : Nat → Int32} {c_aside' : Nat → Int32} {c_laid' : Nat → Int32} {c_mine' : Nat → Int64} {c_theirs' : Nat → Int64} {c_many' : Int32} {c_from0' : Nat → Int64} {c_from1' : Nat → Int64} (hm : mX10_likePlays c_s c_aside c_laid c_mine c_theirs c_many c_from0 c_from1 a1 = some (r, c_s', c_aside', c_laid', c_mine', c_theirs', c_many', c_from0', c_from1')) : k_Mi l yX10_likePlays wsX10_likePlays rmX10_likePlays D (kT cI cJ cC cG) sz ([.ref (ad 0), .int a1] : List Value) (wM cI cJ ad c_s c_before c_known c_kept c_isKept c_aside c_buffer c_length c_thrown c_laid c_spot c_isWrong c_isHalted c_mine c_theirs c_many c_from0 c_from1 c_dice c_hash) (wM cI cJ ad c_s' c_before c_known c_kept c_isKept c_aside' c_buffer c_length c_thrown c_laid' c_spot c_isWrong c_isHalted c_mine' c_theirs' c_many' c_from0' c_from1' c_dice c_hash) r := by
  refine k_st_i (cc := cX10_likePlays) (maxL := 5) (by decide) rfl (Nat.le_of_ble_eq_true rfl) ?_
  intro p e z m below meth c A hx hb hr hml hts hown hlocks hsz hN hA hK hP hD hS ls hl
  have hown : z.vm.findClass RX10 = some m.cls := hown
  have hinX10 : ∀ w ∈ wsX100, w ∈ wsX10_likePlays := by decide +kernel
  have fl7 := hts (.fieldLink RX10 7 "MagpieRunsModel" "s" "[I") (by decide +kernel)
  have fl19 := hts (.fieldLink RX10 19 "MagpieRunsModel" "aside" "[I") (by decide +kernel)
  have fl28 := hts (.fieldLink RX10 28 "MagpieRunsModel" "mine" "[J") (by decide +kernel)
  have fl32 := hts (.fieldLink RX10 32 "MagpieRunsModel" "theirs" "[J") (by decide +kernel)
  have fl35 := hts (.fieldLink RX10 35 "MagpieRunsModel" "from0" "[J") (by decide +kernel)
  have fl38 := hts (.fieldLink RX10 38 "MagpieRunsModel" "from1" "[J") (by decide +kernel)
  have fl221 := hts (.fieldLink RX10 221 "MagpieRunsModel" "many" "I") (by decide +kernel)
  have hl : lv_has ls 5 [(0, .ref (ad 0)), (1, .int a1)] := hl
  have J_148 := k_loop (z := fun _ _ _ _ _ _ _ _ _ => none) (st := mX10_likePlays_148 a1) (fun k148 : (Int32) → (Nat → Int32) → (Nat → Int32) → (Nat → Int32) → (Nat → Int64) → (Nat → Int64) → (Int32) → (Nat → Int64) → (Nat → Int64) → Option (Int32 × (Nat → Int32) × (Nat → Int32) × (Nat → Int32) × (Nat → Int64) × (Nat → Int64) × (Int32) × (Nat → Int64) × (Nat → Int64)) => ∀ (l2 : Int32) (c_s : Nat → Int32) (c_aside : Nat → Int32) (c_laid : Nat → Int32) (c_mine : Nat → Int64) (c_theirs : Nat → Int64) (c_many : Int32) (c_from0 : Nat → Int64) (c_from1 : Nat → Int64) (H : Heap) (locs : List Loc), va_P D vwCl (wM cI cJ ad c_s c_before c_known c_kept c_isKept c_aside c_buffer c_length c_thrown c_laid c_spot c_isWrong c_isHalted c_mine c_theirs c_many c_from0 c_from1 c_dice c_hash) H → va_D A (wM cI cJ ad c_s c_before c_known c_kept c_isKept c_aside c_buffer c_length c_thrown c_laid c_spot c_isWrong c_isHalted c_mine c_theirs c_many c_from0 c_from1 c_dice c_hash) → va_S A z.heap H locs → ∀ ls : Array Slot, lv_has ls 5 [(0, .ref (ad 0)), (2, .int l2)] → k148 l2 c_s c_aside c_laid c_mine c_theirs c_many c_from0 c_from1 = some (r, c_s', c_aside', c_laid', c_mine', c_theirs', c_many', c_from0', c_from1') → W p l e rmX10_likePlays z m ([.ref (ad 0), .int a1] : List Value).toArray below meth c H locs 0 0 (k_Qi below ([.ref (ad 0), .int a1] : List Value) D (kT cI cJ cC cG) z A (wM cI cJ ad c_s' c_before c_known c_kept c_isKept c_aside' c_buffer c_length c_thrown c_laid' c_spot c_isWrong c_isHalted c_mine' c_theirs' c_many' c_from0' c_from1' c_dice c_hash) r) (F0 m 148 ls [])) (by intros; rename_i h; cases h) (by
    intro k148 ih148
    intro l2 c_s c_aside c_laid c_mine c_theirs c_many c_from0 c_from1 H locs hP hD hS ls hl hm
    unfold mX10_likePlays_148 at hm
    refine lv_iload_n hx hb dX10_likePlays_148 rfl (lv_at hl 1 rfl) ?_
    refine lv_bipush (v := 36) hx hb dX10_likePlays_149 (by decide) ?_
    refine lv_icmp_ge (tgt := 172) hx hb dX10_likePlays_151 (by decide) (fun cc151 => ?_) (fun cc151 => ?_)
    · have hm := k_ip cc151 hm
      refine lv_aload_n hx hb dX10_likePlays_172 rfl (lv_at hl 0 rfl) ?_
      refine va_get (D := D) (ci := 6) (v := .int c_many) (C := RX10) (T := TX10) (N := 20) hx hb hts hinX10 hown hK hP 0 rfl rfl 15 (by decide) fl221 (fun _ h9 => h9) rfl dX10_likePlays_173 ?_
      cases hm
      exact k_end_i hx hb hr hlocks hK hP hD hS dX10_likePlays_176
    · have hm := k_in cc151 hm
      refine lv_aload_n hx hb dX10_likePlays_154 rfl (lv_at hl 0 rfl) ?_
      refine va_get (D := D) (ci := 6) (v := .ref (ad 1)) (C := RX10) (T := TX10) (N := 20) hx hb hts hinX10 hown hK hP 0 rfl rfl 0 (by decide) fl7 (fun _ h9 => h9) rfl dX10_likePlays_155 ?_
      refine lv_iload_n hx hb dX10_likePlays_158 rfl (lv_at hl 1 rfl) ?_
      refine lv_aload_n hx hb dX10_likePlays_159 rfl (lv_at hl 0 rfl) ?_
      refine va_get (D := D) (ci := 6) (v := .ref (ad 4)) (C := RX10) (T := TX10) (N := 20) hx hb hts hinX10 hown hK hP 0 rfl rfl 5 (by decide) fl19 (fun _ h9 => h9) rfl dX10_likePlays_160 ?_
      refine lv_iload_n hx hb dX10_likePlays_163 rfl (lv_at hl 1 rfl) ?_
      obtain ⟨gi164, hm⟩ := k_gs hm
      refine va_iald hx hb hK hP 4 0 rfl rfl gi164 dX10_likePlays_164 ?_
      obtain ⟨gi165, hm⟩ := k_gs hm
      refine va_iast hx hb hK hP hD hS 1 0 rfl rfl gi165 dX10_likePlays_165 (fun H locs hP hD hS => ?_)
      have hP : va_P D vwCl (wM cI cJ ad (upd c_s (Int32.toNatClampNeg l2) (c_aside (Int32.toNatClampNeg l2))) c_before c_known c_kept c_isKept c_aside c_buffer c_length c_thrown c_laid c_spot c_isWrong c_isHalted c_mine c_theirs c_many c_from0 c_from1 c_dice c_hash) H := hP
      have hD : va_D A (wM cI cJ ad (upd c_s (Int32.toNatClampNeg l2) (c_aside (Int32.toNatClampNeg l2))) c_before c_known c_kept c_isKept c_aside c_buffer c_length c_thrown c_laid c_spot c_isWrong c_isHalted c_mine c_theirs c_many c_from0 c_from1 c_dice c_hash) := hD
      refine lv_iinc (v := (l2 + 1)) (lv' := [(2, .int (l2 + 1)), (0, .ref (ad 0))]) hx hb dX10_likePlays_166 hl (k := 1) rfl rfl (by decide) rfl (fun ls hl => ?_)
      refine lv_goto (tgt := 148) hx hb dX10_likePlays_169 (by decide) ?_
      exact ih148 (l2 + 1) (upd c_s (Int32.toNatClampNeg l2) (c_aside (Int32.toNatClampNeg l2))) c_aside c_laid c_mine c_theirs c_many c_from0 c_from1 _ _ hP hD hS _ (lv_sub hl [1, 0] rfl) hm) k_F
  have J_32 := k_loop (z := fun _ _ _ _ _ _ _ _ _ => none) (st := mX10_likePlays_32 a1) (fun k32 : (Int32) → (Nat → Int32) → (Nat → Int32) → (Nat → Int32) → (Nat → Int64) → (Nat → Int64) → (Int32) → (Nat → Int64) → (Nat → Int64) → Option (Int32 × (Nat → Int32) × (Nat → Int32) × (Nat → Int32) × (Nat → Int64) × (Nat → Int64) × (Int32) × (Nat → Int64) × (Nat → Int64)) => ∀ (l2 : Int32) (c_s : Nat → Int32) (c_aside : Nat → Int32) (c_laid : Nat → Int32) (c_mine : Nat → Int64) (c_theirs : Nat → Int64) (c_many : Int32) (c_from0 : Nat → Int64) (c_from1 : Nat → Int64) (H : Heap) (locs : List Loc), va_P D vwCl (wM cI cJ ad c_s c_before c_known c_kept c_isKept c_aside c_buffer c_length c_thrown c_laid c_spot c_isWrong c_isHalted c_mine c_theirs c_many c_from0 c_from1 c_dice c_hash) H → va_D A (wM cI cJ ad c_s c_before c_known c_kept c_isKept c_aside c_buffer c_length c_thrown c_laid c_spot c_isWrong c_isHalted c_mine c_theirs c_many c_from0 c_from1 c_dice c_hash) → va_S A z.heap H locs → ∀ ls : Array Slot, lv_has ls 5 [(0, .ref (ad 0)), (1, .int a1), (2, .int l2)] → k32 l2 c_s c_aside c_laid c_mine c_theirs c_many c_from0 c_from1 = some (r, c_s', c_aside', c_laid', c_mine', c_theirs', c_many', c_from0', c_from1') → W p l e rmX10_likePlays z m ([.ref (ad 0), .int a1] : List Value).toArray below meth c H locs 0 0 (k_Qi below ([.ref (ad 0), .int a1] : List Value) D (kT cI cJ cC cG) z A (wM cI cJ ad c_s' c_before c_known c_kept c_isKept c_aside' c_buffer c_length c_thrown c_laid' c_spot c_isWrong c_isHalted c_mine' c_theirs' c_many' c_from0' c_from1' c_dice c_hash) r) (F0 m 32 ls [])) (by intros; rename_i h; cases h) (by
    intro k32 ih32
    have J_93 := k_loop (z := fun _ _ _ _ _ _ _ _ _ _ _ => none) (st := mX10_likePlays_93 a1 k32) (fun k93 : (Int32) → (Int32) → (Int32) → (Nat → Int32) → (Nat → Int32) → (Nat → Int32) → (Nat → Int64) → (Nat → Int64) → (Int32) → (Nat → Int64) → (Nat → Int64) → Option (Int32 × (Nat → Int32) × (Nat → Int32) × (Nat → Int32) × (Nat → Int64) × (Nat → Int64) × (Int32) × (Nat → Int64) × (Nat → Int64)) => ∀ (l2 : Int32) (l3 : Int32) (l4 : Int32) (c_s : Nat → Int32) (c_aside : Nat → Int32) (c_laid : Nat → Int32) (c_mine : Nat → Int64) (c_theirs : Nat → Int64) (c_many : Int32) (c_from0 : Nat → Int64) (c_from1 : Nat → Int64) (H : Heap) (locs : List Loc), va_P D vwCl (wM cI cJ ad c_s c_before c_known c_kept c_isKept c_aside c_buffer c_length c_thrown c_laid c_spot c_isWrong c_isHalted c_mine c_theirs c_many c_from0 c_from1 c_dice c_hash) H → va_D A (wM cI cJ ad c_s c_before c_known c_kept c_isKept c_aside c_buffer c_length c_thrown c_laid c_spot c_isWrong c_isHalted c_mine c_theirs c_many c_from0 c_from1 c_dice c_hash) → va_S A z.heap H locs → ∀ ls : Array Slot, lv_has ls 5 [(0, .ref (ad 0)), (1, .int a1), (2, .int l2), (3, .int l3), (4, .int l4)] → k93 l2 l3 l4 c_s c_aside c_laid c_mine c_theirs c_many c_from0 c_from1 = some (r, c_s', c_aside', c_laid', c_mine', c_theirs', c_many', c_from0', c_from1') → W p l e rmX10_likePlays z m ([.ref (ad 0), .int a1] : List Value).toArray below meth c H locs 0 0 (k_Qi below ([.ref (ad 0), .int a1] : List Value) D (kT cI cJ cC cG) z A (wM cI cJ ad c_s' c_before c_known c_kept c_isKept c_aside' c_buffer c_length c_thrown c_laid' c_spot c_isWrong c_isHalted c_mine' c_theirs' c_many' c_from0' c_from1' c_dice c_hash) r) (F0 m 93 ls [])) (by intros; rename_i h; cases h) (by
      intro k93 ih93
      intro l2 l3 l4 c_s c_aside c_laid c_mine c_theirs c_many c_from0 c_from1 H locs hP hD hS ls hl hm
      unfold mX10_likePlays_93 at hm
      refine lv_iload hx hb dX10_likePlays_93 (lv_at hl 4 rfl) ?_
      refine lv_iload_n hx hb dX10_likePlays_95 rfl (lv_at hl 3 rfl) ?_
      refine lv_icmp_ge (tgt := 140) hx hb dX10_likePlays_96 (by decide) (fun cc96 => ?_) (fun cc96 => ?_)
      · have hm := k_ip cc96 hm
        refine lv_iinc (v := (l2 + 1)) (lv' := [(2, .int (l2 + 1)), (0, .ref (ad 0)), (1, .int a1), (3, .int l3), (4, .int l4)]) hx hb dX10_likePlays_140 hl (k := 2) rfl rfl (by decide) rfl (fun ls hl => ?_)
        refine lv_goto (tgt := 32) hx hb dX10_likePlays_143 (by decide) ?_
        exact ih32 (l2 + 1) c_s c_aside c_laid c_mine c_theirs c_many c_from0 c_from1 _ _ hP hD hS _ (lv_sub hl [1, 2, 0] rfl) hm
      · have hm := k_in cc96 hm
        refine lv_aload_n hx hb dX10_likePlays_99 rfl (lv_at hl 0 rfl) ?_
        refine lv_iconst (v := 0) hx hb dX10_likePlays_100 (by decide) ?_
        refine lv_aload_n hx hb dX10_likePlays_101 rfl (lv_at hl 0 rfl) ?_
        refine va_get (D := D) (ci := 6) (v := .ref (ad 9)) (C := RX10) (T := TX10) (N := 20) hx hb hts hinX10 hown hK hP 0 rfl rfl 16 (by decide) fl35 (fun _ h9 => h9) rfl dX10_likePlays_102 ?_
        refine lv_iload hx hb dX10_likePlays_105 (lv_at hl 4 rfl) ?_
        obtain ⟨gi107, hm⟩ := k_gs hm
        refine va_lald hx hb hK hP 9 1 rfl rfl gi107 dX10_likePlays_107 ?_
        obtain ⟨w1, hc108, hm⟩ := k_bds hm
        refine k_v_s (k_rV (As := [.int 0, .long (c_from0 (Int32.toNatClampNeg l4))]) (rest := []) ⟨hx, hb, hml, hown, hts⟩ hK hN hP hD (zX10_stands hc108) (cwV 2 hts gX10_likePlays_X10_stands rfl rfl rfl (by decide +kernel) ⟨Nat.le_of_ble_eq_true rfl, Nat.le_of_ble_eq_true rfl⟩) rfl rfl rfl hl.1 rfl (Nat.le_of_ble_eq_true rfl) dX10_likePlays_108 ⟨Nat.zero_le _, Nat.zero_le _⟩) hD hS hA (fun H locs hP hD hS => ?_)
        refine lv_aload_n hx hb dX10_likePlays_111 rfl (lv_at hl 0 rfl) ?_
        refine lv_iconst (v := 1) hx hb dX10_likePlays_112 (by decide) ?_
        refine lv_aload_n hx hb dX10_likePlays_113 rfl (lv_at hl 0 rfl) ?_
        refine va_get (D := D) (ci := 6) (v := .ref (ad 10)) (C := RX10) (T := TX10) (N := 20) hx hb hts hinX10 hown hK hP 0 rfl rfl 17 (by decide) fl38 (fun _ h9 => h9) rfl dX10_likePlays_114 ?_
        refine lv_iload hx hb dX10_likePlays_117 (lv_at hl 4 rfl) ?_
        obtain ⟨gi119, hm⟩ := k_gs hm
        refine va_lald hx hb hK hP 10 1 rfl rfl gi119 dX10_likePlays_119 ?_
        obtain ⟨w2, hc120, hm⟩ := k_bds hm
        refine k_v_s (k_rV (As := [.int 1, .long (c_from1 (Int32.toNatClampNeg l4))]) (rest := []) ⟨hx, hb, hml, hown, hts⟩ hK hN hP hD (zX10_stands hc120) (cwV 2 hts gX10_likePlays_X10_stands rfl rfl rfl (by decide +kernel) ⟨Nat.le_of_ble_eq_true rfl, Nat.le_of_ble_eq_true rfl⟩) rfl rfl rfl hl.1 rfl (Nat.le_of_ble_eq_true rfl) dX10_likePlays_120 ⟨Nat.zero_le _, Nat.zero_le _⟩) hD hS hA (fun H locs hP hD hS => ?_)
        refine lv_aload_n hx hb dX10_likePlays_123 rfl (lv_at hl 0 rfl) ?_
        refine lv_aload_n hx hb dX10_likePlays_124 rfl (lv_at hl 0 rfl) ?_
        refine va_get (D := D) (ci := 6) (v := .ref (ad 1)) (C := RX10) (T := TX10) (N := 20) hx hb hts hinX10 hown hK hP 0 rfl rfl 0 (by decide) fl7 (fun _ h9 => h9) rfl dX10_likePlays_125 ?_
        refine lv_bipush (v := 39) hx hb dX10_likePlays_128 (by decide) ?_
        refine k_iaC hx hb hK hP 1 0 rfl rfl kl_39 ki_39_51 dX10_likePlays_130 ?_
        obtain ⟨w3, w4, w5, w6, w7, hc131, hm⟩ := k_bd5s hm
        refine k_v_s (k_rV (As := [.int (w2 39)]) (rest := []) ⟨hx, hb, hml, hown, hts⟩ hK hN hP hD (zX10_addsOne hc131) (cwV 1 hts gX10_likePlays_X10_addsOne rfl rfl rfl (by decide +kernel) ⟨Nat.le_of_ble_eq_true rfl, Nat.le_of_ble_eq_true rfl⟩) rfl rfl rfl hl.1 rfl (Nat.le_of_ble_eq_true rfl) dX10_likePlays_131 ⟨Nat.zero_le _, Nat.zero_le _⟩) hD hS hA (fun H locs hP hD hS => ?_)
        refine lv_iinc (v := (l4 + 1)) (lv' := [(4, .int (l4 + 1)), (0, .ref (ad 0)), (1, .int a1), (2, .int l2), (3, .int l3)]) hx hb dX10_likePlays_134 hl (k := 4) rfl rfl (by decide) rfl (fun ls hl => ?_)
        refine lv_goto (tgt := 93) hx hb dX10_likePlays_137 (by decide) ?_
        exact ih93 l2 l3 (l4 + 1) w3 c_aside w4 w5 w6 w7 c_from0 c_from1 _ _ hP hD hS _ (lv_sub hl [1, 2, 3, 4, 0] rfl) hm) k_F
    have J_45 := k_loop (z := fun _ _ _ _ _ _ _ _ _ _ _ => none) (st := mX10_likePlays_45 a1 k32) (fun k45 : (Int32) → (Int32) → (Int32) → (Nat → Int32) → (Nat → Int32) → (Nat → Int32) → (Nat → Int64) → (Nat → Int64) → (Int32) → (Nat → Int64) → (Nat → Int64) → Option (Int32 × (Nat → Int32) × (Nat → Int32) × (Nat → Int32) × (Nat → Int64) × (Nat → Int64) × (Int32) × (Nat → Int64) × (Nat → Int64)) => ∀ (l2 : Int32) (l3 : Int32) (l4 : Int32) (c_s : Nat → Int32) (c_aside : Nat → Int32) (c_laid : Nat → Int32) (c_mine : Nat → Int64) (c_theirs : Nat → Int64) (c_many : Int32) (c_from0 : Nat → Int64) (c_from1 : Nat → Int64) (H : Heap) (locs : List Loc), va_P D vwCl (wM cI cJ ad c_s c_before c_known c_kept c_isKept c_aside c_buffer c_length c_thrown c_laid c_spot c_isWrong c_isHalted c_mine c_theirs c_many c_from0 c_from1 c_dice c_hash) H → va_D A (wM cI cJ ad c_s c_before c_known c_kept c_isKept c_aside c_buffer c_length c_thrown c_laid c_spot c_isWrong c_isHalted c_mine c_theirs c_many c_from0 c_from1 c_dice c_hash) → va_S A z.heap H locs → ∀ ls : Array Slot, lv_has ls 5 [(0, .ref (ad 0)), (1, .int a1), (2, .int l2), (3, .int l3), (4, .int l4)] → k45 l2 l3 l4 c_s c_aside c_laid c_mine c_theirs c_many c_from0 c_from1 = some (r, c_s', c_aside', c_laid', c_mine', c_theirs', c_many', c_from0', c_from1') → W p l e rmX10_likePlays z m ([.ref (ad 0), .int a1] : List Value).toArray below meth c H locs 0 0 (k_Qi below ([.ref (ad 0), .int a1] : List Value) D (kT cI cJ cC cG) z A (wM cI cJ ad c_s' c_before c_known c_kept c_isKept c_aside' c_buffer c_length c_thrown c_laid' c_spot c_isWrong c_isHalted c_mine' c_theirs' c_many' c_from0' c_from1' c_dice c_hash) r) (F0 m 45 ls [])) (by intros; rename_i h; cases h) (by
      intro k45 ih45
      intro l2 l3 l4 c_s c_aside c_laid c_mine c_theirs c_many c_from0 c_from1 H locs hP hD hS ls hl hm
      unfold mX10_likePlays_45 at hm
      refine lv_iload hx hb dX10_likePlays_45 (lv_at hl 4 rfl) ?_
      refine lv_iload_n hx hb dX10_likePlays_47 rfl (lv_at hl 3 rfl) ?_
      refine lv_icmp_ge (tgt := 85) hx hb dX10_likePlays_48 (by decide) (fun cc48 => ?_) (fun cc48 => ?_)
      · have hm := k_ip cc48 hm
        refine lv_aload_n hx hb dX10_likePlays_85 rfl (lv_at hl 0 rfl) ?_
        refine lv_iconst (v := 0) hx hb dX10_likePlays_86 (by decide) ?_
        refine va_put (D := D) (ci := 6) (v := .int 0) (ty := .int) (C := RX10) (T := TX10) (N := 20) hx hb hts hinX10 tyX10 tyX10_ok nmX10 hown hK hP hD hS 0 rfl rfl 15 (by decide) fl221 (fun _ h9 => h9) rfl (by decide +kernel) rfl rfl (Nat.le_of_ble_eq_true rfl) dX10_likePlays_87 (fun H locs hP hD hS => ?_)
        have hP : va_P D vwCl (wM cI cJ ad c_s c_before c_known c_kept c_isKept c_aside c_buffer c_length c_thrown c_laid c_spot c_isWrong c_isHalted c_mine c_theirs 0 c_from0 c_from1 c_dice c_hash) H := hP
        have hD : va_D A (wM cI cJ ad c_s c_before c_known c_kept c_isKept c_aside c_buffer c_length c_thrown c_laid c_spot c_isWrong c_isHalted c_mine c_theirs 0 c_from0 c_from1 c_dice c_hash) := hD
        refine lv_iconst (v := 0) hx hb dX10_likePlays_90 (by decide) ?_
        refine lv_istore (lv' := [(4, .int 0), (0, .ref (ad 0)), (1, .int a1), (2, .int l2), (3, .int l3)]) hx hb dX10_likePlays_91 hl (by decide) rfl (fun ls hl => ?_)
        exact J_93 l2 l3 0 c_s c_aside c_laid c_mine c_theirs 0 c_from0 c_from1 _ _ hP hD hS _ (lv_sub hl [1, 2, 3, 4, 0] rfl) hm
      · have hm := k_in cc48 hm
        refine lv_aload_n hx hb dX10_likePlays_51 rfl (lv_at hl 0 rfl) ?_
        refine va_get (D := D) (ci := 6) (v := .ref (ad 9)) (C := RX10) (T := TX10) (N := 20) hx hb hts hinX10 hown hK hP 0 rfl rfl 16 (by decide) fl35 (fun _ h9 => h9) rfl dX10_likePlays_52 ?_
        refine lv_iload hx hb dX10_likePlays_55 (lv_at hl 4 rfl) ?_
        refine lv_aload_n hx hb dX10_likePlays_57 rfl (lv_at hl 0 rfl) ?_
        refine va_get (D := D) (ci := 6) (v := .ref (ad 7)) (C := RX10) (T := TX10) (N := 20) hx hb hts hinX10 hown hK hP 0 rfl rfl 13 (by decide) fl28 (fun _ h9 => h9) rfl dX10_likePlays_58 ?_
        refine lv_iload hx hb dX10_likePlays_61 (lv_at hl 4 rfl) ?_
        obtain ⟨gi63, hm⟩ := k_gs hm
        refine va_lald hx hb hK hP 7 1 rfl rfl gi63 dX10_likePlays_63 ?_
        obtain ⟨gi64, hm⟩ := k_gs hm
        refine va_last hx hb hK hP hD hS 9 1 rfl rfl gi64 dX10_likePlays_64 (fun H locs hP hD hS => ?_)
        have hP : va_P D vwCl (wM cI cJ ad c_s c_before c_known c_kept c_isKept c_aside c_buffer c_length c_thrown c_laid c_spot c_isWrong c_isHalted c_mine c_theirs c_many (vp_updL c_from0 (Int32.toNatClampNeg l4) (c_mine (Int32.toNatClampNeg l4))) c_from1 c_dice c_hash) H := hP
        have hD : va_D A (wM cI cJ ad c_s c_before c_known c_kept c_isKept c_aside c_buffer c_length c_thrown c_laid c_spot c_isWrong c_isHalted c_mine c_theirs c_many (vp_updL c_from0 (Int32.toNatClampNeg l4) (c_mine (Int32.toNatClampNeg l4))) c_from1 c_dice c_hash) := hD
        refine lv_aload_n hx hb dX10_likePlays_65 rfl (lv_at hl 0 rfl) ?_
        refine va_get (D := D) (ci := 6) (v := .ref (ad 10)) (C := RX10) (T := TX10) (N := 20) hx hb hts hinX10 hown hK hP 0 rfl rfl 17 (by decide) fl38 (fun _ h9 => h9) rfl dX10_likePlays_66 ?_
        refine lv_iload hx hb dX10_likePlays_69 (lv_at hl 4 rfl) ?_
        refine lv_aload_n hx hb dX10_likePlays_71 rfl (lv_at hl 0 rfl) ?_
        refine va_get (D := D) (ci := 6) (v := .ref (ad 8)) (C := RX10) (T := TX10) (N := 20) hx hb hts hinX10 hown hK hP 0 rfl rfl 14 (by decide) fl32 (fun _ h9 => h9) rfl dX10_likePlays_72 ?_
        refine lv_iload hx hb dX10_likePlays_75 (lv_at hl 4 rfl) ?_
        obtain ⟨gi77, hm⟩ := k_gs hm
        refine va_lald hx hb hK hP 8 1 rfl rfl gi77 dX10_likePlays_77 ?_
        obtain ⟨gi78, hm⟩ := k_gs hm
        refine va_last hx hb hK hP hD hS 10 1 rfl rfl gi78 dX10_likePlays_78 (fun H locs hP hD hS => ?_)
        have hP : va_P D vwCl (wM cI cJ ad c_s c_before c_known c_kept c_isKept c_aside c_buffer c_length c_thrown c_laid c_spot c_isWrong c_isHalted c_mine c_theirs c_many (vp_updL c_from0 (Int32.toNatClampNeg l4) (c_mine (Int32.toNatClampNeg l4))) (vp_updL c_from1 (Int32.toNatClampNeg l4) (c_theirs (Int32.toNatClampNeg l4))) c_dice c_hash) H := hP
        have hD : va_D A (wM cI cJ ad c_s c_before c_known c_kept c_isKept c_aside c_buffer c_length c_thrown c_laid c_spot c_isWrong c_isHalted c_mine c_theirs c_many (vp_updL c_from0 (Int32.toNatClampNeg l4) (c_mine (Int32.toNatClampNeg l4))) (vp_updL c_from1 (Int32.toNatClampNeg l4) (c_theirs (Int32.toNatClampNeg l4))) c_dice c_hash) := hD
        refine lv_iinc (v := (l4 + 1)) (lv' := [(4, .int (l4 + 1)), (0, .ref (ad 0)), (1, .int a1), (2, .int l2), (3, .int l3)]) hx hb dX10_likePlays_79 hl (k := 4) rfl rfl (by decide) rfl (fun ls hl => ?_)
        refine lv_goto (tgt := 45) hx hb dX10_likePlays_82 (by decide) ?_
        exact ih45 l2 l3 (l4 + 1) c_s c_aside c_laid c_mine c_theirs c_many (vp_updL c_from0 (Int32.toNatClampNeg l4) (c_mine (Int32.toNatClampNeg l4))) (vp_updL c_from1 (Int32.toNatClampNeg l4) (c_theirs (Int32.toNatClampNeg l4))) _ _ hP hD hS _ (lv_sub hl [1, 2, 3, 4, 0] rfl) hm) k_F
    intro l2 c_s c_aside c_laid c_mine c_theirs c_many c_from0 c_from1 H locs hP hD hS ls hl hm
    unfold mX10_likePlays_32 at hm
    refine lv_iload_n hx hb dX10_likePlays_32 rfl (lv_at hl 2 rfl) ?_
    refine lv_iload_n hx hb dX10_likePlays_33 rfl (lv_at hl 1 rfl) ?_
    refine lv_icmp_ge (tgt := 146) hx hb dX10_likePlays_34 (by decide) (fun cc34 => ?_) (fun cc34 => ?_)
    · have hm := k_ip cc34 hm
      refine lv_iconst (v := 0) hx hb dX10_likePlays_146 (by decide) ?_
      refine lv_istore_n (lv' := [(2, .int 0), (0, .ref (ad 0)), (1, .int a1)]) hx hb dX10_likePlays_147 rfl hl (by decide) rfl (fun ls hl => ?_)
      exact J_148 0 c_s c_aside c_laid c_mine c_theirs c_many c_from0 c_from1 _ _ hP hD hS _ (lv_sub hl [1, 0] rfl) hm
    · have hm := k_in cc34 hm
      refine lv_aload_n hx hb dX10_likePlays_37 rfl (lv_at hl 0 rfl) ?_
      refine va_get (D := D) (ci := 6) (v := .int c_many) (C := RX10) (T := TX10) (N := 20) hx hb hts hinX10 hown hK hP 0 rfl rfl 15 (by decide) fl221 (fun _ h9 => h9) rfl dX10_likePlays_38 ?_
      refine lv_istore_n (lv' := [(3, .int c_many), (0, .ref (ad 0)), (1, .int a1), (2, .int l2)]) hx hb dX10_likePlays_41 rfl hl (by decide) rfl (fun ls hl => ?_)
      refine lv_iconst (v := 0) hx hb dX10_likePlays_42 (by decide) ?_
      refine lv_istore (lv' := [(4, .int 0), (3, .int c_many), (0, .ref (ad 0)), (1, .int a1), (2, .int l2)]) hx hb dX10_likePlays_43 hl (by decide) rfl (fun ls hl => ?_)
      exact J_45 l2 c_many 0 c_s c_aside c_laid c_mine c_theirs c_many c_from0 c_from1 _ _ hP hD hS _ (lv_sub hl [2, 3, 4, 1, 0] rfl) hm) k_F
  have J_2 := k_loop (z := fun _ _ _ _ _ _ _ _ _ => none) (st := mX10_likePlays_2 a1) (fun k2 : (Int32) → (Nat → Int32) → (Nat → Int32) → (Nat → Int32) → (Nat → Int64) → (Nat → Int64) → (Int32) → (Nat → Int64) → (Nat → Int64) → Option (Int32 × (Nat → Int32) × (Nat → Int32) × (Nat → Int32) × (Nat → Int64) × (Nat → Int64) × (Int32) × (Nat → Int64) × (Nat → Int64)) => ∀ (l2 : Int32) (c_s : Nat → Int32) (c_aside : Nat → Int32) (c_laid : Nat → Int32) (c_mine : Nat → Int64) (c_theirs : Nat → Int64) (c_many : Int32) (c_from0 : Nat → Int64) (c_from1 : Nat → Int64) (H : Heap) (locs : List Loc), va_P D vwCl (wM cI cJ ad c_s c_before c_known c_kept c_isKept c_aside c_buffer c_length c_thrown c_laid c_spot c_isWrong c_isHalted c_mine c_theirs c_many c_from0 c_from1 c_dice c_hash) H → va_D A (wM cI cJ ad c_s c_before c_known c_kept c_isKept c_aside c_buffer c_length c_thrown c_laid c_spot c_isWrong c_isHalted c_mine c_theirs c_many c_from0 c_from1 c_dice c_hash) → va_S A z.heap H locs → ∀ ls : Array Slot, lv_has ls 5 [(0, .ref (ad 0)), (1, .int a1), (2, .int l2)] → k2 l2 c_s c_aside c_laid c_mine c_theirs c_many c_from0 c_from1 = some (r, c_s', c_aside', c_laid', c_mine', c_theirs', c_many', c_from0', c_from1') → W p l e rmX10_likePlays z m ([.ref (ad 0), .int a1] : List Value).toArray below meth c H locs 0 0 (k_Qi below ([.ref (ad 0), .int a1] : List Value) D (kT cI cJ cC cG) z A (wM cI cJ ad c_s' c_before c_known c_kept c_isKept c_aside' c_buffer c_length c_thrown c_laid' c_spot c_isWrong c_isHalted c_mine' c_theirs' c_many' c_from0' c_from1' c_dice c_hash) r) (F0 m 2 ls [])) (by intros; rename_i h; cases h) (by
    intro k2 ih2
    intro l2 c_s c_aside c_laid c_mine c_theirs c_many c_from0 c_from1 H locs hP hD hS ls hl hm
    unfold mX10_likePlays_2 at hm
    refine lv_iload_n hx hb dX10_likePlays_2 rfl (lv_at hl 2 rfl) ?_
    refine lv_bipush (v := 36) hx hb dX10_likePlays_3 (by decide) ?_
    refine lv_icmp_ge (tgt := 26) hx hb dX10_likePlays_5 (by decide) (fun cc5 => ?_) (fun cc5 => ?_)
    · have hm := k_ip cc5 hm
      refine lv_aload_n hx hb dX10_likePlays_26 rfl (lv_at hl 0 rfl) ?_
      obtain ⟨w8, w9, w10, hc27, hm⟩ := k_bd3s hm
      refine k_v_s (k_rV (As := []) (rest := []) ⟨hx, hb, hml, hown, hts⟩ hK hN hP hD (zX10_adds hc27) (cwV 0 hts gX10_likePlays_X10_adds rfl rfl rfl (by decide +kernel) ⟨Nat.le_of_ble_eq_true rfl, Nat.le_of_ble_eq_true rfl⟩) rfl rfl rfl hl.1 rfl (Nat.le_of_ble_eq_true rfl) dX10_likePlays_27 ⟨Nat.zero_le _, Nat.zero_le _⟩) hD hS hA (fun H locs hP hD hS => ?_)
      refine lv_iconst (v := 0) hx hb dX10_likePlays_30 (by decide) ?_
      refine lv_istore_n (lv' := [(2, .int 0), (0, .ref (ad 0)), (1, .int a1)]) hx hb dX10_likePlays_31 rfl hl (by decide) rfl (fun ls hl => ?_)
      exact J_32 0 c_s c_aside c_laid w8 w9 w10 c_from0 c_from1 _ _ hP hD hS _ (lv_sub hl [1, 2, 0] rfl) hm
    · have hm := k_in cc5 hm
      refine lv_aload_n hx hb dX10_likePlays_8 rfl (lv_at hl 0 rfl) ?_
      refine va_get (D := D) (ci := 6) (v := .ref (ad 4)) (C := RX10) (T := TX10) (N := 20) hx hb hts hinX10 hown hK hP 0 rfl rfl 5 (by decide) fl19 (fun _ h9 => h9) rfl dX10_likePlays_9 ?_
      refine lv_iload_n hx hb dX10_likePlays_12 rfl (lv_at hl 2 rfl) ?_
      refine lv_aload_n hx hb dX10_likePlays_13 rfl (lv_at hl 0 rfl) ?_
      refine va_get (D := D) (ci := 6) (v := .ref (ad 1)) (C := RX10) (T := TX10) (N := 20) hx hb hts hinX10 hown hK hP 0 rfl rfl 0 (by decide) fl7 (fun _ h9 => h9) rfl dX10_likePlays_14 ?_
      refine lv_iload_n hx hb dX10_likePlays_17 rfl (lv_at hl 2 rfl) ?_
      obtain ⟨gi18, hm⟩ := k_gs hm
      refine va_iald hx hb hK hP 1 0 rfl rfl gi18 dX10_likePlays_18 ?_
      obtain ⟨gi19, hm⟩ := k_gs hm
      refine va_iast hx hb hK hP hD hS 4 0 rfl rfl gi19 dX10_likePlays_19 (fun H locs hP hD hS => ?_)
      have hP : va_P D vwCl (wM cI cJ ad c_s c_before c_known c_kept c_isKept (upd c_aside (Int32.toNatClampNeg l2) (c_s (Int32.toNatClampNeg l2))) c_buffer c_length c_thrown c_laid c_spot c_isWrong c_isHalted c_mine c_theirs c_many c_from0 c_from1 c_dice c_hash) H := hP
      have hD : va_D A (wM cI cJ ad c_s c_before c_known c_kept c_isKept (upd c_aside (Int32.toNatClampNeg l2) (c_s (Int32.toNatClampNeg l2))) c_buffer c_length c_thrown c_laid c_spot c_isWrong c_isHalted c_mine c_theirs c_many c_from0 c_from1 c_dice c_hash) := hD
      refine lv_iinc (v := (l2 + 1)) (lv' := [(2, .int (l2 + 1)), (0, .ref (ad 0)), (1, .int a1)]) hx hb dX10_likePlays_20 hl (k := 2) rfl rfl (by decide) rfl (fun ls hl => ?_)
      refine lv_goto (tgt := 2) hx hb dX10_likePlays_23 (by decide) ?_
      exact ih2 (l2 + 1) c_s (upd c_aside (Int32.toNatClampNeg l2) (c_s (Int32.toNatClampNeg l2))) c_laid c_mine c_theirs c_many c_from0 c_from1 _ _ hP hD hS _ (lv_sub hl [1, 2, 0] rfl) hm) k_F
  unfold mX10_likePlays at hm
  refine lv_iconst (v := 0) hx hb dX10_likePlays_0 (by decide) ?_
  refine lv_istore_n (lv' := [(2, .int 0), (0, .ref (ad 0)), (1, .int a1)]) hx hb dX10_likePlays_1 rfl hl (by decide) rfl (fun ls hl => ?_)
  exact J_2 0 c_s c_aside c_laid c_mine c_theirs c_many c_from0 c_from1 _ _ hP hD hS _ (lv_sub hl [1, 2, 0] rfl) hm

abbrev rmX10_allPlays : Room := { frames := 7, cells := 0, slots := 0, locals := 168 }
set_option maxHeartbeats 4000000 in
set_option maxRecDepth 100000 in
theorem zX10_allPlays {l : Launch} {D : va_G} {cI cJ cC cG : ClassId} {sz : Nat} {ad : Nat → Nat} {c_s : Nat → Int32} {c_before : Nat → Int32} {c_known : Int32} {c_kept : Nat → Int32} {c_isKept : Bool} {c_aside : Nat → Int32} {c_buffer : Nat → Int32} {c_length : Int32} {c_thrown : Int32} {c_laid : Nat → Int32} {c_spot : Int32} {c_isWrong : Bool} {c_isHalted : Bool} {c_mine : Nat → Int64} {c_theirs : Nat → Int64} {c_many : Int32} {c_from0 : Nat → Int64} {c_from1 : Nat → Int64} {c_dice : Nat → Int32} {c_hash : Int64} {r : Int32} {c_s' : Nat → Int32} {c_aside' : Nat → Int32} {c_laid' : Nat → Int32} {c_mine' : Nat → Int64} {c_theirs' : Nat → Int64} {c_many' : Int32} {c_from0' : Nat → Int64} {c_from1' : Nat → Int64} (hm : mX10_allPlays c_s c_aside c_laid c_mine c_theirs c_many c_from0 c_from1 = some (r, c_s', c_aside', c_laid', c_mine', c_theirs', c_many', c_from0', c_from1')) : k_Mi l yX10_allPlays wsX10_allPlays rmX10_allPlays D (kT cI cJ cC cG) sz ([.ref (ad 0)] : List Value) (wM cI cJ ad c_s c_before c_known c_kept c_isKept c_aside c_buffer c_length c_thrown c_laid c_spot c_isWrong c_isHalted c_mine c_theirs c_many c_from0 c_from1 c_dice c_hash) (wM cI cJ ad c_s' c_before c_known c_kept c_isKept c_aside' c_buffer c_length c_thrown c_laid' c_spot c_isWrong c_isHalted c_mine' c_theirs' c_many' c_from0' c_from1' c_dice c_hash) r := by
  refine k_st_i (cc := cX10_allPlays) (maxL := 4) (by decide) rfl (Nat.le_of_ble_eq_true rfl) ?_
  intro p e z m below meth c A hx hb hr hml hts hown hlocks hsz hN hA hK hP hD hS ls hl
  have hown : z.vm.findClass RX10 = some m.cls := hown
  have hinX10 : ∀ w ∈ wsX100, w ∈ wsX10_allPlays := by decide +kernel
  have fl7 := hts (.fieldLink RX10 7 "MagpieRunsModel" "s" "[I") (by decide +kernel)
  have fl221 := hts (.fieldLink RX10 221 "MagpieRunsModel" "many" "I") (by decide +kernel)
  have hl : lv_has ls 4 [(0, .ref (ad 0))] := hl
  have J_120 : ∀ (c_s : Nat → Int32) (c_aside : Nat → Int32) (c_laid : Nat → Int32) (c_mine : Nat → Int64) (c_theirs : Nat → Int64) (c_many : Int32) (c_from0 : Nat → Int64) (c_from1 : Nat → Int64) (H : Heap) (locs : List Loc), va_P D vwCl (wM cI cJ ad c_s c_before c_known c_kept c_isKept c_aside c_buffer c_length c_thrown c_laid c_spot c_isWrong c_isHalted c_mine c_theirs c_many c_from0 c_from1 c_dice c_hash) H → va_D A (wM cI cJ ad c_s c_before c_known c_kept c_isKept c_aside c_buffer c_length c_thrown c_laid c_spot c_isWrong c_isHalted c_mine c_theirs c_many c_from0 c_from1 c_dice c_hash) → va_S A z.heap H locs → ∀ ls : Array Slot, lv_has ls 4 [(0, .ref (ad 0))] → mX10_allPlays_120 c_s c_aside c_laid c_mine c_theirs c_many c_from0 c_from1 = some (r, c_s', c_aside', c_laid', c_mine', c_theirs', c_many', c_from0', c_from1') → W p l e rmX10_allPlays z m ([.ref (ad 0)] : List Value).toArray below meth c H locs 0 0 (k_Qi below ([.ref (ad 0)] : List Value) D (kT cI cJ cC cG) z A (wM cI cJ ad c_s' c_before c_known c_kept c_isKept c_aside' c_buffer c_length c_thrown c_laid' c_spot c_isWrong c_isHalted c_mine' c_theirs' c_many' c_from0' c_from1' c_dice c_hash) r) (F0 m 120 ls []) := by
    intro c_s c_aside c_laid c_mine c_theirs c_many c_from0 c_from1 H locs hP hD hS ls hl hm
    unfold mX10_allPlays_120 at hm
    refine lv_aload_n hx hb dX10_allPlays_120 rfl (lv_at hl 0 rfl) ?_
    refine va_get (D := D) (ci := 6) (v := .int c_many) (C := RX10) (T := TX10) (N := 20) hx hb hts hinX10 hown hK hP 0 rfl rfl 15 (by decide) fl221 (fun _ h9 => h9) rfl dX10_allPlays_121 ?_
    cases hm
    exact k_end_i hx hb hr hlocks hK hP hD hS dX10_allPlays_124
  have J_117 : ∀ (t0 : Int32) (c_s : Nat → Int32) (c_aside : Nat → Int32) (c_laid : Nat → Int32) (c_mine : Nat → Int64) (c_theirs : Nat → Int64) (c_many : Int32) (c_from0 : Nat → Int64) (c_from1 : Nat → Int64) (H : Heap) (locs : List Loc), va_P D vwCl (wM cI cJ ad c_s c_before c_known c_kept c_isKept c_aside c_buffer c_length c_thrown c_laid c_spot c_isWrong c_isHalted c_mine c_theirs c_many c_from0 c_from1 c_dice c_hash) H → va_D A (wM cI cJ ad c_s c_before c_known c_kept c_isKept c_aside c_buffer c_length c_thrown c_laid c_spot c_isWrong c_isHalted c_mine c_theirs c_many c_from0 c_from1 c_dice c_hash) → va_S A z.heap H locs → ∀ ls : Array Slot, lv_has ls 4 [(0, .ref (ad 0))] → mX10_allPlays_117 t0 c_s c_aside c_laid c_mine c_theirs c_many c_from0 c_from1 = some (r, c_s', c_aside', c_laid', c_mine', c_theirs', c_many', c_from0', c_from1') → W p l e rmX10_allPlays z m ([.ref (ad 0)] : List Value).toArray below meth c H locs 0 0 (k_Qi below ([.ref (ad 0)] : List Value) D (kT cI cJ cC cG) z A (wM cI cJ ad c_s' c_before c_known c_kept c_isKept c_aside' c_buffer c_length c_thrown c_laid' c_spot c_isWrong c_isHalted c_mine' c_theirs' c_many' c_from0' c_from1' c_dice c_hash) r) (F0 m 117 ls [.int t0, .ref (ad 0)]) := by
    intro t0 c_s c_aside c_laid c_mine c_theirs c_many c_from0 c_from1 H locs hP hD hS ls hl hm
    unfold mX10_allPlays_117 at hm
    obtain ⟨w1, w2, w3, w4, w5, hc117, hm⟩ := k_bd5s hm
    refine k_v_s (k_rV (As := [.int t0]) (rest := []) ⟨hx, hb, hml, hown, hts⟩ hK hN hP hD (zX10_addsOne hc117) (cwV 1 hts gX10_allPlays_X10_addsOne rfl rfl rfl (by decide +kernel) ⟨Nat.le_of_ble_eq_true rfl, Nat.le_of_ble_eq_true rfl⟩) rfl rfl rfl hl.1 rfl (Nat.le_of_ble_eq_true rfl) dX10_allPlays_117 ⟨Nat.zero_le _, Nat.zero_le _⟩) hD hS hA (fun H locs hP hD hS => ?_)
    exact J_120 w1 c_aside w2 w3 w4 w5 c_from0 c_from1 _ _ hP hD hS _ (lv_sub hl [0] rfl) hm
  have J_57 : ∀ (t0 : Int32) (l1 : Int32) (c_s : Nat → Int32) (c_aside : Nat → Int32) (c_laid : Nat → Int32) (c_mine : Nat → Int64) (c_theirs : Nat → Int64) (c_many : Int32) (c_from0 : Nat → Int64) (c_from1 : Nat → Int64) (H : Heap) (locs : List Loc), va_P D vwCl (wM cI cJ ad c_s c_before c_known c_kept c_isKept c_aside c_buffer c_length c_thrown c_laid c_spot c_isWrong c_isHalted c_mine c_theirs c_many c_from0 c_from1 c_dice c_hash) H → va_D A (wM cI cJ ad c_s c_before c_known c_kept c_isKept c_aside c_buffer c_length c_thrown c_laid c_spot c_isWrong c_isHalted c_mine c_theirs c_many c_from0 c_from1 c_dice c_hash) → va_S A z.heap H locs → ∀ ls : Array Slot, lv_has ls 4 [(0, .ref (ad 0)), (1, .int l1)] → mX10_allPlays_57 t0 l1 c_s c_aside c_laid c_mine c_theirs c_many c_from0 c_from1 = some (r, c_s', c_aside', c_laid', c_mine', c_theirs', c_many', c_from0', c_from1') → W p l e rmX10_allPlays z m ([.ref (ad 0)] : List Value).toArray below meth c H locs 0 0 (k_Qi below ([.ref (ad 0)] : List Value) D (kT cI cJ cC cG) z A (wM cI cJ ad c_s' c_before c_known c_kept c_isKept c_aside' c_buffer c_length c_thrown c_laid' c_spot c_isWrong c_isHalted c_mine' c_theirs' c_many' c_from0' c_from1' c_dice c_hash) r) (F0 m 57 ls [.int t0]) := by
    intro t0 l1 c_s c_aside c_laid c_mine c_theirs c_many c_from0 c_from1 H locs hP hD hS ls hl hm
    unfold mX10_allPlays_57 at hm
    refine lv_istore_n (lv' := [(2, .int t0), (0, .ref (ad 0)), (1, .int l1)]) hx hb dX10_allPlays_57 rfl hl (by decide) rfl (fun ls hl => ?_)
    refine lv_aload_n hx hb dX10_allPlays_58 rfl (lv_at hl 1 rfl) ?_
    refine va_get (D := D) (ci := 6) (v := .ref (ad 1)) (C := RX10) (T := TX10) (N := 20) hx hb hts hinX10 hown hK hP 0 rfl rfl 0 (by decide) fl7 (fun _ h9 => h9) rfl dX10_allPlays_59 ?_
    refine lv_bipush (v := 39) hx hb dX10_allPlays_62 (by decide) ?_
    refine k_iaC hx hb hK hP 1 0 rfl rfl kl_39 ki_39_51 dX10_allPlays_64 ?_
    refine lv_aload_n hx hb dX10_allPlays_65 rfl (lv_at hl 1 rfl) ?_
    refine va_get (D := D) (ci := 6) (v := .ref (ad 1)) (C := RX10) (T := TX10) (N := 20) hx hb hts hinX10 hown hK hP 0 rfl rfl 0 (by decide) fl7 (fun _ h9 => h9) rfl dX10_allPlays_66 ?_
    refine lv_bipush (v := 40) hx hb dX10_allPlays_69 (by decide) ?_
    refine k_iaC hx hb hK hP 1 0 rfl rfl kl_40 ki_40_51 dX10_allPlays_71 ?_
    refine lv_iadd hx hb dX10_allPlays_72 ?_
    refine lv_iload_n hx hb dX10_allPlays_73 rfl (lv_at hl 0 rfl) ?_
    refine lv_isub hx hb dX10_allPlays_74 ?_
    refine lv_istore_n (lv' := [(3, .int (((c_s 39) + (c_s 40)) - t0)), (2, .int t0), (0, .ref (ad 0)), (1, .int l1)]) hx hb dX10_allPlays_75 rfl hl (by decide) rfl (fun ls hl => ?_)
    refine lv_iload_n hx hb dX10_allPlays_76 rfl (lv_at hl 3 rfl) ?_
    refine lv_iconst (v := 2) hx hb dX10_allPlays_77 (by decide) ?_
    refine lv_icmp_ne (tgt := 96) hx hb dX10_allPlays_78 (by decide) (fun cc78 => ?_) (fun cc78 => ?_)
    · have hm := k_in cc78 hm
      refine lv_aload_n hx hb dX10_allPlays_96 rfl (lv_at hl 2 rfl) ?_
      refine lv_aload_n hx hb dX10_allPlays_97 rfl (lv_at hl 2 rfl) ?_
      refine lv_aload_n hx hb dX10_allPlays_98 rfl (lv_at hl 2 rfl) ?_
      refine va_get (D := D) (ci := 6) (v := .ref (ad 1)) (C := RX10) (T := TX10) (N := 20) hx hb hts hinX10 hown hK hP 0 rfl rfl 0 (by decide) fl7 (fun _ h9 => h9) rfl dX10_allPlays_99 ?_
      refine lv_bipush (v := 36) hx hb dX10_allPlays_102 (by decide) ?_
      refine k_iaC hx hb hK hP 1 0 rfl rfl kl_36 ki_36_51 dX10_allPlays_104 ?_
      refine lv_iload_n hx hb dX10_allPlays_105 rfl (lv_at hl 1 rfl) ?_
      obtain ⟨r6, hc106, hm⟩ := k_bds hm
      refine k_i_s (k_rV (As := [.int (c_s 36), .int t0]) (rest := [.ref (ad 0)]) ⟨hx, hb, hml, hown, hts⟩ hK hN hP hD (zX10_isAny hc106) (cwV 2 hts gX10_allPlays_X10_isAny rfl rfl rfl (by decide +kernel) ⟨Nat.le_of_ble_eq_true rfl, Nat.le_of_ble_eq_true rfl⟩) rfl rfl rfl hl.1 rfl (Nat.le_of_ble_eq_true rfl) dX10_allPlays_106 ⟨Nat.zero_le _, Nat.zero_le _⟩) hD hS hA (fun H locs hP hD hS => ?_)
      refine lv_if_eq (tgt := 116) hx hb dX10_allPlays_109 (by decide) (fun cc109 => ?_) (fun cc109 => ?_)
      · have hm := k_ip cc109 hm
        refine lv_iload_n hx hb dX10_allPlays_116 rfl (lv_at hl 0 rfl) ?_
        exact J_117 (((c_s 39) + (c_s 40)) - t0) c_s c_aside c_laid c_mine c_theirs c_many c_from0 c_from1 _ _ hP hD hS _ (lv_sub hl [2] rfl) hm
      · have hm := k_in cc109 hm
        refine lv_iload_n hx hb dX10_allPlays_112 rfl (lv_at hl 1 rfl) ?_
        refine lv_goto (tgt := 117) hx hb dX10_allPlays_113 (by decide) ?_
        exact J_117 t0 c_s c_aside c_laid c_mine c_theirs c_many c_from0 c_from1 _ _ hP hD hS _ (lv_sub hl [2] rfl) hm
    · have hm := k_ip cc78 hm
      refine lv_aload_n hx hb dX10_allPlays_81 rfl (lv_at hl 2 rfl) ?_
      refine lv_iload_n hx hb dX10_allPlays_82 rfl (lv_at hl 1 rfl) ?_
      refine lv_iload_n hx hb dX10_allPlays_83 rfl (lv_at hl 0 rfl) ?_
      obtain ⟨w7, w8, w9, w10, w11, hc84, hm⟩ := k_bd5s hm
      refine k_v_s (k_rV (As := [.int t0, .int (((c_s 39) + (c_s 40)) - t0)]) (rest := []) ⟨hx, hb, hml, hown, hts⟩ hK hN hP hD (zX10_addsBoth hc84) (cwV 2 hts gX10_allPlays_X10_addsBoth rfl rfl rfl (by decide +kernel) ⟨Nat.le_of_ble_eq_true rfl, Nat.le_of_ble_eq_true rfl⟩) rfl rfl rfl hl.1 rfl (Nat.le_of_ble_eq_true rfl) dX10_allPlays_84 ⟨Nat.zero_le _, Nat.zero_le _⟩) hD hS hA (fun H locs hP hD hS => ?_)
      refine lv_aload_n hx hb dX10_allPlays_87 rfl (lv_at hl 2 rfl) ?_
      refine lv_iload_n hx hb dX10_allPlays_88 rfl (lv_at hl 0 rfl) ?_
      refine lv_iload_n hx hb dX10_allPlays_89 rfl (lv_at hl 1 rfl) ?_
      obtain ⟨w12, w13, w14, w15, w16, hc90, hm⟩ := k_bd5s hm
      refine k_v_s (k_rV (As := [.int (((c_s 39) + (c_s 40)) - t0), .int t0]) (rest := []) ⟨hx, hb, hml, hown, hts⟩ hK hN hP hD (zX10_addsBoth hc90) (cwV 2 hts gX10_allPlays_X10_addsBoth rfl rfl rfl (by decide +kernel) ⟨Nat.le_of_ble_eq_true rfl, Nat.le_of_ble_eq_true rfl⟩) rfl rfl rfl hl.1 rfl (Nat.le_of_ble_eq_true rfl) dX10_allPlays_90 ⟨Nat.zero_le _, Nat.zero_le _⟩) hD hS hA (fun H locs hP hD hS => ?_)
      refine lv_goto (tgt := 120) hx hb dX10_allPlays_93 (by decide) ?_
      exact J_120 w12 c_aside w13 w14 w15 w16 c_from0 c_from1 _ _ hP hD hS _ (lv_sub hl [2] rfl) hm
  unfold mX10_allPlays at hm
  refine lv_aload_n hx hb dX10_allPlays_0 rfl (lv_at hl 0 rfl) ?_
  refine lv_iconst (v := 0) hx hb dX10_allPlays_1 (by decide) ?_
  refine va_put (D := D) (ci := 6) (v := .int 0) (ty := .int) (C := RX10) (T := TX10) (N := 20) hx hb hts hinX10 tyX10 tyX10_ok nmX10 hown hK hP hD hS 0 rfl rfl 15 (by decide) fl221 (fun _ h9 => h9) rfl (by decide +kernel) rfl rfl (Nat.le_of_ble_eq_true rfl) dX10_allPlays_2 (fun H locs hP hD hS => ?_)
  have hP : va_P D vwCl (wM cI cJ ad c_s c_before c_known c_kept c_isKept c_aside c_buffer c_length c_thrown c_laid c_spot c_isWrong c_isHalted c_mine c_theirs 0 c_from0 c_from1 c_dice c_hash) H := hP
  have hD : va_D A (wM cI cJ ad c_s c_before c_known c_kept c_isKept c_aside c_buffer c_length c_thrown c_laid c_spot c_isWrong c_isHalted c_mine c_theirs 0 c_from0 c_from1 c_dice c_hash) := hD
  refine lv_aload_n hx hb dX10_allPlays_5 rfl (lv_at hl 0 rfl) ?_
  obtain ⟨r17, w18, w19, hc6, hm⟩ := k_bd3s hm
  refine k_i_s (k_rV (As := []) (rest := []) ⟨hx, hb, hml, hown, hts⟩ hK hN hP hD (zX10_reaches hc6) (cwV 0 hts gX10_allPlays_X10_reaches rfl rfl rfl (by decide +kernel) ⟨Nat.le_of_ble_eq_true rfl, Nat.le_of_ble_eq_true rfl⟩) rfl rfl rfl hl.1 rfl (Nat.le_of_ble_eq_true rfl) dX10_allPlays_6 ⟨Nat.zero_le _, Nat.zero_le _⟩) hD hS hA (fun H locs hP hD hS => ?_)
  refine lv_istore_n (lv' := [(1, .int r17), (0, .ref (ad 0))]) hx hb dX10_allPlays_9 rfl hl (by decide) rfl (fun ls hl => ?_)
  refine lv_iload_n hx hb dX10_allPlays_10 rfl (lv_at hl 0 rfl) ?_
  refine lv_if_ne (tgt := 16) hx hb dX10_allPlays_11 (by decide) (fun cc11 => ?_) (fun cc11 => ?_)
  · have hm := k_in cc11 hm
    refine lv_aload_n hx hb dX10_allPlays_16 rfl (lv_at hl 1 rfl) ?_
    obtain ⟨r20, hc17, hm⟩ := k_bds hm
    refine k_i_s (k_rV (As := []) (rest := []) ⟨hx, hb, hml, hown, hts⟩ hK hN hP hD (zX10_areUnlike hc17) (cwV 0 hts gX10_allPlays_X10_areUnlike rfl rfl rfl (by decide +kernel) ⟨Nat.le_of_ble_eq_true rfl, Nat.le_of_ble_eq_true rfl⟩) rfl rfl rfl hl.1 rfl (Nat.le_of_ble_eq_true rfl) dX10_allPlays_17 ⟨Nat.zero_le _, Nat.zero_le _⟩) hD hS hA (fun H locs hP hD hS => ?_)
    refine lv_if_eq (tgt := 125) hx hb dX10_allPlays_20 (by decide) (fun cc20 => ?_) (fun cc20 => ?_)
    · have hm := k_ip cc20 hm
      refine lv_aload_n hx hb dX10_allPlays_125 rfl (lv_at hl 1 rfl) ?_
      refine lv_iload_n hx hb dX10_allPlays_126 rfl (lv_at hl 0 rfl) ?_
      obtain ⟨r21, w22, w23, w24, w25, w26, w27, w28, w29, hc127, hm⟩ := k_bd9s hm
      refine k_i_s (k_rV (As := [.int r17]) (rest := []) ⟨hx, hb, hml, hown, hts⟩ hK hN hP hD (zX10_likePlays hc127) (cwV 1 hts gX10_allPlays_X10_likePlays rfl rfl rfl (by decide +kernel) ⟨Nat.le_of_ble_eq_true rfl, Nat.le_of_ble_eq_true rfl⟩) rfl rfl rfl hl.1 rfl (Nat.le_of_ble_eq_true rfl) dX10_allPlays_127 ⟨Nat.zero_le _, Nat.zero_le _⟩) hD hS hA (fun H locs hP hD hS => ?_)
      cases hm
      exact k_end_i hx hb hr hlocks hK hP hD hS dX10_allPlays_130
    · have hm := k_in cc20 hm
      refine lv_aload_n hx hb dX10_allPlays_23 rfl (lv_at hl 1 rfl) ?_
      refine va_get (D := D) (ci := 6) (v := .ref (ad 1)) (C := RX10) (T := TX10) (N := 20) hx hb hts hinX10 hown hK hP 0 rfl rfl 0 (by decide) fl7 (fun _ h9 => h9) rfl dX10_allPlays_24 ?_
      refine lv_bipush (v := 39) hx hb dX10_allPlays_27 (by decide) ?_
      refine k_iaC hx hb hK hP 1 0 rfl rfl kl_39 ki_39_51 dX10_allPlays_29 ?_
      refine lv_aload_n hx hb dX10_allPlays_30 rfl (lv_at hl 1 rfl) ?_
      refine va_get (D := D) (ci := 6) (v := .ref (ad 1)) (C := RX10) (T := TX10) (N := 20) hx hb hts hinX10 hown hK hP 0 rfl rfl 0 (by decide) fl7 (fun _ h9 => h9) rfl dX10_allPlays_31 ?_
      refine lv_bipush (v := 40) hx hb dX10_allPlays_34 (by decide) ?_
      refine k_iaC hx hb hK hP 1 0 rfl rfl kl_40 ki_40_51 dX10_allPlays_36 ?_
      refine lv_icmp_le (tgt := 50) hx hb dX10_allPlays_37 (by decide) (fun cc37 => ?_) (fun cc37 => ?_)
      · have hm := k_ip cc37 hm
        refine lv_aload_n hx hb dX10_allPlays_50 rfl (lv_at hl 1 rfl) ?_
        refine va_get (D := D) (ci := 6) (v := .ref (ad 1)) (C := RX10) (T := TX10) (N := 20) hx hb hts hinX10 hown hK hP 0 rfl rfl 0 (by decide) fl7 (fun _ h9 => h9) rfl dX10_allPlays_51 ?_
        refine lv_bipush (v := 40) hx hb dX10_allPlays_54 (by decide) ?_
        refine k_iaC hx hb hK hP 1 0 rfl rfl kl_40 ki_40_51 dX10_allPlays_56 ?_
        exact J_57 (w18 40) r17 w18 c_aside w19 c_mine c_theirs 0 c_from0 c_from1 _ _ hP hD hS _ (lv_sub hl [1, 0] rfl) hm
      · have hm := k_in cc37 hm
        refine lv_aload_n hx hb dX10_allPlays_40 rfl (lv_at hl 1 rfl) ?_
        refine va_get (D := D) (ci := 6) (v := .ref (ad 1)) (C := RX10) (T := TX10) (N := 20) hx hb hts hinX10 hown hK hP 0 rfl rfl 0 (by decide) fl7 (fun _ h9 => h9) rfl dX10_allPlays_41 ?_
        refine lv_bipush (v := 39) hx hb dX10_allPlays_44 (by decide) ?_
        refine k_iaC hx hb hK hP 1 0 rfl rfl kl_39 ki_39_51 dX10_allPlays_46 ?_
        refine lv_goto (tgt := 57) hx hb dX10_allPlays_47 (by decide) ?_
        exact J_57 (w18 39) r17 w18 c_aside w19 c_mine c_theirs 0 c_from0 c_from1 _ _ hP hD hS _ (lv_sub hl [1, 0] rfl) hm
  · have hm := k_ip cc11 hm
    refine lv_iconst (v := 1) hx hb dX10_allPlays_14 (by decide) ?_
    cases hm
    exact k_end_i hx hb hr hlocks hK hP hD hS dX10_allPlays_15

abbrev rmX10_plays : Room := { frames := 8, cells := 0, slots := 0, locals := 191 }
set_option maxHeartbeats 4000000 in
set_option maxRecDepth 100000 in
theorem zX10_plays {l : Launch} {D : va_G} {cI cJ cC cG : ClassId} {sz : Nat} {ad : Nat → Nat} {c_s : Nat → Int32} {c_before : Nat → Int32} {c_known : Int32} {c_kept : Nat → Int32} {c_isKept : Bool} {c_aside : Nat → Int32} {c_buffer : Nat → Int32} {c_length : Int32} {c_thrown : Int32} {c_laid : Nat → Int32} {c_spot : Int32} {c_isWrong : Bool} {c_isHalted : Bool} {c_mine : Nat → Int64} {c_theirs : Nat → Int64} {c_many : Int32} {c_from0 : Nat → Int64} {c_from1 : Nat → Int64} {c_dice : Nat → Int32} {c_hash : Int64} {r : Int32} {c_s' : Nat → Int32} {c_aside' : Nat → Int32} {c_thrown' : Int32} {c_laid' : Nat → Int32} {c_mine' : Nat → Int64} {c_theirs' : Nat → Int64} {c_many' : Int32} {c_from0' : Nat → Int64} {c_from1' : Nat → Int64} (hm : mX10_plays c_s c_aside c_thrown c_laid c_mine c_theirs c_many c_from0 c_from1 = some (r, c_s', c_aside', c_thrown', c_laid', c_mine', c_theirs', c_many', c_from0', c_from1')) : k_Mi l yX10_plays wsX10_plays rmX10_plays D (kT cI cJ cC cG) sz ([.ref (ad 0)] : List Value) (wM cI cJ ad c_s c_before c_known c_kept c_isKept c_aside c_buffer c_length c_thrown c_laid c_spot c_isWrong c_isHalted c_mine c_theirs c_many c_from0 c_from1 c_dice c_hash) (wM cI cJ ad c_s' c_before c_known c_kept c_isKept c_aside' c_buffer c_length c_thrown' c_laid' c_spot c_isWrong c_isHalted c_mine' c_theirs' c_many' c_from0' c_from1' c_dice c_hash) r := by
  refine k_st_i (cc := cX10_plays) (maxL := 1) (by decide) rfl (Nat.le_of_ble_eq_true rfl) ?_
  intro p e z m below meth c A hx hb hr hml hts hown hlocks hsz hN hA hK hP hD hS ls hl
  have hown : z.vm.findClass RX10 = some m.cls := hown
  have hinX10 : ∀ w ∈ wsX100, w ∈ wsX10_plays := by decide +kernel
  have fl48 := hts (.fieldLink RX10 48 "MagpieRunsModel" "thrown" "I") (by decide +kernel)
  have hl : lv_has ls 1 [(0, .ref (ad 0))] := hl
  unfold mX10_plays at hm
  refine lv_aload_n hx hb dX10_plays_0 rfl (lv_at hl 0 rfl) ?_
  refine lv_iconst (v := 0) hx hb dX10_plays_1 (by decide) ?_
  refine va_put (D := D) (ci := 6) (v := .int 0) (ty := .int) (C := RX10) (T := TX10) (N := 20) hx hb hts hinX10 tyX10 tyX10_ok nmX10 hown hK hP hD hS 0 rfl rfl 8 (by decide) fl48 (fun _ h9 => h9) rfl (by decide +kernel) rfl rfl (Nat.le_of_ble_eq_true rfl) dX10_plays_2 (fun H locs hP hD hS => ?_)
  have hP : va_P D vwCl (wM cI cJ ad c_s c_before c_known c_kept c_isKept c_aside c_buffer c_length 0 c_laid c_spot c_isWrong c_isHalted c_mine c_theirs c_many c_from0 c_from1 c_dice c_hash) H := hP
  have hD : va_D A (wM cI cJ ad c_s c_before c_known c_kept c_isKept c_aside c_buffer c_length 0 c_laid c_spot c_isWrong c_isHalted c_mine c_theirs c_many c_from0 c_from1 c_dice c_hash) := hD
  refine lv_aload_n hx hb dX10_plays_5 rfl (lv_at hl 0 rfl) ?_
  obtain ⟨r1, w2, w3, w4, w5, w6, w7, w8, w9, hc6, hm⟩ := k_bd9s hm
  refine k_i_s (k_rV (As := []) (rest := []) ⟨hx, hb, hml, hown, hts⟩ hK hN hP hD (zX10_allPlays hc6) (cwV 0 hts gX10_plays_X10_allPlays rfl rfl rfl (by decide +kernel) ⟨Nat.le_of_ble_eq_true rfl, Nat.le_of_ble_eq_true rfl⟩) rfl rfl rfl hl.1 rfl (Nat.le_of_ble_eq_true rfl) dX10_plays_6 ⟨Nat.zero_le _, Nat.zero_le _⟩) hD hS hA (fun H locs hP hD hS => ?_)
  cases hm
  exact k_end_i hx hb hr hlocks hK hP hD hS dX10_plays_9

abbrev rmX10_playsByOrders : Room := { frames := 8, cells := 0, slots := 0, locals := 191 }
set_option maxHeartbeats 4000000 in
set_option maxRecDepth 100000 in
theorem zX10_playsByOrders {l : Launch} {D : va_G} {cI cJ cC cG : ClassId} {sz : Nat} {ad : Nat → Nat} {c_s : Nat → Int32} {c_before : Nat → Int32} {c_known : Int32} {c_kept : Nat → Int32} {c_isKept : Bool} {c_aside : Nat → Int32} {c_buffer : Nat → Int32} {c_length : Int32} {c_thrown : Int32} {c_laid : Nat → Int32} {c_spot : Int32} {c_isWrong : Bool} {c_isHalted : Bool} {c_mine : Nat → Int64} {c_theirs : Nat → Int64} {c_many : Int32} {c_from0 : Nat → Int64} {c_from1 : Nat → Int64} {c_dice : Nat → Int32} {c_hash : Int64} {r : Int32} {c_s' : Nat → Int32} {c_aside' : Nat → Int32} {c_thrown' : Int32} {c_laid' : Nat → Int32} {c_mine' : Nat → Int64} {c_theirs' : Nat → Int64} {c_many' : Int32} {c_from0' : Nat → Int64} {c_from1' : Nat → Int64} (hm : mX10_playsByOrders c_s c_aside c_thrown c_laid c_mine c_theirs c_many c_from0 c_from1 = some (r, c_s', c_aside', c_thrown', c_laid', c_mine', c_theirs', c_many', c_from0', c_from1')) : k_Mi l yX10_playsByOrders wsX10_playsByOrders rmX10_playsByOrders D (kT cI cJ cC cG) sz ([.ref (ad 0)] : List Value) (wM cI cJ ad c_s c_before c_known c_kept c_isKept c_aside c_buffer c_length c_thrown c_laid c_spot c_isWrong c_isHalted c_mine c_theirs c_many c_from0 c_from1 c_dice c_hash) (wM cI cJ ad c_s' c_before c_known c_kept c_isKept c_aside' c_buffer c_length c_thrown' c_laid' c_spot c_isWrong c_isHalted c_mine' c_theirs' c_many' c_from0' c_from1' c_dice c_hash) r := by
  refine k_st_i (cc := cX10_playsByOrders) (maxL := 1) (by decide) rfl (Nat.le_of_ble_eq_true rfl) ?_
  intro p e z m below meth c A hx hb hr hml hts hown hlocks hsz hN hA hK hP hD hS ls hl
  have hown : z.vm.findClass RX10 = some m.cls := hown
  have hinX10 : ∀ w ∈ wsX100, w ∈ wsX10_playsByOrders := by decide +kernel
  have fl48 := hts (.fieldLink RX10 48 "MagpieRunsModel" "thrown" "I") (by decide +kernel)
  have hl : lv_has ls 1 [(0, .ref (ad 0))] := hl
  unfold mX10_playsByOrders at hm
  refine lv_aload_n hx hb dX10_playsByOrders_0 rfl (lv_at hl 0 rfl) ?_
  refine lv_iconst (v := 0) hx hb dX10_playsByOrders_1 (by decide) ?_
  refine va_put (D := D) (ci := 6) (v := .int 0) (ty := .int) (C := RX10) (T := TX10) (N := 20) hx hb hts hinX10 tyX10 tyX10_ok nmX10 hown hK hP hD hS 0 rfl rfl 8 (by decide) fl48 (fun _ h9 => h9) rfl (by decide +kernel) rfl rfl (Nat.le_of_ble_eq_true rfl) dX10_playsByOrders_2 (fun H locs hP hD hS => ?_)
  have hP : va_P D vwCl (wM cI cJ ad c_s c_before c_known c_kept c_isKept c_aside c_buffer c_length 0 c_laid c_spot c_isWrong c_isHalted c_mine c_theirs c_many c_from0 c_from1 c_dice c_hash) H := hP
  have hD : va_D A (wM cI cJ ad c_s c_before c_known c_kept c_isKept c_aside c_buffer c_length 0 c_laid c_spot c_isWrong c_isHalted c_mine c_theirs c_many c_from0 c_from1 c_dice c_hash) := hD
  refine lv_aload_n hx hb dX10_playsByOrders_5 rfl (lv_at hl 0 rfl) ?_
  obtain ⟨r1, w2, w3, w4, w5, w6, w7, w8, w9, hc6, hm⟩ := k_bd9s hm
  refine k_i_s (k_rV (As := []) (rest := []) ⟨hx, hb, hml, hown, hts⟩ hK hN hP hD (zX10_allPlays hc6) (cwV 0 hts gX10_playsByOrders_X10_allPlays rfl rfl rfl (by decide +kernel) ⟨Nat.le_of_ble_eq_true rfl, Nat.le_of_ble_eq_true rfl⟩) rfl rfl rfl hl.1 rfl (Nat.le_of_ble_eq_true rfl) dX10_playsByOrders_6 ⟨Nat.zero_le _, Nat.zero_le _⟩) hD hS hA (fun H locs hP hD hS => ?_)
  cases hm
  exact k_end_i hx hb hr hlocks hK hP hD hS dX10_playsByOrders_9

abbrev rmX10_wouldPlay : Room := { frames := 8, cells := 0, slots := 0, locals := 191 }
set_option maxHeartbeats 4000000 in
set_option maxRecDepth 100000 in
theorem zX10_wouldPlay {l : Launch} {D : va_G} {cI cJ cC cG : ClassId} {sz : Nat} {ad : Nat → Nat} {c_s : Nat → Int32} {c_before : Nat → Int32} {c_known : Int32} {c_kept : Nat → Int32} {c_isKept : Bool} {c_aside : Nat → Int32} {c_buffer : Nat → Int32} {c_length : Int32} {c_thrown : Int32} {c_laid : Nat → Int32} {c_spot : Int32} {c_isWrong : Bool} {c_isHalted : Bool} {c_mine : Nat → Int64} {c_theirs : Nat → Int64} {c_many : Int32} {c_from0 : Nat → Int64} {c_from1 : Nat → Int64} {c_dice : Nat → Int32} {c_hash : Int64} {a1 : Int32} {a2 : Int32} {r : Int32} {c_s' : Nat → Int32} {c_aside' : Nat → Int32} {c_laid' : Nat → Int32} {c_mine' : Nat → Int64} {c_theirs' : Nat → Int64} {c_many' : Int32} {c_from0' : Nat → Int64} {c_from1' : Nat → Int64} {c_dice' : Nat → Int32} (hm : mX10_wouldPlay c_s c_aside c_laid c_mine c_theirs c_many c_from0 c_from1 c_dice a1 a2 = some (r, c_s', c_aside', c_laid', c_mine', c_theirs', c_many', c_from0', c_from1', c_dice')) : k_Mi l yX10_wouldPlay wsX10_wouldPlay rmX10_wouldPlay D (kT cI cJ cC cG) sz ([.ref (ad 0), .int a1, .int a2] : List Value) (wM cI cJ ad c_s c_before c_known c_kept c_isKept c_aside c_buffer c_length c_thrown c_laid c_spot c_isWrong c_isHalted c_mine c_theirs c_many c_from0 c_from1 c_dice c_hash) (wM cI cJ ad c_s' c_before c_known c_kept c_isKept c_aside' c_buffer c_length c_thrown c_laid' c_spot c_isWrong c_isHalted c_mine' c_theirs' c_many' c_from0' c_from1' c_dice' c_hash) r := by
  refine k_st_i (cc := cX10_wouldPlay) (maxL := 6) (by decide) rfl (Nat.le_of_ble_eq_true rfl) ?_
  intro p e z m below meth c A hx hb hr hml hts hown hlocks hsz hN hA hK hP hD hS ls hl
  have hown : z.vm.findClass RX10 = some m.cls := hown
  have hinX10 : ∀ w ∈ wsX100, w ∈ wsX10_wouldPlay := by decide +kernel
  have fl7 := hts (.fieldLink RX10 7 "MagpieRunsModel" "s" "[I") (by decide +kernel)
  have fl41 := hts (.fieldLink RX10 41 "MagpieRunsModel" "dice" "[I") (by decide +kernel)
  have hl : lv_has ls 6 [(0, .ref (ad 0)), (1, .int a1), (2, .int a2)] := hl
  have J_66 := k_loop (z := fun _ _ _ _ _ _ _ _ _ _ _ => none) (st := mX10_wouldPlay_66 a1 a2) (fun k66 : (Int32) → (Int32) → (Nat → Int32) → (Nat → Int32) → (Nat → Int32) → (Nat → Int64) → (Nat → Int64) → (Int32) → (Nat → Int64) → (Nat → Int64) → (Nat → Int32) → Option (Int32 × (Nat → Int32) × (Nat → Int32) × (Nat → Int32) × (Nat → Int64) × (Nat → Int64) × (Int32) × (Nat → Int64) × (Nat → Int64) × (Nat → Int32)) => ∀ (l4 : Int32) (l5 : Int32) (c_s : Nat → Int32) (c_aside : Nat → Int32) (c_laid : Nat → Int32) (c_mine : Nat → Int64) (c_theirs : Nat → Int64) (c_many : Int32) (c_from0 : Nat → Int64) (c_from1 : Nat → Int64) (c_dice : Nat → Int32) (H : Heap) (locs : List Loc), va_P D vwCl (wM cI cJ ad c_s c_before c_known c_kept c_isKept c_aside c_buffer c_length c_thrown c_laid c_spot c_isWrong c_isHalted c_mine c_theirs c_many c_from0 c_from1 c_dice c_hash) H → va_D A (wM cI cJ ad c_s c_before c_known c_kept c_isKept c_aside c_buffer c_length c_thrown c_laid c_spot c_isWrong c_isHalted c_mine c_theirs c_many c_from0 c_from1 c_dice c_hash) → va_S A z.heap H locs → ∀ ls : Array Slot, lv_has ls 6 [(0, .ref (ad 0)), (4, .int l4), (5, .int l5)] → k66 l4 l5 c_s c_aside c_laid c_mine c_theirs c_many c_from0 c_from1 c_dice = some (r, c_s', c_aside', c_laid', c_mine', c_theirs', c_many', c_from0', c_from1', c_dice') → W p l e rmX10_wouldPlay z m ([.ref (ad 0), .int a1, .int a2] : List Value).toArray below meth c H locs 0 0 (k_Qi below ([.ref (ad 0), .int a1, .int a2] : List Value) D (kT cI cJ cC cG) z A (wM cI cJ ad c_s' c_before c_known c_kept c_isKept c_aside' c_buffer c_length c_thrown c_laid' c_spot c_isWrong c_isHalted c_mine' c_theirs' c_many' c_from0' c_from1' c_dice' c_hash) r) (F0 m 66 ls [])) (by intros; rename_i h; cases h) (by
    intro k66 ih66
    intro l4 l5 c_s c_aside c_laid c_mine c_theirs c_many c_from0 c_from1 c_dice H locs hP hD hS ls hl hm
    unfold mX10_wouldPlay_66 at hm
    refine lv_iload hx hb dX10_wouldPlay_66 (lv_at hl 2 rfl) ?_
    refine lv_bipush (v := 6) hx hb dX10_wouldPlay_68 (by decide) ?_
    refine lv_icmp_ge (tgt := 96) hx hb dX10_wouldPlay_70 (by decide) (fun cc70 => ?_) (fun cc70 => ?_)
    · have hm := k_ip cc70 hm
      refine lv_iload hx hb dX10_wouldPlay_96 (lv_at hl 1 rfl) ?_
      cases hm
      exact k_end_i hx hb hr hlocks hK hP hD hS dX10_wouldPlay_98
    · have hm := k_in cc70 hm
      refine lv_aload_n hx hb dX10_wouldPlay_73 rfl (lv_at hl 0 rfl) ?_
      refine va_get (D := D) (ci := 6) (v := .ref (ad 1)) (C := RX10) (T := TX10) (N := 20) hx hb hts hinX10 hown hK hP 0 rfl rfl 0 (by decide) fl7 (fun _ h9 => h9) rfl dX10_wouldPlay_74 ?_
      refine lv_bipush (v := 37) hx hb dX10_wouldPlay_77 (by decide) ?_
      refine lv_iload hx hb dX10_wouldPlay_79 (lv_at hl 2 rfl) ?_
      refine lv_iadd hx hb dX10_wouldPlay_81 ?_
      refine lv_aload_n hx hb dX10_wouldPlay_82 rfl (lv_at hl 0 rfl) ?_
      refine va_get (D := D) (ci := 6) (v := .ref (ad 11)) (C := RX10) (T := TX10) (N := 20) hx hb hts hinX10 hown hK hP 0 rfl rfl 18 (by decide) fl41 (fun _ h9 => h9) rfl dX10_wouldPlay_83 ?_
      refine lv_iload hx hb dX10_wouldPlay_86 (lv_at hl 2 rfl) ?_
      obtain ⟨gi88, hm⟩ := k_gs hm
      refine va_iald hx hb hK hP 11 0 rfl rfl gi88 dX10_wouldPlay_88 ?_
      obtain ⟨gi89, hm⟩ := k_gs hm
      refine va_iast hx hb hK hP hD hS 1 0 rfl rfl gi89 dX10_wouldPlay_89 (fun H locs hP hD hS => ?_)
      have hP : va_P D vwCl (wM cI cJ ad (upd c_s (Int32.toNatClampNeg (37 + l5)) (c_dice (Int32.toNatClampNeg l5))) c_before c_known c_kept c_isKept c_aside c_buffer c_length c_thrown c_laid c_spot c_isWrong c_isHalted c_mine c_theirs c_many c_from0 c_from1 c_dice c_hash) H := hP
      have hD : va_D A (wM cI cJ ad (upd c_s (Int32.toNatClampNeg (37 + l5)) (c_dice (Int32.toNatClampNeg l5))) c_before c_known c_kept c_isKept c_aside c_buffer c_length c_thrown c_laid c_spot c_isWrong c_isHalted c_mine c_theirs c_many c_from0 c_from1 c_dice c_hash) := hD
      refine lv_iinc (v := (l5 + 1)) (lv' := [(5, .int (l5 + 1)), (0, .ref (ad 0)), (4, .int l4)]) hx hb dX10_wouldPlay_90 hl (k := 2) rfl rfl (by decide) rfl (fun ls hl => ?_)
      refine lv_goto (tgt := 66) hx hb dX10_wouldPlay_93 (by decide) ?_
      exact ih66 l4 (l5 + 1) (upd c_s (Int32.toNatClampNeg (37 + l5)) (c_dice (Int32.toNatClampNeg l5))) c_aside c_laid c_mine c_theirs c_many c_from0 c_from1 c_dice _ _ hP hD hS _ (lv_sub hl [1, 2, 0] rfl) hm) k_F
  have J_57 : ∀ (c_s : Nat → Int32) (c_aside : Nat → Int32) (c_laid : Nat → Int32) (c_mine : Nat → Int64) (c_theirs : Nat → Int64) (c_many : Int32) (c_from0 : Nat → Int64) (c_from1 : Nat → Int64) (c_dice : Nat → Int32) (H : Heap) (locs : List Loc), va_P D vwCl (wM cI cJ ad c_s c_before c_known c_kept c_isKept c_aside c_buffer c_length c_thrown c_laid c_spot c_isWrong c_isHalted c_mine c_theirs c_many c_from0 c_from1 c_dice c_hash) H → va_D A (wM cI cJ ad c_s c_before c_known c_kept c_isKept c_aside c_buffer c_length c_thrown c_laid c_spot c_isWrong c_isHalted c_mine c_theirs c_many c_from0 c_from1 c_dice c_hash) → va_S A z.heap H locs → ∀ ls : Array Slot, lv_has ls 6 [(0, .ref (ad 0))] → mX10_wouldPlay_57 a1 a2 c_s c_aside c_laid c_mine c_theirs c_many c_from0 c_from1 c_dice = some (r, c_s', c_aside', c_laid', c_mine', c_theirs', c_many', c_from0', c_from1', c_dice') → W p l e rmX10_wouldPlay z m ([.ref (ad 0), .int a1, .int a2] : List Value).toArray below meth c H locs 0 0 (k_Qi below ([.ref (ad 0), .int a1, .int a2] : List Value) D (kT cI cJ cC cG) z A (wM cI cJ ad c_s' c_before c_known c_kept c_isKept c_aside' c_buffer c_length c_thrown c_laid' c_spot c_isWrong c_isHalted c_mine' c_theirs' c_many' c_from0' c_from1' c_dice' c_hash) r) (F0 m 57 ls []) := by
    intro c_s c_aside c_laid c_mine c_theirs c_many c_from0 c_from1 c_dice H locs hP hD hS ls hl hm
    unfold mX10_wouldPlay_57 at hm
    refine lv_aload_n hx hb dX10_wouldPlay_57 rfl (lv_at hl 0 rfl) ?_
    obtain ⟨r1, w2, w3, w4, w5, w6, w7, w8, w9, hc58, hm⟩ := k_bd9s hm
    refine k_i_s (k_rV (As := []) (rest := []) ⟨hx, hb, hml, hown, hts⟩ hK hN hP hD (zX10_allPlays hc58) (cwV 0 hts gX10_wouldPlay_X10_allPlays rfl rfl rfl (by decide +kernel) ⟨Nat.le_of_ble_eq_true rfl, Nat.le_of_ble_eq_true rfl⟩) rfl rfl rfl hl.1 rfl (Nat.le_of_ble_eq_true rfl) dX10_wouldPlay_58 ⟨Nat.zero_le _, Nat.zero_le _⟩) hD hS hA (fun H locs hP hD hS => ?_)
    refine lv_istore (lv' := [(4, .int r1), (0, .ref (ad 0))]) hx hb dX10_wouldPlay_61 hl (by decide) rfl (fun ls hl => ?_)
    refine lv_iconst (v := 0) hx hb dX10_wouldPlay_63 (by decide) ?_
    refine lv_istore (lv' := [(5, .int 0), (4, .int r1), (0, .ref (ad 0))]) hx hb dX10_wouldPlay_64 hl (by decide) rfl (fun ls hl => ?_)
    exact J_66 r1 0 w2 w3 w4 w5 w6 w7 w8 w9 c_dice _ _ hP hD hS _ (lv_sub hl [2, 1, 0] rfl) hm
  have J_2 := k_loop (z := fun _ _ _ _ _ _ _ _ _ _ => none) (st := mX10_wouldPlay_2 a1 a2) (fun k2 : (Int32) → (Nat → Int32) → (Nat → Int32) → (Nat → Int32) → (Nat → Int64) → (Nat → Int64) → (Int32) → (Nat → Int64) → (Nat → Int64) → (Nat → Int32) → Option (Int32 × (Nat → Int32) × (Nat → Int32) × (Nat → Int32) × (Nat → Int64) × (Nat → Int64) × (Int32) × (Nat → Int64) × (Nat → Int64) × (Nat → Int32)) => ∀ (l3 : Int32) (c_s : Nat → Int32) (c_aside : Nat → Int32) (c_laid : Nat → Int32) (c_mine : Nat → Int64) (c_theirs : Nat → Int64) (c_many : Int32) (c_from0 : Nat → Int64) (c_from1 : Nat → Int64) (c_dice : Nat → Int32) (H : Heap) (locs : List Loc), va_P D vwCl (wM cI cJ ad c_s c_before c_known c_kept c_isKept c_aside c_buffer c_length c_thrown c_laid c_spot c_isWrong c_isHalted c_mine c_theirs c_many c_from0 c_from1 c_dice c_hash) H → va_D A (wM cI cJ ad c_s c_before c_known c_kept c_isKept c_aside c_buffer c_length c_thrown c_laid c_spot c_isWrong c_isHalted c_mine c_theirs c_many c_from0 c_from1 c_dice c_hash) → va_S A z.heap H locs → ∀ ls : Array Slot, lv_has ls 6 [(0, .ref (ad 0)), (1, .int a1), (2, .int a2), (3, .int l3)] → k2 l3 c_s c_aside c_laid c_mine c_theirs c_many c_from0 c_from1 c_dice = some (r, c_s', c_aside', c_laid', c_mine', c_theirs', c_many', c_from0', c_from1', c_dice') → W p l e rmX10_wouldPlay z m ([.ref (ad 0), .int a1, .int a2] : List Value).toArray below meth c H locs 0 0 (k_Qi below ([.ref (ad 0), .int a1, .int a2] : List Value) D (kT cI cJ cC cG) z A (wM cI cJ ad c_s' c_before c_known c_kept c_isKept c_aside' c_buffer c_length c_thrown c_laid' c_spot c_isWrong c_isHalted c_mine' c_theirs' c_many' c_from0' c_from1' c_dice' c_hash) r) (F0 m 2 ls [])) (by intros; rename_i h; cases h) (by
    intro k2 ih2
    intro l3 c_s c_aside c_laid c_mine c_theirs c_many c_from0 c_from1 c_dice H locs hP hD hS ls hl hm
    unfold mX10_wouldPlay_2 at hm
    refine lv_iload_n hx hb dX10_wouldPlay_2 rfl (lv_at hl 3 rfl) ?_
    refine lv_bipush (v := 6) hx hb dX10_wouldPlay_3 (by decide) ?_
    refine lv_icmp_ge (tgt := 29) hx hb dX10_wouldPlay_5 (by decide) (fun cc5 => ?_) (fun cc5 => ?_)
    · have hm := k_ip cc5 hm
      refine lv_aload_n hx hb dX10_wouldPlay_29 rfl (lv_at hl 0 rfl) ?_
      refine lv_iload_n hx hb dX10_wouldPlay_30 rfl (lv_at hl 1 rfl) ?_
      refine lv_iload_n hx hb dX10_wouldPlay_31 rfl (lv_at hl 2 rfl) ?_
      obtain ⟨r10, w11, hc32, hm⟩ := k_bd2s hm
      refine k_i_s (k_rV (As := [.int a1, .int a2]) (rest := []) ⟨hx, hb, hml, hown, hts⟩ hK hN hP hD (zX10_rolls hc32) (cwV 2 hts gX10_wouldPlay_X10_rolls rfl rfl rfl (by decide +kernel) ⟨Nat.le_of_ble_eq_true rfl, Nat.le_of_ble_eq_true rfl⟩) rfl rfl rfl hl.1 rfl (Nat.le_of_ble_eq_true rfl) dX10_wouldPlay_32 ⟨Nat.zero_le _, Nat.zero_le _⟩) hD hS hA (fun H locs hP hD hS => ?_)
      refine lv_istore_n (lv' := [(3, .int r10), (0, .ref (ad 0)), (1, .int a1), (2, .int a2)]) hx hb dX10_wouldPlay_35 rfl hl (by decide) rfl (fun ls hl => ?_)
      refine lv_iload_n hx hb dX10_wouldPlay_36 rfl (lv_at hl 0 rfl) ?_
      refine lv_iconst (v := 2) hx hb dX10_wouldPlay_37 (by decide) ?_
      refine lv_icmp_ne (tgt := 57) hx hb dX10_wouldPlay_38 (by decide) (fun cc38 => ?_) (fun cc38 => ?_)
      · have hm := k_in cc38 hm
        exact J_57 w11 c_aside c_laid c_mine c_theirs c_many c_from0 c_from1 c_dice _ _ hP hD hS _ (lv_sub hl [1] rfl) hm
      · have hm := k_ip cc38 hm
        refine lv_aload_n hx hb dX10_wouldPlay_41 rfl (lv_at hl 1 rfl) ?_
        refine va_get (D := D) (ci := 6) (v := .ref (ad 1)) (C := RX10) (T := TX10) (N := 20) hx hb hts hinX10 hown hK hP 0 rfl rfl 0 (by decide) fl7 (fun _ h9 => h9) rfl dX10_wouldPlay_42 ?_
        refine lv_bipush (v := 41) hx hb dX10_wouldPlay_45 (by decide) ?_
        refine lv_iconst (v := 0) hx hb dX10_wouldPlay_47 (by decide) ?_
        refine k_isC hx hb hK hP hD hS 1 0 rfl rfl kl_41 ki_41_51 dX10_wouldPlay_48 (fun H locs hP hD hS => ?_)
        have hP : va_P D vwCl (wM cI cJ ad (upd w11 41 0) c_before c_known c_kept c_isKept c_aside c_buffer c_length c_thrown c_laid c_spot c_isWrong c_isHalted c_mine c_theirs c_many c_from0 c_from1 c_dice c_hash) H := hP
        have hD : va_D A (wM cI cJ ad (upd w11 41 0) c_before c_known c_kept c_isKept c_aside c_buffer c_length c_thrown c_laid c_spot c_isWrong c_isHalted c_mine c_theirs c_many c_from0 c_from1 c_dice c_hash) := hD
        refine lv_aload_n hx hb dX10_wouldPlay_49 rfl (lv_at hl 1 rfl) ?_
        refine va_get (D := D) (ci := 6) (v := .ref (ad 1)) (C := RX10) (T := TX10) (N := 20) hx hb hts hinX10 hown hK hP 0 rfl rfl 0 (by decide) fl7 (fun _ h9 => h9) rfl dX10_wouldPlay_50 ?_
        refine lv_bipush (v := 42) hx hb dX10_wouldPlay_53 (by decide) ?_
        refine lv_iconst (v := 0) hx hb dX10_wouldPlay_55 (by decide) ?_
        refine k_isC hx hb hK hP hD hS 1 0 rfl rfl kl_42 ki_42_51 dX10_wouldPlay_56 (fun H locs hP hD hS => ?_)
        have hP : va_P D vwCl (wM cI cJ ad (upd (upd w11 41 0) 42 0) c_before c_known c_kept c_isKept c_aside c_buffer c_length c_thrown c_laid c_spot c_isWrong c_isHalted c_mine c_theirs c_many c_from0 c_from1 c_dice c_hash) H := hP
        have hD : va_D A (wM cI cJ ad (upd (upd w11 41 0) 42 0) c_before c_known c_kept c_isKept c_aside c_buffer c_length c_thrown c_laid c_spot c_isWrong c_isHalted c_mine c_theirs c_many c_from0 c_from1 c_dice c_hash) := hD
        exact J_57 (upd (upd w11 41 0) 42 0) c_aside c_laid c_mine c_theirs c_many c_from0 c_from1 c_dice _ _ hP hD hS _ (lv_sub hl [1] rfl) hm
    · have hm := k_in cc5 hm
      refine lv_aload_n hx hb dX10_wouldPlay_8 rfl (lv_at hl 0 rfl) ?_
      refine va_get (D := D) (ci := 6) (v := .ref (ad 11)) (C := RX10) (T := TX10) (N := 20) hx hb hts hinX10 hown hK hP 0 rfl rfl 18 (by decide) fl41 (fun _ h9 => h9) rfl dX10_wouldPlay_9 ?_
      refine lv_iload_n hx hb dX10_wouldPlay_12 rfl (lv_at hl 3 rfl) ?_
      refine lv_aload_n hx hb dX10_wouldPlay_13 rfl (lv_at hl 0 rfl) ?_
      refine va_get (D := D) (ci := 6) (v := .ref (ad 1)) (C := RX10) (T := TX10) (N := 20) hx hb hts hinX10 hown hK hP 0 rfl rfl 0 (by decide) fl7 (fun _ h9 => h9) rfl dX10_wouldPlay_14 ?_
      refine lv_bipush (v := 37) hx hb dX10_wouldPlay_17 (by decide) ?_
      refine lv_iload_n hx hb dX10_wouldPlay_19 rfl (lv_at hl 3 rfl) ?_
      refine lv_iadd hx hb dX10_wouldPlay_20 ?_
      obtain ⟨gi21, hm⟩ := k_gs hm
      refine va_iald hx hb hK hP 1 0 rfl rfl gi21 dX10_wouldPlay_21 ?_
      obtain ⟨gi22, hm⟩ := k_gs hm
      refine va_iast hx hb hK hP hD hS 11 0 rfl rfl gi22 dX10_wouldPlay_22 (fun H locs hP hD hS => ?_)
      have hP : va_P D vwCl (wM cI cJ ad c_s c_before c_known c_kept c_isKept c_aside c_buffer c_length c_thrown c_laid c_spot c_isWrong c_isHalted c_mine c_theirs c_many c_from0 c_from1 (upd c_dice (Int32.toNatClampNeg l3) (c_s (Int32.toNatClampNeg (37 + l3)))) c_hash) H := hP
      have hD : va_D A (wM cI cJ ad c_s c_before c_known c_kept c_isKept c_aside c_buffer c_length c_thrown c_laid c_spot c_isWrong c_isHalted c_mine c_theirs c_many c_from0 c_from1 (upd c_dice (Int32.toNatClampNeg l3) (c_s (Int32.toNatClampNeg (37 + l3)))) c_hash) := hD
      refine lv_iinc (v := (l3 + 1)) (lv' := [(3, .int (l3 + 1)), (0, .ref (ad 0)), (1, .int a1), (2, .int a2)]) hx hb dX10_wouldPlay_23 hl (k := 3) rfl rfl (by decide) rfl (fun ls hl => ?_)
      refine lv_goto (tgt := 2) hx hb dX10_wouldPlay_26 (by decide) ?_
      exact ih2 (l3 + 1) c_s c_aside c_laid c_mine c_theirs c_many c_from0 c_from1 (upd c_dice (Int32.toNatClampNeg l3) (c_s (Int32.toNatClampNeg (37 + l3)))) _ _ hP hD hS _ (lv_sub hl [1, 2, 3, 0] rfl) hm) k_F
  unfold mX10_wouldPlay at hm
  refine lv_iconst (v := 0) hx hb dX10_wouldPlay_0 (by decide) ?_
  refine lv_istore_n (lv' := [(3, .int 0), (0, .ref (ad 0)), (1, .int a1), (2, .int a2)]) hx hb dX10_wouldPlay_1 rfl hl (by decide) rfl (fun ls hl => ?_)
  exact J_2 0 c_s c_aside c_laid c_mine c_theirs c_many c_from0 c_from1 c_dice _ _ hP hD hS _ (lv_sub hl [1, 2, 3, 0] rfl) hm

abbrev rmX10_playsWith : Room := { frames := 9, cells := 0, slots := 0, locals := 216 }
set_option maxHeartbeats 4000000 in
set_option maxRecDepth 100000 in
theorem zX10_playsWith {l : Launch} {D : va_G} {cI cJ cC cG : ClassId} {sz : Nat} {ad : Nat → Nat} {c_s : Nat → Int32} {c_before : Nat → Int32} {c_known : Int32} {c_kept : Nat → Int32} {c_isKept : Bool} {c_aside : Nat → Int32} {c_buffer : Nat → Int32} {c_length : Int32} {c_thrown : Int32} {c_laid : Nat → Int32} {c_spot : Int32} {c_isWrong : Bool} {c_isHalted : Bool} {c_mine : Nat → Int64} {c_theirs : Nat → Int64} {c_many : Int32} {c_from0 : Nat → Int64} {c_from1 : Nat → Int64} {c_dice : Nat → Int32} {c_hash : Int64} {a1 : Int32} {a2 : Int32} {r : Int32} {c_s' : Nat → Int32} {c_aside' : Nat → Int32} {c_thrown' : Int32} {c_laid' : Nat → Int32} {c_mine' : Nat → Int64} {c_theirs' : Nat → Int64} {c_many' : Int32} {c_from0' : Nat → Int64} {c_from1' : Nat → Int64} {c_dice' : Nat → Int32} (hm : mX10_playsWith c_s c_aside c_thrown c_laid c_mine c_theirs c_many c_from0 c_from1 c_dice a1 a2 = some (r, c_s', c_aside', c_thrown', c_laid', c_mine', c_theirs', c_many', c_from0', c_from1', c_dice')) : k_Mi l yX10_playsWith wsX10_playsWith rmX10_playsWith D (kT cI cJ cC cG) sz ([.ref (ad 0), .int a1, .int a2] : List Value) (wM cI cJ ad c_s c_before c_known c_kept c_isKept c_aside c_buffer c_length c_thrown c_laid c_spot c_isWrong c_isHalted c_mine c_theirs c_many c_from0 c_from1 c_dice c_hash) (wM cI cJ ad c_s' c_before c_known c_kept c_isKept c_aside' c_buffer c_length c_thrown' c_laid' c_spot c_isWrong c_isHalted c_mine' c_theirs' c_many' c_from0' c_from1' c_dice' c_hash) r := by
  refine k_st_i (cc := cX10_playsWith) (maxL := 3) (by decide) rfl (Nat.le_of_ble_eq_true rfl) ?_
  intro p e z m below meth c A hx hb hr hml hts hown hlocks hsz hN hA hK hP hD hS ls hl
  have hown : z.vm.findClass RX10 = some m.cls := hown
  have hinX10 : ∀ w ∈ wsX100, w ∈ wsX10_playsWith := by decide +kernel
  have fl48 := hts (.fieldLink RX10 48 "MagpieRunsModel" "thrown" "I") (by decide +kernel)
  have hl : lv_has ls 3 [(0, .ref (ad 0)), (1, .int a1), (2, .int a2)] := hl
  have J_34 : ∀ (c_s : Nat → Int32) (c_aside : Nat → Int32) (c_thrown : Int32) (c_laid : Nat → Int32) (c_mine : Nat → Int64) (c_theirs : Nat → Int64) (c_many : Int32) (c_from0 : Nat → Int64) (c_from1 : Nat → Int64) (c_dice : Nat → Int32) (H : Heap) (locs : List Loc), va_P D vwCl (wM cI cJ ad c_s c_before c_known c_kept c_isKept c_aside c_buffer c_length c_thrown c_laid c_spot c_isWrong c_isHalted c_mine c_theirs c_many c_from0 c_from1 c_dice c_hash) H → va_D A (wM cI cJ ad c_s c_before c_known c_kept c_isKept c_aside c_buffer c_length c_thrown c_laid c_spot c_isWrong c_isHalted c_mine c_theirs c_many c_from0 c_from1 c_dice c_hash) → va_S A z.heap H locs → ∀ ls : Array Slot, lv_has ls 3 [(0, .ref (ad 0))] → mX10_playsWith_34 a1 a2 c_s c_aside c_thrown c_laid c_mine c_theirs c_many c_from0 c_from1 c_dice = some (r, c_s', c_aside', c_thrown', c_laid', c_mine', c_theirs', c_many', c_from0', c_from1', c_dice') → W p l e rmX10_playsWith z m ([.ref (ad 0), .int a1, .int a2] : List Value).toArray below meth c H locs 0 0 (k_Qi below ([.ref (ad 0), .int a1, .int a2] : List Value) D (kT cI cJ cC cG) z A (wM cI cJ ad c_s' c_before c_known c_kept c_isKept c_aside' c_buffer c_length c_thrown' c_laid' c_spot c_isWrong c_isHalted c_mine' c_theirs' c_many' c_from0' c_from1' c_dice' c_hash) r) (F0 m 34 ls []) := by
    intro c_s c_aside c_thrown c_laid c_mine c_theirs c_many c_from0 c_from1 c_dice H locs hP hD hS ls hl hm
    unfold mX10_playsWith_34 at hm
    refine lv_aload_n hx hb dX10_playsWith_34 rfl (lv_at hl 0 rfl) ?_
    refine lv_iconst (v := 1) hx hb dX10_playsWith_35 (by decide) ?_
    obtain ⟨r1, w2, hc36, hm⟩ := k_bd2s hm
    refine k_i_s (k_rV (As := [.int 1]) (rest := []) ⟨hx, hb, hml, hown, hts⟩ hK hN hP hD (zX10_throwing hc36) (cwV 1 hts gX10_playsWith_X10_throwing rfl rfl rfl (by decide +kernel) ⟨Nat.le_of_ble_eq_true rfl, Nat.le_of_ble_eq_true rfl⟩) rfl rfl rfl hl.1 rfl (Nat.le_of_ble_eq_true rfl) dX10_playsWith_36 ⟨Nat.zero_le _, Nat.zero_le _⟩) hD hS hA (fun H locs hP hD hS => ?_)
    cases hm
    exact k_end_i hx hb hr hlocks hK hP hD hS dX10_playsWith_39
  unfold mX10_playsWith at hm
  refine lv_aload_n hx hb dX10_playsWith_0 rfl (lv_at hl 0 rfl) ?_
  refine lv_iconst (v := 0) hx hb dX10_playsWith_1 (by decide) ?_
  refine va_put (D := D) (ci := 6) (v := .int 0) (ty := .int) (C := RX10) (T := TX10) (N := 20) hx hb hts hinX10 tyX10 tyX10_ok nmX10 hown hK hP hD hS 0 rfl rfl 8 (by decide) fl48 (fun _ h9 => h9) rfl (by decide +kernel) rfl rfl (Nat.le_of_ble_eq_true rfl) dX10_playsWith_2 (fun H locs hP hD hS => ?_)
  have hP : va_P D vwCl (wM cI cJ ad c_s c_before c_known c_kept c_isKept c_aside c_buffer c_length 0 c_laid c_spot c_isWrong c_isHalted c_mine c_theirs c_many c_from0 c_from1 c_dice c_hash) H := hP
  have hD : va_D A (wM cI cJ ad c_s c_before c_known c_kept c_isKept c_aside c_buffer c_length 0 c_laid c_spot c_isWrong c_isHalted c_mine c_theirs c_many c_from0 c_from1 c_dice c_hash) := hD
  refine lv_iload_n hx hb dX10_playsWith_5 rfl (lv_at hl 1 rfl) ?_
  refine lv_iconst (v := 1) hx hb dX10_playsWith_6 (by decide) ?_
  refine lv_bipush (v := 6) hx hb dX10_playsWith_7 (by decide) ?_
  obtain ⟨r3, hc9, hm⟩ := k_bds hm
  refine k_i_0 (k_rS (As := [.int a1, .int 1, .int 6]) (rest := []) ⟨hx, hb, hml, hown, hts⟩ hK hN k_P0 (k_D0 (A := A)) (zX10_in hc9) (va_cwS 3 hts gX10_playsWith_X10_in rfl rfl rfl (by decide +kernel) ⟨Nat.le_of_ble_eq_true rfl, Nat.le_of_ble_eq_true rfl⟩) rfl hl.1 rfl (Nat.le_of_ble_eq_true rfl) dX10_playsWith_9 ⟨Nat.zero_le _, Nat.zero_le _⟩) hP hS hA (fun H locs hP hS => ?_)
  refine lv_if_eq (tgt := 34) hx hb dX10_playsWith_12 (by decide) (fun cc12 => ?_) (fun cc12 => ?_)
  · have hm := k_ip cc12 hm
    exact J_34 c_s c_aside 0 c_laid c_mine c_theirs c_many c_from0 c_from1 c_dice _ _ hP hD hS _ (lv_sub hl [0] rfl) hm
  · have hm := k_in cc12 hm
    refine lv_iload_n hx hb dX10_playsWith_15 rfl (lv_at hl 2 rfl) ?_
    refine lv_iconst (v := 1) hx hb dX10_playsWith_16 (by decide) ?_
    refine lv_bipush (v := 6) hx hb dX10_playsWith_17 (by decide) ?_
    obtain ⟨r4, hc19, hm⟩ := k_bds hm
    refine k_i_0 (k_rS (As := [.int a2, .int 1, .int 6]) (rest := []) ⟨hx, hb, hml, hown, hts⟩ hK hN k_P0 (k_D0 (A := A)) (zX10_in hc19) (va_cwS 3 hts gX10_playsWith_X10_in rfl rfl rfl (by decide +kernel) ⟨Nat.le_of_ble_eq_true rfl, Nat.le_of_ble_eq_true rfl⟩) rfl hl.1 rfl (Nat.le_of_ble_eq_true rfl) dX10_playsWith_19 ⟨Nat.zero_le _, Nat.zero_le _⟩) hP hS hA (fun H locs hP hS => ?_)
    refine lv_if_eq (tgt := 34) hx hb dX10_playsWith_22 (by decide) (fun cc22 => ?_) (fun cc22 => ?_)
    · have hm := k_ip cc22 hm
      exact J_34 c_s c_aside 0 c_laid c_mine c_theirs c_many c_from0 c_from1 c_dice _ _ hP hD hS _ (lv_sub hl [0] rfl) hm
    · have hm := k_in cc22 hm
      refine lv_aload_n hx hb dX10_playsWith_25 rfl (lv_at hl 0 rfl) ?_
      refine lv_iload_n hx hb dX10_playsWith_26 rfl (lv_at hl 1 rfl) ?_
      refine lv_iload_n hx hb dX10_playsWith_27 rfl (lv_at hl 2 rfl) ?_
      obtain ⟨r5, w6, w7, w8, w9, w10, w11, w12, w13, w14, hc28, hm⟩ := k_bd10s hm
      refine k_i_s (k_rV (As := [.int a1, .int a2]) (rest := []) ⟨hx, hb, hml, hown, hts⟩ hK hN hP hD (zX10_wouldPlay hc28) (cwV 2 hts gX10_playsWith_X10_wouldPlay rfl rfl rfl (by decide +kernel) ⟨Nat.le_of_ble_eq_true rfl, Nat.le_of_ble_eq_true rfl⟩) rfl rfl rfl hl.1 rfl (Nat.le_of_ble_eq_true rfl) dX10_playsWith_28 ⟨Nat.zero_le _, Nat.zero_le _⟩) hD hS hA (fun H locs hP hD hS => ?_)
      refine lv_goto (tgt := 39) hx hb dX10_playsWith_31 (by decide) ?_
      cases hm
      exact k_end_i hx hb hr hlocks hK hP hD hS dX10_playsWith_39

abbrev rmX10_hitsBy : Room := { frames := 3, cells := 0, slots := 0, locals := 71 }
set_option maxHeartbeats 4000000 in
set_option maxRecDepth 100000 in
theorem zX10_hitsBy {l : Launch} {D : va_G} {cI cJ cC cG : ClassId} {sz : Nat} {ad : Nat → Nat} {c_s : Nat → Int32} {c_before : Nat → Int32} {c_known : Int32} {c_kept : Nat → Int32} {c_isKept : Bool} {c_aside : Nat → Int32} {c_buffer : Nat → Int32} {c_length : Int32} {c_thrown : Int32} {c_laid : Nat → Int32} {c_spot : Int32} {c_isWrong : Bool} {c_isHalted : Bool} {c_mine : Nat → Int64} {c_theirs : Nat → Int64} {c_many : Int32} {c_from0 : Nat → Int64} {c_from1 : Nat → Int64} {c_dice : Nat → Int32} {c_hash : Int64} {a1 : Int32} {a2 : Int32} {a3 : Int32} {a4 : Int32} {r : Bool} {c_s' : Nat → Int32} {c_laid' : Nat → Int32} (hm : mX10_hitsBy c_s c_laid a1 a2 a3 a4 = some (r, c_s', c_laid')) : k_Mi l yX10_hitsBy wsX10_hitsBy rmX10_hitsBy D (kT cI cJ cC cG) sz ([.ref (ad 0), .int a1, .int a2, .int a3, .int a4] : List Value) (wM cI cJ ad c_s c_before c_known c_kept c_isKept c_aside c_buffer c_length c_thrown c_laid c_spot c_isWrong c_isHalted c_mine c_theirs c_many c_from0 c_from1 c_dice c_hash) (wM cI cJ ad c_s' c_before c_known c_kept c_isKept c_aside c_buffer c_length c_thrown c_laid' c_spot c_isWrong c_isHalted c_mine c_theirs c_many c_from0 c_from1 c_dice c_hash) (k_b r) := by
  refine k_st_i (cc := cX10_hitsBy) (maxL := 9) (by decide) rfl (Nat.le_of_ble_eq_true rfl) ?_
  intro p e z m below meth c A hx hb hr hml hts hown hlocks hsz hN hA hK hP hD hS ls hl
  have hown : z.vm.findClass RX10 = some m.cls := hown
  have hl : lv_has ls 9 [(0, .ref (ad 0)), (1, .int a1), (2, .int a2), (3, .int a3), (4, .int a4)] := hl
  have J_6 := k_loop (z := fun _ _ _ _ => none) (st := mX10_hitsBy_6 a1 a2 a3 a4) (fun k6 : (Bool) → (Int32) → (Nat → Int32) → (Nat → Int32) → Option (Bool × (Nat → Int32) × (Nat → Int32)) => ∀ (l5 : Bool) (l6 : Int32) (c_s : Nat → Int32) (c_laid : Nat → Int32) (H : Heap) (locs : List Loc), va_P D vwCl (wM cI cJ ad c_s c_before c_known c_kept c_isKept c_aside c_buffer c_length c_thrown c_laid c_spot c_isWrong c_isHalted c_mine c_theirs c_many c_from0 c_from1 c_dice c_hash) H → va_D A (wM cI cJ ad c_s c_before c_known c_kept c_isKept c_aside c_buffer c_length c_thrown c_laid c_spot c_isWrong c_isHalted c_mine c_theirs c_many c_from0 c_from1 c_dice c_hash) → va_S A z.heap H locs → ∀ ls : Array Slot, lv_has ls 9 [(0, .ref (ad 0)), (1, .int a1), (2, .int a2), (3, .int a3), (4, .int a4), (5, .int (k_b l5)), (6, .int l6)] → k6 l5 l6 c_s c_laid = some (r, c_s', c_laid') → W p l e rmX10_hitsBy z m ([.ref (ad 0), .int a1, .int a2, .int a3, .int a4] : List Value).toArray below meth c H locs 0 0 (k_Qi below ([.ref (ad 0), .int a1, .int a2, .int a3, .int a4] : List Value) D (kT cI cJ cC cG) z A (wM cI cJ ad c_s' c_before c_known c_kept c_isKept c_aside c_buffer c_length c_thrown c_laid' c_spot c_isWrong c_isHalted c_mine c_theirs c_many c_from0 c_from1 c_dice c_hash) (k_b r)) (F0 m 6 ls [])) (by intros; rename_i h; cases h) (by
    intro k6 ih6
    have J_114 : ∀ (l5 : Bool) (l6 : Int32) (c_s : Nat → Int32) (c_laid : Nat → Int32) (H : Heap) (locs : List Loc), va_P D vwCl (wM cI cJ ad c_s c_before c_known c_kept c_isKept c_aside c_buffer c_length c_thrown c_laid c_spot c_isWrong c_isHalted c_mine c_theirs c_many c_from0 c_from1 c_dice c_hash) H → va_D A (wM cI cJ ad c_s c_before c_known c_kept c_isKept c_aside c_buffer c_length c_thrown c_laid c_spot c_isWrong c_isHalted c_mine c_theirs c_many c_from0 c_from1 c_dice c_hash) → va_S A z.heap H locs → ∀ ls : Array Slot, lv_has ls 9 [(0, .ref (ad 0)), (1, .int a1), (2, .int a2), (3, .int a3), (4, .int a4), (5, .int (k_b l5)), (6, .int l6)] → mX10_hitsBy_114 a1 a2 a3 a4 k6 l5 l6 c_s c_laid = some (r, c_s', c_laid') → W p l e rmX10_hitsBy z m ([.ref (ad 0), .int a1, .int a2, .int a3, .int a4] : List Value).toArray below meth c H locs 0 0 (k_Qi below ([.ref (ad 0), .int a1, .int a2, .int a3, .int a4] : List Value) D (kT cI cJ cC cG) z A (wM cI cJ ad c_s' c_before c_known c_kept c_isKept c_aside c_buffer c_length c_thrown c_laid' c_spot c_isWrong c_isHalted c_mine c_theirs c_many c_from0 c_from1 c_dice c_hash) (k_b r)) (F0 m 114 ls []) := by
      intro l5 l6 c_s c_laid H locs hP hD hS ls hl hm
      unfold mX10_hitsBy_114 at hm
      refine lv_aload_n hx hb dX10_hitsBy_114 rfl (lv_at hl 0 rfl) ?_
      refine lv_iconst (v := 0) hx hb dX10_hitsBy_115 (by decide) ?_
      obtain ⟨w1, hc116, hm⟩ := k_bds hm
      refine k_v_s (k_rV (As := [.int 0]) (rest := []) ⟨hx, hb, hml, hown, hts⟩ hK hN hP hD (zX10_takesUp hc116) (cwV 1 hts gX10_hitsBy_X10_takesUp rfl rfl rfl (by decide +kernel) ⟨Nat.le_of_ble_eq_true rfl, Nat.le_of_ble_eq_true rfl⟩) rfl rfl rfl hl.1 rfl (Nat.le_of_ble_eq_true rfl) dX10_hitsBy_116 ⟨Nat.zero_le _, Nat.zero_le _⟩) hD hS hA (fun H locs hP hD hS => ?_)
      refine lv_iinc (v := (l6 + 1)) (lv' := [(6, .int (l6 + 1)), (0, .ref (ad 0)), (1, .int a1), (2, .int a2), (3, .int a3), (4, .int a4), (5, .int (k_b l5))]) hx hb dX10_hitsBy_119 hl (k := 6) rfl rfl (by decide) rfl (fun ls hl => ?_)
      refine lv_goto (tgt := 6) hx hb dX10_hitsBy_122 (by decide) ?_
      exact ih6 l5 (l6 + 1) w1 c_laid _ _ hP hD hS _ (lv_sub hl [1, 2, 3, 4, 5, 6, 0] rfl) hm
    have J_65 := k_loop (z := fun _ _ _ _ _ => none) (st := mX10_hitsBy_65 a1 a2 a3 a4 k6) (fun k65 : (Bool) → (Int32) → (Int32) → (Nat → Int32) → (Nat → Int32) → Option (Bool × (Nat → Int32) × (Nat → Int32)) => ∀ (l5 : Bool) (l6 : Int32) (l8 : Int32) (c_s : Nat → Int32) (c_laid : Nat → Int32) (H : Heap) (locs : List Loc), va_P D vwCl (wM cI cJ ad c_s c_before c_known c_kept c_isKept c_aside c_buffer c_length c_thrown c_laid c_spot c_isWrong c_isHalted c_mine c_theirs c_many c_from0 c_from1 c_dice c_hash) H → va_D A (wM cI cJ ad c_s c_before c_known c_kept c_isKept c_aside c_buffer c_length c_thrown c_laid c_spot c_isWrong c_isHalted c_mine c_theirs c_many c_from0 c_from1 c_dice c_hash) → va_S A z.heap H locs → ∀ ls : Array Slot, lv_has ls 9 [(0, .ref (ad 0)), (1, .int a1), (2, .int a2), (3, .int a3), (4, .int a4), (5, .int (k_b l5)), (6, .int l6), (8, .int l8)] → k65 l5 l6 l8 c_s c_laid = some (r, c_s', c_laid') → W p l e rmX10_hitsBy z m ([.ref (ad 0), .int a1, .int a2, .int a3, .int a4] : List Value).toArray below meth c H locs 0 0 (k_Qi below ([.ref (ad 0), .int a1, .int a2, .int a3, .int a4] : List Value) D (kT cI cJ cC cG) z A (wM cI cJ ad c_s' c_before c_known c_kept c_isKept c_aside c_buffer c_length c_thrown c_laid' c_spot c_isWrong c_isHalted c_mine c_theirs c_many c_from0 c_from1 c_dice c_hash) (k_b r)) (F0 m 65 ls [])) (by intros; rename_i h; cases h) (by
      intro k65 ih65
      intro l5 l6 l8 c_s c_laid H locs hP hD hS ls hl hm
      unfold mX10_hitsBy_65 at hm
      refine lv_iload hx hb dX10_hitsBy_65 (lv_at hl 7 rfl) ?_
      refine lv_bipush (v := 16) hx hb dX10_hitsBy_67 (by decide) ?_
      refine lv_icmp_ge (tgt := 114) hx hb dX10_hitsBy_69 (by decide) (fun cc69 => ?_) (fun cc69 => ?_)
      · have hm := k_ip cc69 hm
        exact J_114 l5 l6 c_s c_laid _ _ hP hD hS _ (lv_sub hl [0, 1, 2, 3, 4, 5, 6] rfl) hm
      · have hm := k_in cc69 hm
        refine lv_iload hx hb dX10_hitsBy_72 (lv_at hl 5 rfl) ?_
        refine lv_if_ne (tgt := 114) hx hb dX10_hitsBy_74 (by decide) (fun cc74 => ?_) (fun cc74 => ?_)
        · have hm := k_in cc74 hm
          exact J_114 l5 l6 c_s c_laid _ _ hP hD hS _ (lv_sub hl [0, 1, 2, 3, 4, 5, 6] rfl) hm
        · have hm := k_ip cc74 hm
          refine lv_aload_n hx hb dX10_hitsBy_77 rfl (lv_at hl 0 rfl) ?_
          refine lv_iload_n hx hb dX10_hitsBy_78 rfl (lv_at hl 1 rfl) ?_
          refine lv_iload hx hb dX10_hitsBy_79 (lv_at hl 7 rfl) ?_
          refine lv_iload hx hb dX10_hitsBy_81 (lv_at hl 4 rfl) ?_
          obtain ⟨r2, hc83, hm⟩ := k_bds hm
          refine k_i_s (k_rV (As := [.int a1, .int l8, .int a4]) (rest := []) ⟨hx, hb, hml, hown, hts⟩ hK hN hP hD (zX10_refused hc83) (cwV 3 hts gX10_hitsBy_X10_refused rfl rfl rfl (by decide +kernel) ⟨Nat.le_of_ble_eq_true rfl, Nat.le_of_ble_eq_true rfl⟩) rfl rfl rfl hl.1 rfl (Nat.le_of_ble_eq_true rfl) dX10_hitsBy_83 ⟨Nat.zero_le _, Nat.zero_le _⟩) hD hS hA (fun H locs hP hD hS => ?_)
          refine lv_if_ne (tgt := 105) hx hb dX10_hitsBy_86 (by decide) (fun cc86 => ?_) (fun cc86 => ?_)
          · have hm := k_in cc86 hm
            refine lv_iconst (v := 0) hx hb dX10_hitsBy_105 (by decide) ?_
            refine lv_istore (lv' := [(5, .int 0), (0, .ref (ad 0)), (1, .int a1), (2, .int a2), (3, .int a3), (4, .int a4), (6, .int l6), (8, .int l8)]) hx hb dX10_hitsBy_106 hl (by decide) rfl (fun ls hl => ?_)
            refine lv_iinc (v := (l8 + 1)) (lv' := [(8, .int (l8 + 1)), (5, .int 0), (0, .ref (ad 0)), (1, .int a1), (2, .int a2), (3, .int a3), (4, .int a4), (6, .int l6)]) hx hb dX10_hitsBy_108 hl (k := 7) rfl rfl (by decide) rfl (fun ls hl => ?_)
            refine lv_goto (tgt := 65) hx hb dX10_hitsBy_111 (by decide) ?_
            exact ih65 false l6 (l8 + 1) c_s c_laid _ _ hP hD hS _ (lv_sub hl [2, 3, 4, 5, 6, 1, 7, 0] rfl) hm
          · have hm := k_ip cc86 hm
            refine lv_iload_n hx hb dX10_hitsBy_89 rfl (lv_at hl 1 rfl) ?_
            refine lv_iload hx hb dX10_hitsBy_90 (lv_at hl 7 rfl) ?_
            refine lv_iload hx hb dX10_hitsBy_92 (lv_at hl 4 rfl) ?_
            obtain ⟨r3, hc94, hm⟩ := k_bds hm
            refine k_i_0 (k_rS (As := [.int a1, .int l8, .int a4]) (rest := []) ⟨hx, hb, hml, hown, hts⟩ hK hN k_P0 (k_D0 (A := A)) (zX10_target hc94) (va_cwS 3 hts gX10_hitsBy_X10_target rfl rfl rfl (by decide +kernel) ⟨Nat.le_of_ble_eq_true rfl, Nat.le_of_ble_eq_true rfl⟩) rfl hl.1 rfl (Nat.le_of_ble_eq_true rfl) dX10_hitsBy_94 ⟨Nat.zero_le _, Nat.zero_le _⟩) hP hS hA (fun H locs hP hS => ?_)
            refine lv_iload_n hx hb dX10_hitsBy_97 rfl (lv_at hl 2 rfl) ?_
            refine lv_icmp_ne (tgt := 105) hx hb dX10_hitsBy_98 (by decide) (fun cc98 => ?_) (fun cc98 => ?_)
            · have hm := k_in cc98 hm
              refine lv_iconst (v := 0) hx hb dX10_hitsBy_105 (by decide) ?_
              refine lv_istore (lv' := [(5, .int 0), (0, .ref (ad 0)), (1, .int a1), (2, .int a2), (3, .int a3), (4, .int a4), (6, .int l6), (8, .int l8)]) hx hb dX10_hitsBy_106 hl (by decide) rfl (fun ls hl => ?_)
              refine lv_iinc (v := (l8 + 1)) (lv' := [(8, .int (l8 + 1)), (5, .int 0), (0, .ref (ad 0)), (1, .int a1), (2, .int a2), (3, .int a3), (4, .int a4), (6, .int l6)]) hx hb dX10_hitsBy_108 hl (k := 7) rfl rfl (by decide) rfl (fun ls hl => ?_)
              refine lv_goto (tgt := 65) hx hb dX10_hitsBy_111 (by decide) ?_
              exact ih65 false l6 (l8 + 1) c_s c_laid _ _ hP hD hS _ (lv_sub hl [2, 3, 4, 5, 6, 1, 7, 0] rfl) hm
            · have hm := k_ip cc98 hm
              refine lv_iconst (v := 1) hx hb dX10_hitsBy_101 (by decide) ?_
              refine lv_goto (tgt := 106) hx hb dX10_hitsBy_102 (by decide) ?_
              refine lv_istore (lv' := [(5, .int 1), (0, .ref (ad 0)), (1, .int a1), (2, .int a2), (3, .int a3), (4, .int a4), (6, .int l6), (8, .int l8)]) hx hb dX10_hitsBy_106 hl (by decide) rfl (fun ls hl => ?_)
              refine lv_iinc (v := (l8 + 1)) (lv' := [(8, .int (l8 + 1)), (5, .int 1), (0, .ref (ad 0)), (1, .int a1), (2, .int a2), (3, .int a3), (4, .int a4), (6, .int l6)]) hx hb dX10_hitsBy_108 hl (k := 7) rfl rfl (by decide) rfl (fun ls hl => ?_)
              refine lv_goto (tgt := 65) hx hb dX10_hitsBy_111 (by decide) ?_
              exact ih65 true l6 (l8 + 1) c_s c_laid _ _ hP hD hS _ (lv_sub hl [2, 3, 4, 5, 6, 1, 7, 0] rfl) hm) k_F
    have J_45 : ∀ (t0 : Bool) (l6 : Int32) (c_s : Nat → Int32) (c_laid : Nat → Int32) (H : Heap) (locs : List Loc), va_P D vwCl (wM cI cJ ad c_s c_before c_known c_kept c_isKept c_aside c_buffer c_length c_thrown c_laid c_spot c_isWrong c_isHalted c_mine c_theirs c_many c_from0 c_from1 c_dice c_hash) H → va_D A (wM cI cJ ad c_s c_before c_known c_kept c_isKept c_aside c_buffer c_length c_thrown c_laid c_spot c_isWrong c_isHalted c_mine c_theirs c_many c_from0 c_from1 c_dice c_hash) → va_S A z.heap H locs → ∀ ls : Array Slot, lv_has ls 9 [(0, .ref (ad 0)), (1, .int a1), (2, .int a2), (3, .int a3), (4, .int a4), (6, .int l6)] → mX10_hitsBy_45 a1 a2 a3 a4 k6 t0 l6 c_s c_laid = some (r, c_s', c_laid') → W p l e rmX10_hitsBy z m ([.ref (ad 0), .int a1, .int a2, .int a3, .int a4] : List Value).toArray below meth c H locs 0 0 (k_Qi below ([.ref (ad 0), .int a1, .int a2, .int a3, .int a4] : List Value) D (kT cI cJ cC cG) z A (wM cI cJ ad c_s' c_before c_known c_kept c_isKept c_aside c_buffer c_length c_thrown c_laid' c_spot c_isWrong c_isHalted c_mine c_theirs c_many c_from0 c_from1 c_dice c_hash) (k_b r)) (F0 m 45 ls [.int (k_b t0)]) := by
      intro t0 l6 c_s c_laid H locs hP hD hS ls hl hm
      unfold mX10_hitsBy_45 at hm
      refine lv_istore (lv' := [(5, .int (k_b t0)), (0, .ref (ad 0)), (1, .int a1), (2, .int a2), (3, .int a3), (4, .int a4), (6, .int l6)]) hx hb dX10_hitsBy_45 hl (by decide) rfl (fun ls hl => ?_)
      refine lv_aload_n hx hb dX10_hitsBy_47 rfl (lv_at hl 1 rfl) ?_
      refine lv_iconst (v := 0) hx hb dX10_hitsBy_48 (by decide) ?_
      obtain ⟨w4, hc49, hm⟩ := k_bds hm
      refine k_v_s (k_rV (As := [.int 0]) (rest := []) ⟨hx, hb, hml, hown, hts⟩ hK hN hP hD (zX10_lays hc49) (cwV 1 hts gX10_hitsBy_X10_lays rfl rfl rfl (by decide +kernel) ⟨Nat.le_of_ble_eq_true rfl, Nat.le_of_ble_eq_true rfl⟩) rfl rfl rfl hl.1 rfl (Nat.le_of_ble_eq_true rfl) dX10_hitsBy_49 ⟨Nat.zero_le _, Nat.zero_le _⟩) hD hS hA (fun H locs hP hD hS => ?_)
      refine lv_aload_n hx hb dX10_hitsBy_52 rfl (lv_at hl 1 rfl) ?_
      refine lv_iload_n hx hb dX10_hitsBy_53 rfl (lv_at hl 2 rfl) ?_
      refine lv_iload hx hb dX10_hitsBy_54 (lv_at hl 6 rfl) ?_
      refine lv_iload_n hx hb dX10_hitsBy_56 rfl (lv_at hl 4 rfl) ?_
      obtain ⟨r5, w6, hc57, hm⟩ := k_bd2s hm
      refine k_i_s (k_rV (As := [.int a1, .int l6, .int a3]) (rest := []) ⟨hx, hb, hml, hown, hts⟩ hK hN hP hD (zX10_moves hc57) (cwV 3 hts gX10_hitsBy_X10_moves rfl rfl rfl (by decide +kernel) ⟨Nat.le_of_ble_eq_true rfl, Nat.le_of_ble_eq_true rfl⟩) rfl rfl rfl hl.1 rfl (Nat.le_of_ble_eq_true rfl) dX10_hitsBy_57 ⟨Nat.zero_le _, Nat.zero_le _⟩) hD hS hA (fun H locs hP hD hS => ?_)
      refine lv_istore (lv' := [(7, .int (k_b r5)), (5, .int (k_b t0)), (0, .ref (ad 0)), (1, .int a1), (2, .int a2), (3, .int a3), (4, .int a4), (6, .int l6)]) hx hb dX10_hitsBy_60 hl (by decide) rfl (fun ls hl => ?_)
      refine lv_iconst (v := (-1)) hx hb dX10_hitsBy_62 (by decide) ?_
      refine lv_istore (lv' := [(8, .int (-1)), (7, .int (k_b r5)), (5, .int (k_b t0)), (0, .ref (ad 0)), (1, .int a1), (2, .int a2), (3, .int a3), (4, .int a4), (6, .int l6)]) hx hb dX10_hitsBy_63 hl (by decide) rfl (fun ls hl => ?_)
      exact J_65 t0 l6 (-1) w6 w4 _ _ hP hD hS _ (lv_sub hl [3, 4, 5, 6, 7, 2, 8, 0] rfl) hm
    intro l5 l6 c_s c_laid H locs hP hD hS ls hl hm
    unfold mX10_hitsBy_6 at hm
    refine lv_iload hx hb dX10_hitsBy_6 (lv_at hl 6 rfl) ?_
    refine lv_bipush (v := 16) hx hb dX10_hitsBy_8 (by decide) ?_
    refine lv_icmp_ge (tgt := 125) hx hb dX10_hitsBy_10 (by decide) (fun cc10 => ?_) (fun cc10 => ?_)
    · have hm := k_ip cc10 hm
      refine lv_iload hx hb dX10_hitsBy_125 (lv_at hl 5 rfl) ?_
      cases hm
      exact k_end_z _ hx hb hr hlocks hK hP hD hS dX10_hitsBy_127
    · have hm := k_in cc10 hm
      refine lv_iload hx hb dX10_hitsBy_13 (lv_at hl 5 rfl) ?_
      refine lv_if_ne (tgt := 125) hx hb dX10_hitsBy_15 (by decide) (fun cc15 => ?_) (fun cc15 => ?_)
      · have hm := k_in cc15 hm
        refine lv_iload hx hb dX10_hitsBy_125 (lv_at hl 5 rfl) ?_
        cases hm
        exact k_end_z _ hx hb hr hlocks hK hP hD hS dX10_hitsBy_127
      · have hm := k_ip cc15 hm
        refine lv_aload_n hx hb dX10_hitsBy_18 rfl (lv_at hl 0 rfl) ?_
        refine lv_iload_n hx hb dX10_hitsBy_19 rfl (lv_at hl 1 rfl) ?_
        refine lv_iload hx hb dX10_hitsBy_20 (lv_at hl 6 rfl) ?_
        refine lv_iload_n hx hb dX10_hitsBy_22 rfl (lv_at hl 3 rfl) ?_
        obtain ⟨r7, hc23, hm⟩ := k_bds hm
        refine k_i_s (k_rV (As := [.int a1, .int l6, .int a3]) (rest := []) ⟨hx, hb, hml, hown, hts⟩ hK hN hP hD (zX10_refused hc23) (cwV 3 hts gX10_hitsBy_X10_refused rfl rfl rfl (by decide +kernel) ⟨Nat.le_of_ble_eq_true rfl, Nat.le_of_ble_eq_true rfl⟩) rfl rfl rfl hl.1 rfl (Nat.le_of_ble_eq_true rfl) dX10_hitsBy_23 ⟨Nat.zero_le _, Nat.zero_le _⟩) hD hS hA (fun H locs hP hD hS => ?_)
        refine lv_if_ne (tgt := 119) hx hb dX10_hitsBy_26 (by decide) (fun cc26 => ?_) (fun cc26 => ?_)
        · have hm := k_in cc26 hm
          refine lv_iinc (v := (l6 + 1)) (lv' := [(6, .int (l6 + 1)), (0, .ref (ad 0)), (1, .int a1), (2, .int a2), (3, .int a3), (4, .int a4), (5, .int (k_b l5))]) hx hb dX10_hitsBy_119 hl (k := 6) rfl rfl (by decide) rfl (fun ls hl => ?_)
          refine lv_goto (tgt := 6) hx hb dX10_hitsBy_122 (by decide) ?_
          exact ih6 l5 (l6 + 1) c_s c_laid _ _ hP hD hS _ (lv_sub hl [1, 2, 3, 4, 5, 6, 0] rfl) hm
        · have hm := k_ip cc26 hm
          refine lv_iload_n hx hb dX10_hitsBy_29 rfl (lv_at hl 1 rfl) ?_
          refine lv_iload hx hb dX10_hitsBy_30 (lv_at hl 6 rfl) ?_
          refine lv_iload_n hx hb dX10_hitsBy_32 rfl (lv_at hl 3 rfl) ?_
          obtain ⟨r8, hc33, hm⟩ := k_bds hm
          refine k_i_0 (k_rS (As := [.int a1, .int l6, .int a3]) (rest := []) ⟨hx, hb, hml, hown, hts⟩ hK hN k_P0 (k_D0 (A := A)) (zX10_target hc33) (va_cwS 3 hts gX10_hitsBy_X10_target rfl rfl rfl (by decide +kernel) ⟨Nat.le_of_ble_eq_true rfl, Nat.le_of_ble_eq_true rfl⟩) rfl hl.1 rfl (Nat.le_of_ble_eq_true rfl) dX10_hitsBy_33 ⟨Nat.zero_le _, Nat.zero_le _⟩) hP hS hA (fun H locs hP hS => ?_)
          refine lv_iload_n hx hb dX10_hitsBy_36 rfl (lv_at hl 2 rfl) ?_
          refine lv_icmp_ne (tgt := 44) hx hb dX10_hitsBy_37 (by decide) (fun cc37 => ?_) (fun cc37 => ?_)
          · have hm := k_in cc37 hm
            refine lv_iconst (v := 0) hx hb dX10_hitsBy_44 (by decide) ?_
            exact J_45 false l6 c_s c_laid _ _ hP hD hS _ (lv_sub hl [0, 1, 2, 3, 4, 6] rfl) hm
          · have hm := k_ip cc37 hm
            refine lv_iconst (v := 1) hx hb dX10_hitsBy_40 (by decide) ?_
            refine lv_goto (tgt := 45) hx hb dX10_hitsBy_41 (by decide) ?_
            exact J_45 true l6 c_s c_laid _ _ hP hD hS _ (lv_sub hl [0, 1, 2, 3, 4, 6] rfl) hm) k_F
  unfold mX10_hitsBy at hm
  refine lv_iconst (v := 0) hx hb dX10_hitsBy_0 (by decide) ?_
  refine lv_istore (lv' := [(5, .int 0), (0, .ref (ad 0)), (1, .int a1), (2, .int a2), (3, .int a3), (4, .int a4)]) hx hb dX10_hitsBy_1 hl (by decide) rfl (fun ls hl => ?_)
  refine lv_iconst (v := (-1)) hx hb dX10_hitsBy_3 (by decide) ?_
  refine lv_istore (lv' := [(6, .int (-1)), (5, .int 0), (0, .ref (ad 0)), (1, .int a1), (2, .int a2), (3, .int a3), (4, .int a4)]) hx hb dX10_hitsBy_4 hl (by decide) rfl (fun ls hl => ?_)
  exact J_6 false (-1) c_s c_laid _ _ hP hD hS _ (lv_sub hl [2, 3, 4, 5, 6, 1, 0] rfl) hm

abbrev rmX10_hitsByLike : Room := { frames := 3, cells := 0, slots := 0, locals := 71 }
set_option maxHeartbeats 4000000 in
set_option maxRecDepth 100000 in
theorem zX10_hitsByLike {l : Launch} {D : va_G} {cI cJ cC cG : ClassId} {sz : Nat} {ad : Nat → Nat} {c_s : Nat → Int32} {c_before : Nat → Int32} {c_known : Int32} {c_kept : Nat → Int32} {c_isKept : Bool} {c_aside : Nat → Int32} {c_buffer : Nat → Int32} {c_length : Int32} {c_thrown : Int32} {c_laid : Nat → Int32} {c_spot : Int32} {c_isWrong : Bool} {c_isHalted : Bool} {c_mine : Nat → Int64} {c_theirs : Nat → Int64} {c_many : Int32} {c_from0 : Nat → Int64} {c_from1 : Nat → Int64} {c_dice : Nat → Int32} {c_hash : Int64} {a1 : Int32} {a2 : Int32} {a3 : Int32} {r : Bool} {c_s' : Nat → Int32} {c_laid' : Nat → Int32} (hm : mX10_hitsByLike c_s c_laid a1 a2 a3 = some (r, c_s', c_laid')) : k_Mi l yX10_hitsByLike wsX10_hitsByLike rmX10_hitsByLike D (kT cI cJ cC cG) sz ([.ref (ad 0), .int a1, .int a2, .int a3] : List Value) (wM cI cJ ad c_s c_before c_known c_kept c_isKept c_aside c_buffer c_length c_thrown c_laid c_spot c_isWrong c_isHalted c_mine c_theirs c_many c_from0 c_from1 c_dice c_hash) (wM cI cJ ad c_s' c_before c_known c_kept c_isKept c_aside c_buffer c_length c_thrown c_laid' c_spot c_isWrong c_isHalted c_mine c_theirs c_many c_from0 c_from1 c_dice c_hash) (k_b r) := by
  refine k_st_i (cc := cX10_hitsByLike) (maxL := 10) (by decide) rfl (Nat.le_of_ble_eq_true rfl) ?_
  intro p e z m below meth c A hx hb hr hml hts hown hlocks hsz hN hA hK hP hD hS ls hl
  have hown : z.vm.findClass RX10 = some m.cls := hown
  have hl : lv_has ls 10 [(0, .ref (ad 0)), (1, .int a1), (2, .int a2), (3, .int a3)] := hl
  have J_202 : ∀ (l4 : Bool) (c_s : Nat → Int32) (c_laid : Nat → Int32) (H : Heap) (locs : List Loc), va_P D vwCl (wM cI cJ ad c_s c_before c_known c_kept c_isKept c_aside c_buffer c_length c_thrown c_laid c_spot c_isWrong c_isHalted c_mine c_theirs c_many c_from0 c_from1 c_dice c_hash) H → va_D A (wM cI cJ ad c_s c_before c_known c_kept c_isKept c_aside c_buffer c_length c_thrown c_laid c_spot c_isWrong c_isHalted c_mine c_theirs c_many c_from0 c_from1 c_dice c_hash) → va_S A z.heap H locs → ∀ ls : Array Slot, lv_has ls 10 [(0, .ref (ad 0)), (4, .int (k_b l4))] → mX10_hitsByLike_202 a1 a2 a3 l4 c_s c_laid = some (r, c_s', c_laid') → W p l e rmX10_hitsByLike z m ([.ref (ad 0), .int a1, .int a2, .int a3] : List Value).toArray below meth c H locs 0 0 (k_Qi below ([.ref (ad 0), .int a1, .int a2, .int a3] : List Value) D (kT cI cJ cC cG) z A (wM cI cJ ad c_s' c_before c_known c_kept c_isKept c_aside c_buffer c_length c_thrown c_laid' c_spot c_isWrong c_isHalted c_mine c_theirs c_many c_from0 c_from1 c_dice c_hash) (k_b r)) (F0 m 202 ls []) := by
    intro l4 c_s c_laid H locs hP hD hS ls hl hm
    unfold mX10_hitsByLike_202 at hm
    refine lv_aload_n hx hb dX10_hitsByLike_202 rfl (lv_at hl 0 rfl) ?_
    refine lv_iconst (v := 0) hx hb dX10_hitsByLike_203 (by decide) ?_
    obtain ⟨w1, hc204, hm⟩ := k_bds hm
    refine k_v_s (k_rV (As := [.int 0]) (rest := []) ⟨hx, hb, hml, hown, hts⟩ hK hN hP hD (zX10_takesUp hc204) (cwV 1 hts gX10_hitsByLike_X10_takesUp rfl rfl rfl (by decide +kernel) ⟨Nat.le_of_ble_eq_true rfl, Nat.le_of_ble_eq_true rfl⟩) rfl rfl rfl hl.1 rfl (Nat.le_of_ble_eq_true rfl) dX10_hitsByLike_204 ⟨Nat.zero_le _, Nat.zero_le _⟩) hD hS hA (fun H locs hP hD hS => ?_)
    refine lv_iload hx hb dX10_hitsByLike_207 (lv_at hl 1 rfl) ?_
    cases hm
    exact k_end_z _ hx hb hr hlocks hK hP hD hS dX10_hitsByLike_209
  have J_89 := k_loop (z := fun _ _ _ _ _ => none) (st := mX10_hitsByLike_89 a1 a2 a3) (fun k89 : (Bool) → (Int32) → (Int32) → (Nat → Int32) → (Nat → Int32) → Option (Bool × (Nat → Int32) × (Nat → Int32)) => ∀ (l4 : Bool) (l5 : Int32) (l6 : Int32) (c_s : Nat → Int32) (c_laid : Nat → Int32) (H : Heap) (locs : List Loc), va_P D vwCl (wM cI cJ ad c_s c_before c_known c_kept c_isKept c_aside c_buffer c_length c_thrown c_laid c_spot c_isWrong c_isHalted c_mine c_theirs c_many c_from0 c_from1 c_dice c_hash) H → va_D A (wM cI cJ ad c_s c_before c_known c_kept c_isKept c_aside c_buffer c_length c_thrown c_laid c_spot c_isWrong c_isHalted c_mine c_theirs c_many c_from0 c_from1 c_dice c_hash) → va_S A z.heap H locs → ∀ ls : Array Slot, lv_has ls 10 [(0, .ref (ad 0)), (1, .int a1), (2, .int a2), (3, .int a3), (4, .int (k_b l4)), (5, .int l5), (6, .int l6)] → k89 l4 l5 l6 c_s c_laid = some (r, c_s', c_laid') → W p l e rmX10_hitsByLike z m ([.ref (ad 0), .int a1, .int a2, .int a3] : List Value).toArray below meth c H locs 0 0 (k_Qi below ([.ref (ad 0), .int a1, .int a2, .int a3] : List Value) D (kT cI cJ cC cG) z A (wM cI cJ ad c_s' c_before c_known c_kept c_isKept c_aside c_buffer c_length c_thrown c_laid' c_spot c_isWrong c_isHalted c_mine c_theirs c_many c_from0 c_from1 c_dice c_hash) (k_b r)) (F0 m 89 ls [])) (by intros; rename_i h; cases h) (by
    intro k89 ih89
    have J_120 := k_loop (z := fun _ _ _ _ _ _ _ _ => none) (st := mX10_hitsByLike_120 a1 a2 a3 k89) (fun k120 : (Bool) → (Int32) → (Int32) → (Int32) → (Bool) → (Int32) → (Nat → Int32) → (Nat → Int32) → Option (Bool × (Nat → Int32) × (Nat → Int32)) => ∀ (l4 : Bool) (l5 : Int32) (l6 : Int32) (l7 : Int32) (l8 : Bool) (l9 : Int32) (c_s : Nat → Int32) (c_laid : Nat → Int32) (H : Heap) (locs : List Loc), va_P D vwCl (wM cI cJ ad c_s c_before c_known c_kept c_isKept c_aside c_buffer c_length c_thrown c_laid c_spot c_isWrong c_isHalted c_mine c_theirs c_many c_from0 c_from1 c_dice c_hash) H → va_D A (wM cI cJ ad c_s c_before c_known c_kept c_isKept c_aside c_buffer c_length c_thrown c_laid c_spot c_isWrong c_isHalted c_mine c_theirs c_many c_from0 c_from1 c_dice c_hash) → va_S A z.heap H locs → ∀ ls : Array Slot, lv_has ls 10 [(0, .ref (ad 0)), (1, .int a1), (2, .int a2), (3, .int a3), (4, .int (k_b l4)), (5, .int l5), (6, .int l6), (7, .int l7), (8, .int (k_b l8)), (9, .int l9)] → k120 l4 l5 l6 l7 l8 l9 c_s c_laid = some (r, c_s', c_laid') → W p l e rmX10_hitsByLike z m ([.ref (ad 0), .int a1, .int a2, .int a3] : List Value).toArray below meth c H locs 0 0 (k_Qi below ([.ref (ad 0), .int a1, .int a2, .int a3] : List Value) D (kT cI cJ cC cG) z A (wM cI cJ ad c_s' c_before c_known c_kept c_isKept c_aside c_buffer c_length c_thrown c_laid' c_spot c_isWrong c_isHalted c_mine c_theirs c_many c_from0 c_from1 c_dice c_hash) (k_b r)) (F0 m 120 ls [])) (by intros; rename_i h; cases h) (by
      intro k120 ih120
      have J_165 : ∀ (t0 : Bool) (l4 : Bool) (l5 : Int32) (l6 : Int32) (l7 : Int32) (l9 : Int32) (c_s : Nat → Int32) (c_laid : Nat → Int32) (H : Heap) (locs : List Loc), va_P D vwCl (wM cI cJ ad c_s c_before c_known c_kept c_isKept c_aside c_buffer c_length c_thrown c_laid c_spot c_isWrong c_isHalted c_mine c_theirs c_many c_from0 c_from1 c_dice c_hash) H → va_D A (wM cI cJ ad c_s c_before c_known c_kept c_isKept c_aside c_buffer c_length c_thrown c_laid c_spot c_isWrong c_isHalted c_mine c_theirs c_many c_from0 c_from1 c_dice c_hash) → va_S A z.heap H locs → ∀ ls : Array Slot, lv_has ls 10 [(0, .ref (ad 0)), (1, .int a1), (2, .int a2), (3, .int a3), (4, .int (k_b l4)), (5, .int l5), (6, .int l6), (7, .int l7), (9, .int l9)] → mX10_hitsByLike_165 a1 a2 a3 k89 k120 t0 l4 l5 l6 l7 l9 c_s c_laid = some (r, c_s', c_laid') → W p l e rmX10_hitsByLike z m ([.ref (ad 0), .int a1, .int a2, .int a3] : List Value).toArray below meth c H locs 0 0 (k_Qi below ([.ref (ad 0), .int a1, .int a2, .int a3] : List Value) D (kT cI cJ cC cG) z A (wM cI cJ ad c_s' c_before c_known c_kept c_isKept c_aside c_buffer c_length c_thrown c_laid' c_spot c_isWrong c_isHalted c_mine c_theirs c_many c_from0 c_from1 c_dice c_hash) (k_b r)) (F0 m 165 ls [.int (k_b t0)]) := by
        intro t0 l4 l5 l6 l7 l9 c_s c_laid H locs hP hD hS ls hl hm
        unfold mX10_hitsByLike_165 at hm
        refine lv_istore (lv' := [(8, .int (k_b t0)), (0, .ref (ad 0)), (1, .int a1), (2, .int a2), (3, .int a3), (4, .int (k_b l4)), (5, .int l5), (6, .int l6), (7, .int l7), (9, .int l9)]) hx hb dX10_hitsByLike_165 hl (by decide) rfl (fun ls hl => ?_)
        refine lv_iload hx hb dX10_hitsByLike_167 (lv_at hl 5 rfl) ?_
        refine lv_if_ne (tgt := 183) hx hb dX10_hitsByLike_169 (by decide) (fun cc169 => ?_) (fun cc169 => ?_)
        · have hm := k_in cc169 hm
          refine lv_iconst (v := 1) hx hb dX10_hitsByLike_183 (by decide) ?_
          refine lv_goto (tgt := 188) hx hb dX10_hitsByLike_184 (by decide) ?_
          refine lv_istore (lv' := [(4, .int 1), (8, .int (k_b t0)), (0, .ref (ad 0)), (1, .int a1), (2, .int a2), (3, .int a3), (5, .int l5), (6, .int l6), (7, .int l7), (9, .int l9)]) hx hb dX10_hitsByLike_188 hl (by decide) rfl (fun ls hl => ?_)
          refine lv_iinc (v := (l9 + 1)) (lv' := [(9, .int (l9 + 1)), (4, .int 1), (8, .int (k_b t0)), (0, .ref (ad 0)), (1, .int a1), (2, .int a2), (3, .int a3), (5, .int l5), (6, .int l6), (7, .int l7)]) hx hb dX10_hitsByLike_190 hl (k := 9) rfl rfl (by decide) rfl (fun ls hl => ?_)
          refine lv_goto (tgt := 120) hx hb dX10_hitsByLike_193 (by decide) ?_
          exact ih120 true l5 l6 l7 t0 (l9 + 1) c_s c_laid _ _ hP hD hS _ (lv_sub hl [3, 4, 5, 6, 1, 7, 8, 9, 2, 0] rfl) hm
        · have hm := k_ip cc169 hm
          refine lv_iload hx hb dX10_hitsByLike_172 (lv_at hl 0 rfl) ?_
          refine lv_if_eq (tgt := 187) hx hb dX10_hitsByLike_174 (by decide) (fun cc174 => ?_) (fun cc174 => ?_)
          · have hm := k_ip cc174 hm
            refine lv_iconst (v := 0) hx hb dX10_hitsByLike_187 (by decide) ?_
            refine lv_istore (lv' := [(4, .int 0), (8, .int (k_b t0)), (0, .ref (ad 0)), (1, .int a1), (2, .int a2), (3, .int a3), (5, .int l5), (6, .int l6), (7, .int l7), (9, .int l9)]) hx hb dX10_hitsByLike_188 hl (by decide) rfl (fun ls hl => ?_)
            refine lv_iinc (v := (l9 + 1)) (lv' := [(9, .int (l9 + 1)), (4, .int 0), (8, .int (k_b t0)), (0, .ref (ad 0)), (1, .int a1), (2, .int a2), (3, .int a3), (5, .int l5), (6, .int l6), (7, .int l7)]) hx hb dX10_hitsByLike_190 hl (k := 9) rfl rfl (by decide) rfl (fun ls hl => ?_)
            refine lv_goto (tgt := 120) hx hb dX10_hitsByLike_193 (by decide) ?_
            exact ih120 false l5 l6 l7 t0 (l9 + 1) c_s c_laid _ _ hP hD hS _ (lv_sub hl [3, 4, 5, 6, 1, 7, 8, 9, 2, 0] rfl) hm
          · have hm := k_in cc174 hm
            refine lv_iload hx hb dX10_hitsByLike_177 (lv_at hl 8 rfl) ?_
            refine lv_iload_n hx hb dX10_hitsByLike_179 rfl (lv_at hl 3 rfl) ?_
            refine lv_icmp_ne (tgt := 187) hx hb dX10_hitsByLike_180 (by decide) (fun cc180 => ?_) (fun cc180 => ?_)
            · have hm := k_in cc180 hm
              refine lv_iconst (v := 0) hx hb dX10_hitsByLike_187 (by decide) ?_
              refine lv_istore (lv' := [(4, .int 0), (8, .int (k_b t0)), (0, .ref (ad 0)), (1, .int a1), (2, .int a2), (3, .int a3), (5, .int l5), (6, .int l6), (7, .int l7), (9, .int l9)]) hx hb dX10_hitsByLike_188 hl (by decide) rfl (fun ls hl => ?_)
              refine lv_iinc (v := (l9 + 1)) (lv' := [(9, .int (l9 + 1)), (4, .int 0), (8, .int (k_b t0)), (0, .ref (ad 0)), (1, .int a1), (2, .int a2), (3, .int a3), (5, .int l5), (6, .int l6), (7, .int l7)]) hx hb dX10_hitsByLike_190 hl (k := 9) rfl rfl (by decide) rfl (fun ls hl => ?_)
              refine lv_goto (tgt := 120) hx hb dX10_hitsByLike_193 (by decide) ?_
              exact ih120 false l5 l6 l7 t0 (l9 + 1) c_s c_laid _ _ hP hD hS _ (lv_sub hl [3, 4, 5, 6, 1, 7, 8, 9, 2, 0] rfl) hm
            · have hm := k_ip cc180 hm
              refine lv_iconst (v := 1) hx hb dX10_hitsByLike_183 (by decide) ?_
              refine lv_goto (tgt := 188) hx hb dX10_hitsByLike_184 (by decide) ?_
              refine lv_istore (lv' := [(4, .int 1), (8, .int (k_b t0)), (0, .ref (ad 0)), (1, .int a1), (2, .int a2), (3, .int a3), (5, .int l5), (6, .int l6), (7, .int l7), (9, .int l9)]) hx hb dX10_hitsByLike_188 hl (by decide) rfl (fun ls hl => ?_)
              refine lv_iinc (v := (l9 + 1)) (lv' := [(9, .int (l9 + 1)), (4, .int 1), (8, .int (k_b t0)), (0, .ref (ad 0)), (1, .int a1), (2, .int a2), (3, .int a3), (5, .int l5), (6, .int l6), (7, .int l7)]) hx hb dX10_hitsByLike_190 hl (k := 9) rfl rfl (by decide) rfl (fun ls hl => ?_)
              refine lv_goto (tgt := 120) hx hb dX10_hitsByLike_193 (by decide) ?_
              exact ih120 true l5 l6 l7 t0 (l9 + 1) c_s c_laid _ _ hP hD hS _ (lv_sub hl [3, 4, 5, 6, 1, 7, 8, 9, 2, 0] rfl) hm
      have J_164 : ∀ (l4 : Bool) (l5 : Int32) (l6 : Int32) (l7 : Int32) (l9 : Int32) (c_s : Nat → Int32) (c_laid : Nat → Int32) (H : Heap) (locs : List Loc), va_P D vwCl (wM cI cJ ad c_s c_before c_known c_kept c_isKept c_aside c_buffer c_length c_thrown c_laid c_spot c_isWrong c_isHalted c_mine c_theirs c_many c_from0 c_from1 c_dice c_hash) H → va_D A (wM cI cJ ad c_s c_before c_known c_kept c_isKept c_aside c_buffer c_length c_thrown c_laid c_spot c_isWrong c_isHalted c_mine c_theirs c_many c_from0 c_from1 c_dice c_hash) → va_S A z.heap H locs → ∀ ls : Array Slot, lv_has ls 10 [(0, .ref (ad 0)), (1, .int a1), (2, .int a2), (3, .int a3), (4, .int (k_b l4)), (5, .int l5), (6, .int l6), (7, .int l7), (9, .int l9)] → mX10_hitsByLike_164 a1 a2 a3 k89 k120 l4 l5 l6 l7 l9 c_s c_laid = some (r, c_s', c_laid') → W p l e rmX10_hitsByLike z m ([.ref (ad 0), .int a1, .int a2, .int a3] : List Value).toArray below meth c H locs 0 0 (k_Qi below ([.ref (ad 0), .int a1, .int a2, .int a3] : List Value) D (kT cI cJ cC cG) z A (wM cI cJ ad c_s' c_before c_known c_kept c_isKept c_aside c_buffer c_length c_thrown c_laid' c_spot c_isWrong c_isHalted c_mine c_theirs c_many c_from0 c_from1 c_dice c_hash) (k_b r)) (F0 m 164 ls []) := by
        intro l4 l5 l6 l7 l9 c_s c_laid H locs hP hD hS ls hl hm
        unfold mX10_hitsByLike_164 at hm
        refine lv_iconst (v := 0) hx hb dX10_hitsByLike_164 (by decide) ?_
        exact J_165 false l4 l5 l6 l7 l9 c_s c_laid _ _ hP hD hS _ (lv_sub hl [0, 1, 2, 3, 4, 5, 6, 7, 8] rfl) hm
      intro l4 l5 l6 l7 l8 l9 c_s c_laid H locs hP hD hS ls hl hm
      unfold mX10_hitsByLike_120 at hm
      refine lv_iload hx hb dX10_hitsByLike_120 (lv_at hl 9 rfl) ?_
      refine lv_iload hx hb dX10_hitsByLike_122 (lv_at hl 5 rfl) ?_
      refine lv_icmp_ge (tgt := 196) hx hb dX10_hitsByLike_124 (by decide) (fun cc124 => ?_) (fun cc124 => ?_)
      · have hm := k_ip cc124 hm
        refine lv_iinc (v := (l6 + 1)) (lv' := [(6, .int (l6 + 1)), (0, .ref (ad 0)), (1, .int a1), (2, .int a2), (3, .int a3), (4, .int (k_b l4)), (5, .int l5), (7, .int l7), (8, .int (k_b l8)), (9, .int l9)]) hx hb dX10_hitsByLike_196 hl (k := 6) rfl rfl (by decide) rfl (fun ls hl => ?_)
        refine lv_goto (tgt := 89) hx hb dX10_hitsByLike_199 (by decide) ?_
        exact ih89 l4 l5 (l6 + 1) c_s c_laid _ _ hP hD hS _ (lv_sub hl [1, 2, 3, 4, 5, 6, 0] rfl) hm
      · have hm := k_in cc124 hm
        refine lv_iload hx hb dX10_hitsByLike_127 (lv_at hl 8 rfl) ?_
        refine lv_if_eq (tgt := 196) hx hb dX10_hitsByLike_129 (by decide) (fun cc129 => ?_) (fun cc129 => ?_)
        · have hm := k_ip cc129 hm
          refine lv_iinc (v := (l6 + 1)) (lv' := [(6, .int (l6 + 1)), (0, .ref (ad 0)), (1, .int a1), (2, .int a2), (3, .int a3), (4, .int (k_b l4)), (5, .int l5), (7, .int l7), (8, .int (k_b l8)), (9, .int l9)]) hx hb dX10_hitsByLike_196 hl (k := 6) rfl rfl (by decide) rfl (fun ls hl => ?_)
          refine lv_goto (tgt := 89) hx hb dX10_hitsByLike_199 (by decide) ?_
          exact ih89 l4 l5 (l6 + 1) c_s c_laid _ _ hP hD hS _ (lv_sub hl [1, 2, 3, 4, 5, 6, 0] rfl) hm
        · have hm := k_in cc129 hm
          refine lv_iload_n hx hb dX10_hitsByLike_132 rfl (lv_at hl 1 rfl) ?_
          refine lv_iload hx hb dX10_hitsByLike_133 (lv_at hl 7 rfl) ?_
          refine lv_iload_n hx hb dX10_hitsByLike_135 rfl (lv_at hl 3 rfl) ?_
          obtain ⟨r2, hc136, hm⟩ := k_bds hm
          refine k_i_0 (k_rS (As := [.int a1, .int l7, .int a3]) (rest := []) ⟨hx, hb, hml, hown, hts⟩ hK hN k_P0 (k_D0 (A := A)) (zX10_target hc136) (va_cwS 3 hts gX10_hitsByLike_X10_target rfl rfl rfl (by decide +kernel) ⟨Nat.le_of_ble_eq_true rfl, Nat.le_of_ble_eq_true rfl⟩) rfl hl.1 rfl (Nat.le_of_ble_eq_true rfl) dX10_hitsByLike_136 ⟨Nat.zero_le _, Nat.zero_le _⟩) hP hS hA (fun H locs hP hS => ?_)
          refine lv_istore (lv' := [(7, .int r2), (0, .ref (ad 0)), (1, .int a1), (2, .int a2), (3, .int a3), (4, .int (k_b l4)), (5, .int l5), (6, .int l6), (8, .int (k_b l8)), (9, .int l9)]) hx hb dX10_hitsByLike_139 hl (by decide) rfl (fun ls hl => ?_)
          refine lv_iload hx hb dX10_hitsByLike_141 (lv_at hl 0 rfl) ?_
          refine lv_bipush (v := 16) hx hb dX10_hitsByLike_143 (by decide) ?_
          refine lv_icmp_eq (tgt := 164) hx hb dX10_hitsByLike_145 (by decide) (fun cc145 => ?_) (fun cc145 => ?_)
          · have hm := k_ip cc145 hm
            exact J_164 l4 l5 l6 r2 l9 c_s c_laid _ _ hP hD hS _ (lv_sub hl [1, 2, 3, 4, 5, 6, 7, 0, 9] rfl) hm
          · have hm := k_in cc145 hm
            refine lv_aload_n hx hb dX10_hitsByLike_148 rfl (lv_at hl 1 rfl) ?_
            refine lv_iconst (v := 1) hx hb dX10_hitsByLike_149 (by decide) ?_
            refine lv_iload_n hx hb dX10_hitsByLike_150 rfl (lv_at hl 2 rfl) ?_
            refine lv_isub hx hb dX10_hitsByLike_151 ?_
            refine lv_iload hx hb dX10_hitsByLike_152 (lv_at hl 0 rfl) ?_
            obtain ⟨r3, hc154, hm⟩ := k_bds hm
            refine k_i_s (k_rV (As := [.int (1 - a1), .int r2]) (rest := []) ⟨hx, hb, hml, hown, hts⟩ hK hN hP hD (zX10_isBlock hc154) (cwV 2 hts gX10_hitsByLike_X10_isBlock rfl rfl rfl (by decide +kernel) ⟨Nat.le_of_ble_eq_true rfl, Nat.le_of_ble_eq_true rfl⟩) rfl rfl rfl hl.1 rfl (Nat.le_of_ble_eq_true rfl) dX10_hitsByLike_154 ⟨Nat.zero_le _, Nat.zero_le _⟩) hD hS hA (fun H locs hP hD hS => ?_)
            refine lv_if_ne (tgt := 164) hx hb dX10_hitsByLike_157 (by decide) (fun cc157 => ?_) (fun cc157 => ?_)
            · have hm := k_in cc157 hm
              exact J_164 l4 l5 l6 r2 l9 c_s c_laid _ _ hP hD hS _ (lv_sub hl [1, 2, 3, 4, 5, 6, 7, 0, 9] rfl) hm
            · have hm := k_ip cc157 hm
              refine lv_iconst (v := 1) hx hb dX10_hitsByLike_160 (by decide) ?_
              refine lv_goto (tgt := 165) hx hb dX10_hitsByLike_161 (by decide) ?_
              exact J_165 true l4 l5 l6 r2 l9 c_s c_laid _ _ hP hD hS _ (lv_sub hl [1, 2, 3, 4, 5, 6, 7, 0, 9] rfl) hm) k_F
    have J_115 : ∀ (t0 : Bool) (l4 : Bool) (l5 : Int32) (l6 : Int32) (l7 : Int32) (c_s : Nat → Int32) (c_laid : Nat → Int32) (H : Heap) (locs : List Loc), va_P D vwCl (wM cI cJ ad c_s c_before c_known c_kept c_isKept c_aside c_buffer c_length c_thrown c_laid c_spot c_isWrong c_isHalted c_mine c_theirs c_many c_from0 c_from1 c_dice c_hash) H → va_D A (wM cI cJ ad c_s c_before c_known c_kept c_isKept c_aside c_buffer c_length c_thrown c_laid c_spot c_isWrong c_isHalted c_mine c_theirs c_many c_from0 c_from1 c_dice c_hash) → va_S A z.heap H locs → ∀ ls : Array Slot, lv_has ls 10 [(0, .ref (ad 0)), (1, .int a1), (2, .int a2), (3, .int a3), (4, .int (k_b l4)), (5, .int l5), (6, .int l6), (7, .int l7)] → mX10_hitsByLike_115 a1 a2 a3 k89 t0 l4 l5 l6 l7 c_s c_laid = some (r, c_s', c_laid') → W p l e rmX10_hitsByLike z m ([.ref (ad 0), .int a1, .int a2, .int a3] : List Value).toArray below meth c H locs 0 0 (k_Qi below ([.ref (ad 0), .int a1, .int a2, .int a3] : List Value) D (kT cI cJ cC cG) z A (wM cI cJ ad c_s' c_before c_known c_kept c_isKept c_aside c_buffer c_length c_thrown c_laid' c_spot c_isWrong c_isHalted c_mine c_theirs c_many c_from0 c_from1 c_dice c_hash) (k_b r)) (F0 m 115 ls [.int (k_b t0)]) := by
      intro t0 l4 l5 l6 l7 c_s c_laid H locs hP hD hS ls hl hm
      unfold mX10_hitsByLike_115 at hm
      refine lv_istore (lv' := [(8, .int (k_b t0)), (0, .ref (ad 0)), (1, .int a1), (2, .int a2), (3, .int a3), (4, .int (k_b l4)), (5, .int l5), (6, .int l6), (7, .int l7)]) hx hb dX10_hitsByLike_115 hl (by decide) rfl (fun ls hl => ?_)
      refine lv_iconst (v := 0) hx hb dX10_hitsByLike_117 (by decide) ?_
      refine lv_istore (lv' := [(9, .int 0), (8, .int (k_b t0)), (0, .ref (ad 0)), (1, .int a1), (2, .int a2), (3, .int a3), (4, .int (k_b l4)), (5, .int l5), (6, .int l6), (7, .int l7)]) hx hb dX10_hitsByLike_118 hl (by decide) rfl (fun ls hl => ?_)
      exact J_120 l4 l5 l6 l7 t0 0 c_s c_laid _ _ hP hD hS _ (lv_sub hl [2, 3, 4, 5, 6, 7, 8, 9, 1, 0] rfl) hm
    intro l4 l5 l6 c_s c_laid H locs hP hD hS ls hl hm
    unfold mX10_hitsByLike_89 at hm
    refine lv_iload hx hb dX10_hitsByLike_89 (lv_at hl 6 rfl) ?_
    refine lv_bipush (v := 16) hx hb dX10_hitsByLike_91 (by decide) ?_
    refine lv_icmp_ge (tgt := 202) hx hb dX10_hitsByLike_93 (by decide) (fun cc93 => ?_) (fun cc93 => ?_)
    · have hm := k_ip cc93 hm
      exact J_202 l4 c_s c_laid _ _ hP hD hS _ (lv_sub hl [0, 4] rfl) hm
    · have hm := k_in cc93 hm
      refine lv_iload hx hb dX10_hitsByLike_96 (lv_at hl 6 rfl) ?_
      refine lv_istore (lv' := [(7, .int l6), (0, .ref (ad 0)), (1, .int a1), (2, .int a2), (3, .int a3), (4, .int (k_b l4)), (5, .int l5), (6, .int l6)]) hx hb dX10_hitsByLike_98 hl (by decide) rfl (fun ls hl => ?_)
      refine lv_aload_n hx hb dX10_hitsByLike_100 rfl (lv_at hl 1 rfl) ?_
      refine lv_iload_n hx hb dX10_hitsByLike_101 rfl (lv_at hl 2 rfl) ?_
      refine lv_iload hx hb dX10_hitsByLike_102 (lv_at hl 7 rfl) ?_
      obtain ⟨r4, hc104, hm⟩ := k_bds hm
      refine k_i_s (k_rV (As := [.int a1, .int l6]) (rest := []) ⟨hx, hb, hml, hown, hts⟩ hK hN hP hD (zX10_at hc104) (cwV 2 hts gX10_hitsByLike_X10_at rfl rfl rfl (by decide +kernel) ⟨Nat.le_of_ble_eq_true rfl, Nat.le_of_ble_eq_true rfl⟩) rfl rfl rfl hl.1 rfl (Nat.le_of_ble_eq_true rfl) dX10_hitsByLike_104 ⟨Nat.zero_le _, Nat.zero_le _⟩) hD hS hA (fun H locs hP hD hS => ?_)
      refine lv_if_le (tgt := 114) hx hb dX10_hitsByLike_107 (by decide) (fun cc107 => ?_) (fun cc107 => ?_)
      · have hm := k_ip cc107 hm
        refine lv_iconst (v := 0) hx hb dX10_hitsByLike_114 (by decide) ?_
        exact J_115 false l4 l5 l6 l6 c_s c_laid _ _ hP hD hS _ (lv_sub hl [1, 2, 3, 4, 5, 6, 7, 0] rfl) hm
      · have hm := k_in cc107 hm
        refine lv_iconst (v := 1) hx hb dX10_hitsByLike_110 (by decide) ?_
        refine lv_goto (tgt := 115) hx hb dX10_hitsByLike_111 (by decide) ?_
        exact J_115 true l4 l5 l6 l6 c_s c_laid _ _ hP hD hS _ (lv_sub hl [1, 2, 3, 4, 5, 6, 7, 0] rfl) hm) k_F
  have J_72 : ∀ (l4 : Bool) (l5 : Int32) (c_s : Nat → Int32) (c_laid : Nat → Int32) (H : Heap) (locs : List Loc), va_P D vwCl (wM cI cJ ad c_s c_before c_known c_kept c_isKept c_aside c_buffer c_length c_thrown c_laid c_spot c_isWrong c_isHalted c_mine c_theirs c_many c_from0 c_from1 c_dice c_hash) H → va_D A (wM cI cJ ad c_s c_before c_known c_kept c_isKept c_aside c_buffer c_length c_thrown c_laid c_spot c_isWrong c_isHalted c_mine c_theirs c_many c_from0 c_from1 c_dice c_hash) → va_S A z.heap H locs → ∀ ls : Array Slot, lv_has ls 10 [(0, .ref (ad 0)), (1, .int a1), (2, .int a2), (3, .int a3), (4, .int (k_b l4)), (5, .int l5)] → mX10_hitsByLike_72 a1 a2 a3 l4 l5 c_s c_laid = some (r, c_s', c_laid') → W p l e rmX10_hitsByLike z m ([.ref (ad 0), .int a1, .int a2, .int a3] : List Value).toArray below meth c H locs 0 0 (k_Qi below ([.ref (ad 0), .int a1, .int a2, .int a3] : List Value) D (kT cI cJ cC cG) z A (wM cI cJ ad c_s' c_before c_known c_kept c_isKept c_aside c_buffer c_length c_thrown c_laid' c_spot c_isWrong c_isHalted c_mine c_theirs c_many c_from0 c_from1 c_dice c_hash) (k_b r)) (F0 m 72 ls []) := by
    intro l4 l5 c_s c_laid H locs hP hD hS ls hl hm
    unfold mX10_hitsByLike_72 at hm
    refine lv_iload hx hb dX10_hitsByLike_72 (lv_at hl 4 rfl) ?_
    refine lv_if_ne (tgt := 202) hx hb dX10_hitsByLike_74 (by decide) (fun cc74 => ?_) (fun cc74 => ?_)
    · have hm := k_in cc74 hm
      exact J_202 l4 c_s c_laid _ _ hP hD hS _ (lv_sub hl [0, 4] rfl) hm
    · have hm := k_ip cc74 hm
      refine lv_aload_n hx hb dX10_hitsByLike_77 rfl (lv_at hl 0 rfl) ?_
      refine lv_iload_n hx hb dX10_hitsByLike_78 rfl (lv_at hl 1 rfl) ?_
      refine lv_iconst (v := (-1)) hx hb dX10_hitsByLike_79 (by decide) ?_
      obtain ⟨r5, hc80, hm⟩ := k_bds hm
      refine k_i_s (k_rV (As := [.int a1, .int (-1)]) (rest := []) ⟨hx, hb, hml, hown, hts⟩ hK hN hP hD (zX10_at hc80) (cwV 2 hts gX10_hitsByLike_X10_at rfl rfl rfl (by decide +kernel) ⟨Nat.le_of_ble_eq_true rfl, Nat.le_of_ble_eq_true rfl⟩) rfl rfl rfl hl.1 rfl (Nat.le_of_ble_eq_true rfl) dX10_hitsByLike_80 ⟨Nat.zero_le _, Nat.zero_le _⟩) hD hS hA (fun H locs hP hD hS => ?_)
      refine lv_if_ne (tgt := 202) hx hb dX10_hitsByLike_83 (by decide) (fun cc83 => ?_) (fun cc83 => ?_)
      · have hm := k_in cc83 hm
        exact J_202 l4 c_s c_laid _ _ hP hD hS _ (lv_sub hl [0, 4] rfl) hm
      · have hm := k_ip cc83 hm
        refine lv_iconst (v := 0) hx hb dX10_hitsByLike_86 (by decide) ?_
        refine lv_istore (lv' := [(6, .int 0), (0, .ref (ad 0)), (1, .int a1), (2, .int a2), (3, .int a3), (4, .int (k_b l4)), (5, .int l5)]) hx hb dX10_hitsByLike_87 hl (by decide) rfl (fun ls hl => ?_)
        exact J_89 l4 l5 0 c_s c_laid _ _ hP hD hS _ (lv_sub hl [1, 2, 3, 4, 5, 6, 0] rfl) hm
  have J_11 := k_loop (z := fun _ _ _ _ => none) (st := mX10_hitsByLike_11 a1 a2 a3) (fun k11 : (Bool) → (Int32) → (Nat → Int32) → (Nat → Int32) → Option (Bool × (Nat → Int32) × (Nat → Int32)) => ∀ (l4 : Bool) (l5 : Int32) (c_s : Nat → Int32) (c_laid : Nat → Int32) (H : Heap) (locs : List Loc), va_P D vwCl (wM cI cJ ad c_s c_before c_known c_kept c_isKept c_aside c_buffer c_length c_thrown c_laid c_spot c_isWrong c_isHalted c_mine c_theirs c_many c_from0 c_from1 c_dice c_hash) H → va_D A (wM cI cJ ad c_s c_before c_known c_kept c_isKept c_aside c_buffer c_length c_thrown c_laid c_spot c_isWrong c_isHalted c_mine c_theirs c_many c_from0 c_from1 c_dice c_hash) → va_S A z.heap H locs → ∀ ls : Array Slot, lv_has ls 10 [(0, .ref (ad 0)), (1, .int a1), (2, .int a2), (3, .int a3), (4, .int (k_b l4)), (5, .int l5)] → k11 l4 l5 c_s c_laid = some (r, c_s', c_laid') → W p l e rmX10_hitsByLike z m ([.ref (ad 0), .int a1, .int a2, .int a3] : List Value).toArray below meth c H locs 0 0 (k_Qi below ([.ref (ad 0), .int a1, .int a2, .int a3] : List Value) D (kT cI cJ cC cG) z A (wM cI cJ ad c_s' c_before c_known c_kept c_isKept c_aside c_buffer c_length c_thrown c_laid' c_spot c_isWrong c_isHalted c_mine c_theirs c_many c_from0 c_from1 c_dice c_hash) (k_b r)) (F0 m 11 ls [])) (by intros; rename_i h; cases h) (by
    intro k11 ih11
    have J_55 : ∀ (t0 : Bool) (l5 : Int32) (c_s : Nat → Int32) (c_laid : Nat → Int32) (H : Heap) (locs : List Loc), va_P D vwCl (wM cI cJ ad c_s c_before c_known c_kept c_isKept c_aside c_buffer c_length c_thrown c_laid c_spot c_isWrong c_isHalted c_mine c_theirs c_many c_from0 c_from1 c_dice c_hash) H → va_D A (wM cI cJ ad c_s c_before c_known c_kept c_isKept c_aside c_buffer c_length c_thrown c_laid c_spot c_isWrong c_isHalted c_mine c_theirs c_many c_from0 c_from1 c_dice c_hash) → va_S A z.heap H locs → ∀ ls : Array Slot, lv_has ls 10 [(0, .ref (ad 0)), (1, .int a1), (2, .int a2), (3, .int a3), (5, .int l5)] → mX10_hitsByLike_55 a1 a2 a3 k11 t0 l5 c_s c_laid = some (r, c_s', c_laid') → W p l e rmX10_hitsByLike z m ([.ref (ad 0), .int a1, .int a2, .int a3] : List Value).toArray below meth c H locs 0 0 (k_Qi below ([.ref (ad 0), .int a1, .int a2, .int a3] : List Value) D (kT cI cJ cC cG) z A (wM cI cJ ad c_s' c_before c_known c_kept c_isKept c_aside c_buffer c_length c_thrown c_laid' c_spot c_isWrong c_isHalted c_mine c_theirs c_many c_from0 c_from1 c_dice c_hash) (k_b r)) (F0 m 55 ls [.int (k_b t0)]) := by
      intro t0 l5 c_s c_laid H locs hP hD hS ls hl hm
      unfold mX10_hitsByLike_55 at hm
      refine lv_istore (lv' := [(4, .int (k_b t0)), (0, .ref (ad 0)), (1, .int a1), (2, .int a2), (3, .int a3), (5, .int l5)]) hx hb dX10_hitsByLike_55 hl (by decide) rfl (fun ls hl => ?_)
      refine lv_aload_n hx hb dX10_hitsByLike_57 rfl (lv_at hl 1 rfl) ?_
      refine lv_iload_n hx hb dX10_hitsByLike_58 rfl (lv_at hl 2 rfl) ?_
      refine lv_iconst (v := (-1)) hx hb dX10_hitsByLike_59 (by decide) ?_
      refine lv_iload_n hx hb dX10_hitsByLike_60 rfl (lv_at hl 4 rfl) ?_
      obtain ⟨r6, w7, hc61, hm⟩ := k_bd2s hm
      refine k_i_s (k_rV (As := [.int a1, .int (-1), .int a3]) (rest := []) ⟨hx, hb, hml, hown, hts⟩ hK hN hP hD (zX10_moves hc61) (cwV 3 hts gX10_hitsByLike_X10_moves rfl rfl rfl (by decide +kernel) ⟨Nat.le_of_ble_eq_true rfl, Nat.le_of_ble_eq_true rfl⟩) rfl rfl rfl hl.1 rfl (Nat.le_of_ble_eq_true rfl) dX10_hitsByLike_61 ⟨Nat.zero_le _, Nat.zero_le _⟩) hD hS hA (fun H locs hP hD hS => ?_)
      refine lv_istore (lv' := [(6, .int (k_b r6)), (4, .int (k_b t0)), (0, .ref (ad 0)), (1, .int a1), (2, .int a2), (3, .int a3), (5, .int l5)]) hx hb dX10_hitsByLike_64 hl (by decide) rfl (fun ls hl => ?_)
      refine lv_iinc (v := (l5 + (-1))) (lv' := [(5, .int (l5 + (-1))), (6, .int (k_b r6)), (4, .int (k_b t0)), (0, .ref (ad 0)), (1, .int a1), (2, .int a2), (3, .int a3)]) hx hb dX10_hitsByLike_66 hl (k := 6) rfl rfl (by decide) rfl (fun ls hl => ?_)
      refine lv_goto (tgt := 11) hx hb dX10_hitsByLike_69 (by decide) ?_
      exact ih11 t0 (l5 + (-1)) w7 c_laid _ _ hP hD hS _ (lv_sub hl [3, 4, 5, 6, 2, 0] rfl) hm
    intro l4 l5 c_s c_laid H locs hP hD hS ls hl hm
    unfold mX10_hitsByLike_11 at hm
    refine lv_iload hx hb dX10_hitsByLike_11 (lv_at hl 4 rfl) ?_
    refine lv_if_ne (tgt := 72) hx hb dX10_hitsByLike_13 (by decide) (fun cc13 => ?_) (fun cc13 => ?_)
    · have hm := k_in cc13 hm
      exact J_72 l4 l5 c_s c_laid _ _ hP hD hS _ (lv_sub hl [0, 1, 2, 3, 4, 5] rfl) hm
    · have hm := k_ip cc13 hm
      refine lv_iload hx hb dX10_hitsByLike_16 (lv_at hl 5 rfl) ?_
      refine lv_if_le (tgt := 72) hx hb dX10_hitsByLike_18 (by decide) (fun cc18 => ?_) (fun cc18 => ?_)
      · have hm := k_ip cc18 hm
        exact J_72 l4 l5 c_s c_laid _ _ hP hD hS _ (lv_sub hl [0, 1, 2, 3, 4, 5] rfl) hm
      · have hm := k_in cc18 hm
        refine lv_aload_n hx hb dX10_hitsByLike_21 rfl (lv_at hl 0 rfl) ?_
        refine lv_iload_n hx hb dX10_hitsByLike_22 rfl (lv_at hl 1 rfl) ?_
        refine lv_iconst (v := (-1)) hx hb dX10_hitsByLike_23 (by decide) ?_
        obtain ⟨r8, hc24, hm⟩ := k_bds hm
        refine k_i_s (k_rV (As := [.int a1, .int (-1)]) (rest := []) ⟨hx, hb, hml, hown, hts⟩ hK hN hP hD (zX10_at hc24) (cwV 2 hts gX10_hitsByLike_X10_at rfl rfl rfl (by decide +kernel) ⟨Nat.le_of_ble_eq_true rfl, Nat.le_of_ble_eq_true rfl⟩) rfl rfl rfl hl.1 rfl (Nat.le_of_ble_eq_true rfl) dX10_hitsByLike_24 ⟨Nat.zero_le _, Nat.zero_le _⟩) hD hS hA (fun H locs hP hD hS => ?_)
        refine lv_if_le (tgt := 72) hx hb dX10_hitsByLike_27 (by decide) (fun cc27 => ?_) (fun cc27 => ?_)
        · have hm := k_ip cc27 hm
          exact J_72 l4 l5 c_s c_laid _ _ hP hD hS _ (lv_sub hl [0, 1, 2, 3, 4, 5] rfl) hm
        · have hm := k_in cc27 hm
          refine lv_aload_n hx hb dX10_hitsByLike_30 rfl (lv_at hl 0 rfl) ?_
          refine lv_iload_n hx hb dX10_hitsByLike_31 rfl (lv_at hl 1 rfl) ?_
          refine lv_iconst (v := (-1)) hx hb dX10_hitsByLike_32 (by decide) ?_
          refine lv_iload_n hx hb dX10_hitsByLike_33 rfl (lv_at hl 3 rfl) ?_
          obtain ⟨r9, hc34, hm⟩ := k_bds hm
          refine k_i_s (k_rV (As := [.int a1, .int (-1), .int a3]) (rest := []) ⟨hx, hb, hml, hown, hts⟩ hK hN hP hD (zX10_refused hc34) (cwV 3 hts gX10_hitsByLike_X10_refused rfl rfl rfl (by decide +kernel) ⟨Nat.le_of_ble_eq_true rfl, Nat.le_of_ble_eq_true rfl⟩) rfl rfl rfl hl.1 rfl (Nat.le_of_ble_eq_true rfl) dX10_hitsByLike_34 ⟨Nat.zero_le _, Nat.zero_le _⟩) hD hS hA (fun H locs hP hD hS => ?_)
          refine lv_if_ne (tgt := 72) hx hb dX10_hitsByLike_37 (by decide) (fun cc37 => ?_) (fun cc37 => ?_)
          · have hm := k_in cc37 hm
            exact J_72 l4 l5 c_s c_laid _ _ hP hD hS _ (lv_sub hl [0, 1, 2, 3, 4, 5] rfl) hm
          · have hm := k_ip cc37 hm
            refine lv_iload_n hx hb dX10_hitsByLike_40 rfl (lv_at hl 1 rfl) ?_
            refine lv_iconst (v := (-1)) hx hb dX10_hitsByLike_41 (by decide) ?_
            refine lv_iload_n hx hb dX10_hitsByLike_42 rfl (lv_at hl 3 rfl) ?_
            obtain ⟨r10, hc43, hm⟩ := k_bds hm
            refine k_i_0 (k_rS (As := [.int a1, .int (-1), .int a3]) (rest := []) ⟨hx, hb, hml, hown, hts⟩ hK hN k_P0 (k_D0 (A := A)) (zX10_target hc43) (va_cwS 3 hts gX10_hitsByLike_X10_target rfl rfl rfl (by decide +kernel) ⟨Nat.le_of_ble_eq_true rfl, Nat.le_of_ble_eq_true rfl⟩) rfl hl.1 rfl (Nat.le_of_ble_eq_true rfl) dX10_hitsByLike_43 ⟨Nat.zero_le _, Nat.zero_le _⟩) hP hS hA (fun H locs hP hS => ?_)
            refine lv_iload_n hx hb dX10_hitsByLike_46 rfl (lv_at hl 2 rfl) ?_
            refine lv_icmp_ne (tgt := 54) hx hb dX10_hitsByLike_47 (by decide) (fun cc47 => ?_) (fun cc47 => ?_)
            · have hm := k_in cc47 hm
              refine lv_iconst (v := 0) hx hb dX10_hitsByLike_54 (by decide) ?_
              exact J_55 false l5 c_s c_laid _ _ hP hD hS _ (lv_sub hl [0, 1, 2, 3, 5] rfl) hm
            · have hm := k_ip cc47 hm
              refine lv_iconst (v := 1) hx hb dX10_hitsByLike_50 (by decide) ?_
              refine lv_goto (tgt := 55) hx hb dX10_hitsByLike_51 (by decide) ?_
              exact J_55 true l5 c_s c_laid _ _ hP hD hS _ (lv_sub hl [0, 1, 2, 3, 5] rfl) hm) k_F
  unfold mX10_hitsByLike at hm
  refine lv_aload_n hx hb dX10_hitsByLike_0 rfl (lv_at hl 0 rfl) ?_
  refine lv_iconst (v := 0) hx hb dX10_hitsByLike_1 (by decide) ?_
  obtain ⟨w11, hc2, hm⟩ := k_bds hm
  refine k_v_s (k_rV (As := [.int 0]) (rest := []) ⟨hx, hb, hml, hown, hts⟩ hK hN hP hD (zX10_lays hc2) (cwV 1 hts gX10_hitsByLike_X10_lays rfl rfl rfl (by decide +kernel) ⟨Nat.le_of_ble_eq_true rfl, Nat.le_of_ble_eq_true rfl⟩) rfl rfl rfl hl.1 rfl (Nat.le_of_ble_eq_true rfl) dX10_hitsByLike_2 ⟨Nat.zero_le _, Nat.zero_le _⟩) hD hS hA (fun H locs hP hD hS => ?_)
  refine lv_iconst (v := 0) hx hb dX10_hitsByLike_5 (by decide) ?_
  refine lv_istore (lv' := [(4, .int 0), (0, .ref (ad 0)), (1, .int a1), (2, .int a2), (3, .int a3)]) hx hb dX10_hitsByLike_6 hl (by decide) rfl (fun ls hl => ?_)
  refine lv_iconst (v := 4) hx hb dX10_hitsByLike_8 (by decide) ?_
  refine lv_istore (lv' := [(5, .int 4), (4, .int 0), (0, .ref (ad 0)), (1, .int a1), (2, .int a2), (3, .int a3)]) hx hb dX10_hitsByLike_9 hl (by decide) rfl (fun ls hl => ?_)
  exact J_11 false 4 c_s w11 _ _ hP hD hS _ (lv_sub hl [2, 3, 4, 5, 1, 0] rfl) hm

abbrev rmX10_shotsAt : Room := { frames := 4, cells := 0, slots := 0, locals := 100 }
set_option maxHeartbeats 4000000 in
set_option maxRecDepth 100000 in
theorem zX10_shotsAt {l : Launch} {D : va_G} {cI cJ cC cG : ClassId} {sz : Nat} {ad : Nat → Nat} {c_s : Nat → Int32} {c_before : Nat → Int32} {c_known : Int32} {c_kept : Nat → Int32} {c_isKept : Bool} {c_aside : Nat → Int32} {c_buffer : Nat → Int32} {c_length : Int32} {c_thrown : Int32} {c_laid : Nat → Int32} {c_spot : Int32} {c_isWrong : Bool} {c_isHalted : Bool} {c_mine : Nat → Int64} {c_theirs : Nat → Int64} {c_many : Int32} {c_from0 : Nat → Int64} {c_from1 : Nat → Int64} {c_dice : Nat → Int32} {c_hash : Int64} {a1 : Int32} {r : Int32} {c_s' : Nat → Int32} {c_laid' : Nat → Int32} (hm : mX10_shotsAt c_s c_laid a1 = some (r, c_s', c_laid')) : k_Mi l yX10_shotsAt wsX10_shotsAt rmX10_shotsAt D (kT cI cJ cC cG) sz ([.ref (ad 0), .int a1] : List Value) (wM cI cJ ad c_s c_before c_known c_kept c_isKept c_aside c_buffer c_length c_thrown c_laid c_spot c_isWrong c_isHalted c_mine c_theirs c_many c_from0 c_from1 c_dice c_hash) (wM cI cJ ad c_s' c_before c_known c_kept c_isKept c_aside c_buffer c_length c_thrown c_laid' c_spot c_isWrong c_isHalted c_mine c_theirs c_many c_from0 c_from1 c_dice c_hash) r := by
  refine k_st_i (cc := cX10_shotsAt) (maxL := 6) (by decide) rfl (Nat.le_of_ble_eq_true rfl) ?_
  intro p e z m below meth c A hx hb hr hml hts hown hlocks hsz hN hA hK hP hD hS ls hl
  have hown : z.vm.findClass RX10 = some m.cls := hown
  have hl : lv_has ls 6 [(0, .ref (ad 0)), (1, .int a1)] := hl
  have J_35 := k_loop (z := fun _ _ _ _ _ => none) (st := mX10_shotsAt_35 a1) (fun k35 : (Int32) → (Int32) → (Int32) → (Nat → Int32) → (Nat → Int32) → Option (Int32 × (Nat → Int32) × (Nat → Int32)) => ∀ (l2 : Int32) (l3 : Int32) (l4 : Int32) (c_s : Nat → Int32) (c_laid : Nat → Int32) (H : Heap) (locs : List Loc), va_P D vwCl (wM cI cJ ad c_s c_before c_known c_kept c_isKept c_aside c_buffer c_length c_thrown c_laid c_spot c_isWrong c_isHalted c_mine c_theirs c_many c_from0 c_from1 c_dice c_hash) H → va_D A (wM cI cJ ad c_s c_before c_known c_kept c_isKept c_aside c_buffer c_length c_thrown c_laid c_spot c_isWrong c_isHalted c_mine c_theirs c_many c_from0 c_from1 c_dice c_hash) → va_S A z.heap H locs → ∀ ls : Array Slot, lv_has ls 6 [(0, .ref (ad 0)), (1, .int a1), (2, .int l2), (3, .int l3), (4, .int l4)] → k35 l2 l3 l4 c_s c_laid = some (r, c_s', c_laid') → W p l e rmX10_shotsAt z m ([.ref (ad 0), .int a1] : List Value).toArray below meth c H locs 0 0 (k_Qi below ([.ref (ad 0), .int a1] : List Value) D (kT cI cJ cC cG) z A (wM cI cJ ad c_s' c_before c_known c_kept c_isKept c_aside c_buffer c_length c_thrown c_laid' c_spot c_isWrong c_isHalted c_mine c_theirs c_many c_from0 c_from1 c_dice c_hash) r) (F0 m 35 ls [])) (by intros; rename_i h; cases h) (by
    intro k35 ih35
    have J_71 := k_loop (z := fun _ _ _ _ _ _ => none) (st := mX10_shotsAt_71 a1 k35) (fun k71 : (Int32) → (Int32) → (Int32) → (Int32) → (Nat → Int32) → (Nat → Int32) → Option (Int32 × (Nat → Int32) × (Nat → Int32)) => ∀ (l2 : Int32) (l3 : Int32) (l4 : Int32) (l5 : Int32) (c_s : Nat → Int32) (c_laid : Nat → Int32) (H : Heap) (locs : List Loc), va_P D vwCl (wM cI cJ ad c_s c_before c_known c_kept c_isKept c_aside c_buffer c_length c_thrown c_laid c_spot c_isWrong c_isHalted c_mine c_theirs c_many c_from0 c_from1 c_dice c_hash) H → va_D A (wM cI cJ ad c_s c_before c_known c_kept c_isKept c_aside c_buffer c_length c_thrown c_laid c_spot c_isWrong c_isHalted c_mine c_theirs c_many c_from0 c_from1 c_dice c_hash) → va_S A z.heap H locs → ∀ ls : Array Slot, lv_has ls 6 [(0, .ref (ad 0)), (1, .int a1), (2, .int l2), (3, .int l3), (4, .int l4), (5, .int l5)] → k71 l2 l3 l4 l5 c_s c_laid = some (r, c_s', c_laid') → W p l e rmX10_shotsAt z m ([.ref (ad 0), .int a1] : List Value).toArray below meth c H locs 0 0 (k_Qi below ([.ref (ad 0), .int a1] : List Value) D (kT cI cJ cC cG) z A (wM cI cJ ad c_s' c_before c_known c_kept c_isKept c_aside c_buffer c_length c_thrown c_laid' c_spot c_isWrong c_isHalted c_mine c_theirs c_many c_from0 c_from1 c_dice c_hash) r) (F0 m 71 ls [])) (by intros; rename_i h; cases h) (by
      intro k71 ih71
      intro l2 l3 l4 l5 c_s c_laid H locs hP hD hS ls hl hm
      unfold mX10_shotsAt_71 at hm
      refine lv_iload hx hb dX10_shotsAt_71 (lv_at hl 5 rfl) ?_
      refine lv_iload hx hb dX10_shotsAt_73 (lv_at hl 4 rfl) ?_
      refine lv_icmp_ge (tgt := 122) hx hb dX10_shotsAt_75 (by decide) (fun cc75 => ?_) (fun cc75 => ?_)
      · have hm := k_ip cc75 hm
        refine lv_iinc (v := (l4 + 1)) (lv' := [(4, .int (l4 + 1)), (0, .ref (ad 0)), (1, .int a1), (2, .int l2), (3, .int l3), (5, .int l5)]) hx hb dX10_shotsAt_122 hl (k := 4) rfl rfl (by decide) rfl (fun ls hl => ?_)
        refine lv_goto (tgt := 35) hx hb dX10_shotsAt_125 (by decide) ?_
        exact ih35 l2 l3 (l4 + 1) c_s c_laid _ _ hP hD hS _ (lv_sub hl [1, 2, 3, 4, 0] rfl) hm
      · have hm := k_in cc75 hm
        refine lv_iload_n hx hb dX10_shotsAt_78 rfl (lv_at hl 3 rfl) ?_
        refine lv_aload_n hx hb dX10_shotsAt_79 rfl (lv_at hl 0 rfl) ?_
        refine lv_iconst (v := 1) hx hb dX10_shotsAt_80 (by decide) ?_
        refine lv_iload_n hx hb dX10_shotsAt_81 rfl (lv_at hl 2 rfl) ?_
        refine lv_isub hx hb dX10_shotsAt_82 ?_
        refine lv_iload_n hx hb dX10_shotsAt_83 rfl (lv_at hl 1 rfl) ?_
        refine lv_iload hx hb dX10_shotsAt_84 (lv_at hl 4 rfl) ?_
        refine lv_iload hx hb dX10_shotsAt_86 (lv_at hl 5 rfl) ?_
        obtain ⟨r1, w2, w3, hc88, hm⟩ := k_bd3s hm
        refine k_i_s (k_rV (As := [.int (1 - l2), .int a1, .int l4, .int l5]) (rest := [.int l3]) ⟨hx, hb, hml, hown, hts⟩ hK hN hP hD (zX10_hitsBy hc88) (cwV 4 hts gX10_shotsAt_X10_hitsBy rfl rfl rfl (by decide +kernel) ⟨Nat.le_of_ble_eq_true rfl, Nat.le_of_ble_eq_true rfl⟩) rfl rfl rfl hl.1 rfl (Nat.le_of_ble_eq_true rfl) dX10_shotsAt_88 ⟨Nat.zero_le _, Nat.zero_le _⟩) hD hS hA (fun H locs hP hD hS => ?_)
        refine lv_if_ne (tgt := 109) hx hb dX10_shotsAt_91 (by decide) (fun cc91 => ?_) (fun cc91 => ?_)
        · have hm := k_in cc91 hm
          refine lv_iconst (v := 2) hx hb dX10_shotsAt_109 (by decide) ?_
          refine lv_goto (tgt := 114) hx hb dX10_shotsAt_110 (by decide) ?_
          refine lv_iadd hx hb dX10_shotsAt_114 ?_
          refine lv_istore_n (lv' := [(3, .int (l3 + 2)), (0, .ref (ad 0)), (1, .int a1), (2, .int l2), (4, .int l4), (5, .int l5)]) hx hb dX10_shotsAt_115 rfl hl (by decide) rfl (fun ls hl => ?_)
          refine lv_iinc (v := (l5 + 1)) (lv' := [(5, .int (l5 + 1)), (3, .int (l3 + 2)), (0, .ref (ad 0)), (1, .int a1), (2, .int l2), (4, .int l4)]) hx hb dX10_shotsAt_116 hl (k := 5) rfl rfl (by decide) rfl (fun ls hl => ?_)
          refine lv_goto (tgt := 71) hx hb dX10_shotsAt_119 (by decide) ?_
          exact ih71 l2 (l3 + 2) l4 (l5 + 1) w2 w3 _ _ hP hD hS _ (lv_sub hl [2, 3, 4, 1, 5, 0] rfl) hm
        · have hm := k_ip cc91 hm
          refine lv_aload_n hx hb dX10_shotsAt_94 rfl (lv_at hl 0 rfl) ?_
          refine lv_iconst (v := 1) hx hb dX10_shotsAt_95 (by decide) ?_
          refine lv_iload_n hx hb dX10_shotsAt_96 rfl (lv_at hl 2 rfl) ?_
          refine lv_isub hx hb dX10_shotsAt_97 ?_
          refine lv_iload_n hx hb dX10_shotsAt_98 rfl (lv_at hl 1 rfl) ?_
          refine lv_iload hx hb dX10_shotsAt_99 (lv_at hl 5 rfl) ?_
          refine lv_iload hx hb dX10_shotsAt_101 (lv_at hl 4 rfl) ?_
          obtain ⟨r4, w5, w6, hc103, hm⟩ := k_bd3s hm
          refine k_i_s (k_rV (As := [.int (1 - l2), .int a1, .int l5, .int l4]) (rest := [.int l3]) ⟨hx, hb, hml, hown, hts⟩ hK hN hP hD (zX10_hitsBy hc103) (cwV 4 hts gX10_shotsAt_X10_hitsBy rfl rfl rfl (by decide +kernel) ⟨Nat.le_of_ble_eq_true rfl, Nat.le_of_ble_eq_true rfl⟩) rfl rfl rfl hl.1 rfl (Nat.le_of_ble_eq_true rfl) dX10_shotsAt_103 ⟨Nat.zero_le _, Nat.zero_le _⟩) hD hS hA (fun H locs hP hD hS => ?_)
          refine lv_if_eq (tgt := 113) hx hb dX10_shotsAt_106 (by decide) (fun cc106 => ?_) (fun cc106 => ?_)
          · have hm := k_ip cc106 hm
            refine lv_iconst (v := 0) hx hb dX10_shotsAt_113 (by decide) ?_
            refine lv_iadd hx hb dX10_shotsAt_114 ?_
            refine lv_istore_n (lv' := [(3, .int (l3 + 0)), (0, .ref (ad 0)), (1, .int a1), (2, .int l2), (4, .int l4), (5, .int l5)]) hx hb dX10_shotsAt_115 rfl hl (by decide) rfl (fun ls hl => ?_)
            refine lv_iinc (v := (l5 + 1)) (lv' := [(5, .int (l5 + 1)), (3, .int (l3 + 0)), (0, .ref (ad 0)), (1, .int a1), (2, .int l2), (4, .int l4)]) hx hb dX10_shotsAt_116 hl (k := 5) rfl rfl (by decide) rfl (fun ls hl => ?_)
            refine lv_goto (tgt := 71) hx hb dX10_shotsAt_119 (by decide) ?_
            exact ih71 l2 (l3 + 0) l4 (l5 + 1) w5 w6 _ _ hP hD hS _ (lv_sub hl [2, 3, 4, 1, 5, 0] rfl) hm
          · have hm := k_in cc106 hm
            refine lv_iconst (v := 2) hx hb dX10_shotsAt_109 (by decide) ?_
            refine lv_goto (tgt := 114) hx hb dX10_shotsAt_110 (by decide) ?_
            refine lv_iadd hx hb dX10_shotsAt_114 ?_
            refine lv_istore_n (lv' := [(3, .int (l3 + 2)), (0, .ref (ad 0)), (1, .int a1), (2, .int l2), (4, .int l4), (5, .int l5)]) hx hb dX10_shotsAt_115 rfl hl (by decide) rfl (fun ls hl => ?_)
            refine lv_iinc (v := (l5 + 1)) (lv' := [(5, .int (l5 + 1)), (3, .int (l3 + 2)), (0, .ref (ad 0)), (1, .int a1), (2, .int l2), (4, .int l4)]) hx hb dX10_shotsAt_116 hl (k := 5) rfl rfl (by decide) rfl (fun ls hl => ?_)
            refine lv_goto (tgt := 71) hx hb dX10_shotsAt_119 (by decide) ?_
            exact ih71 l2 (l3 + 2) l4 (l5 + 1) w5 w6 _ _ hP hD hS _ (lv_sub hl [2, 3, 4, 1, 5, 0] rfl) hm) k_F
    have J_66 : ∀ (t0 : Bool) (t1 : Int32) (l2 : Int32) (l4 : Int32) (c_s : Nat → Int32) (c_laid : Nat → Int32) (H : Heap) (locs : List Loc), va_P D vwCl (wM cI cJ ad c_s c_before c_known c_kept c_isKept c_aside c_buffer c_length c_thrown c_laid c_spot c_isWrong c_isHalted c_mine c_theirs c_many c_from0 c_from1 c_dice c_hash) H → va_D A (wM cI cJ ad c_s c_before c_known c_kept c_isKept c_aside c_buffer c_length c_thrown c_laid c_spot c_isWrong c_isHalted c_mine c_theirs c_many c_from0 c_from1 c_dice c_hash) → va_S A z.heap H locs → ∀ ls : Array Slot, lv_has ls 6 [(0, .ref (ad 0)), (1, .int a1), (2, .int l2), (4, .int l4)] → mX10_shotsAt_66 a1 k35 t0 t1 l2 l4 c_s c_laid = some (r, c_s', c_laid') → W p l e rmX10_shotsAt z m ([.ref (ad 0), .int a1] : List Value).toArray below meth c H locs 0 0 (k_Qi below ([.ref (ad 0), .int a1] : List Value) D (kT cI cJ cC cG) z A (wM cI cJ ad c_s' c_before c_known c_kept c_isKept c_aside c_buffer c_length c_thrown c_laid' c_spot c_isWrong c_isHalted c_mine c_theirs c_many c_from0 c_from1 c_dice c_hash) r) (F0 m 66 ls [.int (k_b t0), .int t1]) := by
      intro t0 t1 l2 l4 c_s c_laid H locs hP hD hS ls hl hm
      unfold mX10_shotsAt_66 at hm
      refine lv_iadd hx hb dX10_shotsAt_66 ?_
      refine lv_istore_n (lv' := [(3, .int (t1 + (k_b t0))), (0, .ref (ad 0)), (1, .int a1), (2, .int l2), (4, .int l4)]) hx hb dX10_shotsAt_67 rfl hl (by decide) rfl (fun ls hl => ?_)
      refine lv_iconst (v := 1) hx hb dX10_shotsAt_68 (by decide) ?_
      refine lv_istore (lv' := [(5, .int 1), (3, .int (t1 + (k_b t0))), (0, .ref (ad 0)), (1, .int a1), (2, .int l2), (4, .int l4)]) hx hb dX10_shotsAt_69 hl (by decide) rfl (fun ls hl => ?_)
      exact J_71 l2 (t1 + (k_b t0)) l4 1 c_s c_laid _ _ hP hD hS _ (lv_sub hl [2, 3, 4, 1, 5, 0] rfl) hm
    intro l2 l3 l4 c_s c_laid H locs hP hD hS ls hl hm
    unfold mX10_shotsAt_35 at hm
    refine lv_iload hx hb dX10_shotsAt_35 (lv_at hl 4 rfl) ?_
    refine lv_bipush (v := 6) hx hb dX10_shotsAt_37 (by decide) ?_
    refine lv_icmp_gt (tgt := 128) hx hb dX10_shotsAt_39 (by decide) (fun cc39 => ?_) (fun cc39 => ?_)
    · have hm := k_ip cc39 hm
      refine lv_iload_n hx hb dX10_shotsAt_128 rfl (lv_at hl 3 rfl) ?_
      cases hm
      exact k_end_i hx hb hr hlocks hK hP hD hS dX10_shotsAt_129
    · have hm := k_in cc39 hm
      refine lv_iload_n hx hb dX10_shotsAt_42 rfl (lv_at hl 2 rfl) ?_
      refine lv_iconst (v := (-1)) hx hb dX10_shotsAt_43 (by decide) ?_
      refine lv_icmp_eq (tgt := 128) hx hb dX10_shotsAt_44 (by decide) (fun cc44 => ?_) (fun cc44 => ?_)
      · have hm := k_ip cc44 hm
        refine lv_iload_n hx hb dX10_shotsAt_128 rfl (lv_at hl 3 rfl) ?_
        cases hm
        exact k_end_i hx hb hr hlocks hK hP hD hS dX10_shotsAt_129
      · have hm := k_in cc44 hm
        refine lv_iload_n hx hb dX10_shotsAt_47 rfl (lv_at hl 3 rfl) ?_
        refine lv_aload_n hx hb dX10_shotsAt_48 rfl (lv_at hl 0 rfl) ?_
        refine lv_iconst (v := 1) hx hb dX10_shotsAt_49 (by decide) ?_
        refine lv_iload_n hx hb dX10_shotsAt_50 rfl (lv_at hl 2 rfl) ?_
        refine lv_isub hx hb dX10_shotsAt_51 ?_
        refine lv_iload_n hx hb dX10_shotsAt_52 rfl (lv_at hl 1 rfl) ?_
        refine lv_iload hx hb dX10_shotsAt_53 (lv_at hl 4 rfl) ?_
        obtain ⟨r7, w8, w9, hc55, hm⟩ := k_bd3s hm
        refine k_i_s (k_rV (As := [.int (1 - l2), .int a1, .int l4]) (rest := [.int l3]) ⟨hx, hb, hml, hown, hts⟩ hK hN hP hD (zX10_hitsByLike hc55) (cwV 3 hts gX10_shotsAt_X10_hitsByLike rfl rfl rfl (by decide +kernel) ⟨Nat.le_of_ble_eq_true rfl, Nat.le_of_ble_eq_true rfl⟩) rfl rfl rfl hl.1 rfl (Nat.le_of_ble_eq_true rfl) dX10_shotsAt_55 ⟨Nat.zero_le _, Nat.zero_le _⟩) hD hS hA (fun H locs hP hD hS => ?_)
        refine lv_if_eq (tgt := 65) hx hb dX10_shotsAt_58 (by decide) (fun cc58 => ?_) (fun cc58 => ?_)
        · have hm := k_ip cc58 hm
          refine lv_iconst (v := 0) hx hb dX10_shotsAt_65 (by decide) ?_
          exact J_66 false l3 l2 l4 w8 w9 _ _ hP hD hS _ (lv_sub hl [0, 1, 2, 4] rfl) hm
        · have hm := k_in cc58 hm
          refine lv_iconst (v := 1) hx hb dX10_shotsAt_61 (by decide) ?_
          refine lv_goto (tgt := 66) hx hb dX10_shotsAt_62 (by decide) ?_
          exact J_66 true l3 l2 l4 w8 w9 _ _ hP hD hS _ (lv_sub hl [0, 1, 2, 4] rfl) hm) k_F
  have J_29 : ∀ (t0 : Int32) (c_s : Nat → Int32) (c_laid : Nat → Int32) (H : Heap) (locs : List Loc), va_P D vwCl (wM cI cJ ad c_s c_before c_known c_kept c_isKept c_aside c_buffer c_length c_thrown c_laid c_spot c_isWrong c_isHalted c_mine c_theirs c_many c_from0 c_from1 c_dice c_hash) H → va_D A (wM cI cJ ad c_s c_before c_known c_kept c_isKept c_aside c_buffer c_length c_thrown c_laid c_spot c_isWrong c_isHalted c_mine c_theirs c_many c_from0 c_from1 c_dice c_hash) → va_S A z.heap H locs → ∀ ls : Array Slot, lv_has ls 6 [(0, .ref (ad 0)), (1, .int a1)] → mX10_shotsAt_29 a1 t0 c_s c_laid = some (r, c_s', c_laid') → W p l e rmX10_shotsAt z m ([.ref (ad 0), .int a1] : List Value).toArray below meth c H locs 0 0 (k_Qi below ([.ref (ad 0), .int a1] : List Value) D (kT cI cJ cC cG) z A (wM cI cJ ad c_s' c_before c_known c_kept c_isKept c_aside c_buffer c_length c_thrown c_laid' c_spot c_isWrong c_isHalted c_mine c_theirs c_many c_from0 c_from1 c_dice c_hash) r) (F0 m 29 ls [.int t0]) := by
    intro t0 c_s c_laid H locs hP hD hS ls hl hm
    unfold mX10_shotsAt_29 at hm
    refine lv_istore_n (lv' := [(2, .int t0), (0, .ref (ad 0)), (1, .int a1)]) hx hb dX10_shotsAt_29 rfl hl (by decide) rfl (fun ls hl => ?_)
    refine lv_iconst (v := 0) hx hb dX10_shotsAt_30 (by decide) ?_
    refine lv_istore_n (lv' := [(3, .int 0), (2, .int t0), (0, .ref (ad 0)), (1, .int a1)]) hx hb dX10_shotsAt_31 rfl hl (by decide) rfl (fun ls hl => ?_)
    refine lv_iconst (v := 1) hx hb dX10_shotsAt_32 (by decide) ?_
    refine lv_istore (lv' := [(4, .int 1), (3, .int 0), (2, .int t0), (0, .ref (ad 0)), (1, .int a1)]) hx hb dX10_shotsAt_33 hl (by decide) rfl (fun ls hl => ?_)
    exact J_35 t0 0 1 c_s c_laid _ _ hP hD hS _ (lv_sub hl [3, 4, 2, 1, 0] rfl) hm
  unfold mX10_shotsAt at hm
  refine lv_aload_n hx hb dX10_shotsAt_0 rfl (lv_at hl 0 rfl) ?_
  refine lv_iconst (v := 0) hx hb dX10_shotsAt_1 (by decide) ?_
  refine lv_iload_n hx hb dX10_shotsAt_2 rfl (lv_at hl 1 rfl) ?_
  obtain ⟨r10, hc3, hm⟩ := k_bds hm
  refine k_i_s (k_rV (As := [.int 0, .int a1]) (rest := []) ⟨hx, hb, hml, hown, hts⟩ hK hN hP hD (zX10_at hc3) (cwV 2 hts gX10_shotsAt_X10_at rfl rfl rfl (by decide +kernel) ⟨Nat.le_of_ble_eq_true rfl, Nat.le_of_ble_eq_true rfl⟩) rfl rfl rfl hl.1 rfl (Nat.le_of_ble_eq_true rfl) dX10_shotsAt_3 ⟨Nat.zero_le _, Nat.zero_le _⟩) hD hS hA (fun H locs hP hD hS => ?_)
  refine lv_iconst (v := 1) hx hb dX10_shotsAt_6 (by decide) ?_
  refine lv_icmp_ne (tgt := 14) hx hb dX10_shotsAt_7 (by decide) (fun cc7 => ?_) (fun cc7 => ?_)
  · have hm := k_in cc7 hm
    refine lv_aload_n hx hb dX10_shotsAt_14 rfl (lv_at hl 0 rfl) ?_
    refine lv_iconst (v := 1) hx hb dX10_shotsAt_15 (by decide) ?_
    refine lv_iload_n hx hb dX10_shotsAt_16 rfl (lv_at hl 1 rfl) ?_
    obtain ⟨r11, hc17, hm⟩ := k_bds hm
    refine k_i_s (k_rV (As := [.int 1, .int a1]) (rest := []) ⟨hx, hb, hml, hown, hts⟩ hK hN hP hD (zX10_at hc17) (cwV 2 hts gX10_shotsAt_X10_at rfl rfl rfl (by decide +kernel) ⟨Nat.le_of_ble_eq_true rfl, Nat.le_of_ble_eq_true rfl⟩) rfl rfl rfl hl.1 rfl (Nat.le_of_ble_eq_true rfl) dX10_shotsAt_17 ⟨Nat.zero_le _, Nat.zero_le _⟩) hD hS hA (fun H locs hP hD hS => ?_)
    refine lv_iconst (v := 1) hx hb dX10_shotsAt_20 (by decide) ?_
    refine lv_icmp_ne (tgt := 28) hx hb dX10_shotsAt_21 (by decide) (fun cc21 => ?_) (fun cc21 => ?_)
    · have hm := k_in cc21 hm
      refine lv_iconst (v := (-1)) hx hb dX10_shotsAt_28 (by decide) ?_
      exact J_29 (-1) c_s c_laid _ _ hP hD hS _ (lv_sub hl [0, 1] rfl) hm
    · have hm := k_ip cc21 hm
      refine lv_iconst (v := 1) hx hb dX10_shotsAt_24 (by decide) ?_
      refine lv_goto (tgt := 29) hx hb dX10_shotsAt_25 (by decide) ?_
      exact J_29 1 c_s c_laid _ _ hP hD hS _ (lv_sub hl [0, 1] rfl) hm
  · have hm := k_ip cc7 hm
    refine lv_iconst (v := 0) hx hb dX10_shotsAt_10 (by decide) ?_
    refine lv_goto (tgt := 29) hx hb dX10_shotsAt_11 (by decide) ?_
    exact J_29 0 c_s c_laid _ _ hP hD hS _ (lv_sub hl [0, 1] rfl) hm

abbrev rmX10_shots : Room := { frames := 5, cells := 0, slots := 0, locals := 125 }
set_option maxHeartbeats 4000000 in
set_option maxRecDepth 100000 in
theorem zX10_shots {l : Launch} {D : va_G} {cI cJ cC cG : ClassId} {sz : Nat} {ad : Nat → Nat} {c_s : Nat → Int32} {c_before : Nat → Int32} {c_known : Int32} {c_kept : Nat → Int32} {c_isKept : Bool} {c_aside : Nat → Int32} {c_buffer : Nat → Int32} {c_length : Int32} {c_thrown : Int32} {c_laid : Nat → Int32} {c_spot : Int32} {c_isWrong : Bool} {c_isHalted : Bool} {c_mine : Nat → Int64} {c_theirs : Nat → Int64} {c_many : Int32} {c_from0 : Nat → Int64} {c_from1 : Nat → Int64} {c_dice : Nat → Int32} {c_hash : Int64} {a1 : Int32} {r : Int32} {c_s' : Nat → Int32} {c_thrown' : Int32} {c_laid' : Nat → Int32} (hm : mX10_shots c_s c_thrown c_laid a1 = some (r, c_s', c_thrown', c_laid')) : k_Mi l yX10_shots wsX10_shots rmX10_shots D (kT cI cJ cC cG) sz ([.ref (ad 0), .int a1] : List Value) (wM cI cJ ad c_s c_before c_known c_kept c_isKept c_aside c_buffer c_length c_thrown c_laid c_spot c_isWrong c_isHalted c_mine c_theirs c_many c_from0 c_from1 c_dice c_hash) (wM cI cJ ad c_s' c_before c_known c_kept c_isKept c_aside c_buffer c_length c_thrown' c_laid' c_spot c_isWrong c_isHalted c_mine c_theirs c_many c_from0 c_from1 c_dice c_hash) r := by
  refine k_st_i (cc := cX10_shots) (maxL := 2) (by decide) rfl (Nat.le_of_ble_eq_true rfl) ?_
  intro p e z m below meth c A hx hb hr hml hts hown hlocks hsz hN hA hK hP hD hS ls hl
  have hown : z.vm.findClass RX10 = some m.cls := hown
  have hl : lv_has ls 2 [(0, .ref (ad 0)), (1, .int a1)] := hl
  unfold mX10_shots at hm
  refine lv_aload_n hx hb dX10_shots_0 rfl (lv_at hl 0 rfl) ?_
  refine lv_iconst (v := 0) hx hb dX10_shots_1 (by decide) ?_
  refine lv_iload_n hx hb dX10_shots_2 rfl (lv_at hl 1 rfl) ?_
  obtain ⟨r1, w2, hc3, hm⟩ := k_bd2s hm
  refine k_i_s (k_rV (As := [.int 0, .int a1]) (rest := []) ⟨hx, hb, hml, hown, hts⟩ hK hN hP hD (zX10_isThere hc3) (cwV 2 hts gX10_shots_X10_isThere rfl rfl rfl (by decide +kernel) ⟨Nat.le_of_ble_eq_true rfl, Nat.le_of_ble_eq_true rfl⟩) rfl rfl rfl hl.1 rfl (Nat.le_of_ble_eq_true rfl) dX10_shots_3 ⟨Nat.zero_le _, Nat.zero_le _⟩) hD hS hA (fun H locs hP hD hS => ?_)
  refine lv_if_eq (tgt := 17) hx hb dX10_shots_6 (by decide) (fun cc6 => ?_) (fun cc6 => ?_)
  · have hm := k_ip cc6 hm
    refine lv_iconst (v := 0) hx hb dX10_shots_17 (by decide) ?_
    cases hm
    exact k_end_i hx hb hr hlocks hK hP hD hS dX10_shots_18
  · have hm := k_in cc6 hm
    refine lv_aload_n hx hb dX10_shots_9 rfl (lv_at hl 0 rfl) ?_
    refine lv_iload_n hx hb dX10_shots_10 rfl (lv_at hl 1 rfl) ?_
    obtain ⟨r3, w4, w5, hc11, hm⟩ := k_bd3s hm
    refine k_i_s (k_rV (As := [.int a1]) (rest := []) ⟨hx, hb, hml, hown, hts⟩ hK hN hP hD (zX10_shotsAt hc11) (cwV 1 hts gX10_shots_X10_shotsAt rfl rfl rfl (by decide +kernel) ⟨Nat.le_of_ble_eq_true rfl, Nat.le_of_ble_eq_true rfl⟩) rfl rfl rfl hl.1 rfl (Nat.le_of_ble_eq_true rfl) dX10_shots_11 ⟨Nat.zero_le _, Nat.zero_le _⟩) hD hS hA (fun H locs hP hD hS => ?_)
    refine lv_goto (tgt := 18) hx hb dX10_shots_14 (by decide) ?_
    cases hm
    exact k_end_i hx hb hr hlocks hK hP hD hS dX10_shots_18

abbrev rmX10_shotsByKinds : Room := { frames := 5, cells := 0, slots := 0, locals := 125 }
set_option maxHeartbeats 4000000 in
set_option maxRecDepth 100000 in
theorem zX10_shotsByKinds {l : Launch} {D : va_G} {cI cJ cC cG : ClassId} {sz : Nat} {ad : Nat → Nat} {c_s : Nat → Int32} {c_before : Nat → Int32} {c_known : Int32} {c_kept : Nat → Int32} {c_isKept : Bool} {c_aside : Nat → Int32} {c_buffer : Nat → Int32} {c_length : Int32} {c_thrown : Int32} {c_laid : Nat → Int32} {c_spot : Int32} {c_isWrong : Bool} {c_isHalted : Bool} {c_mine : Nat → Int64} {c_theirs : Nat → Int64} {c_many : Int32} {c_from0 : Nat → Int64} {c_from1 : Nat → Int64} {c_dice : Nat → Int32} {c_hash : Int64} {a1 : Int32} {r : Int32} {c_s' : Nat → Int32} {c_thrown' : Int32} {c_laid' : Nat → Int32} (hm : mX10_shotsByKinds c_s c_thrown c_laid a1 = some (r, c_s', c_thrown', c_laid')) : k_Mi l yX10_shotsByKinds wsX10_shotsByKinds rmX10_shotsByKinds D (kT cI cJ cC cG) sz ([.ref (ad 0), .int a1] : List Value) (wM cI cJ ad c_s c_before c_known c_kept c_isKept c_aside c_buffer c_length c_thrown c_laid c_spot c_isWrong c_isHalted c_mine c_theirs c_many c_from0 c_from1 c_dice c_hash) (wM cI cJ ad c_s' c_before c_known c_kept c_isKept c_aside c_buffer c_length c_thrown' c_laid' c_spot c_isWrong c_isHalted c_mine c_theirs c_many c_from0 c_from1 c_dice c_hash) r := by
  refine k_st_i (cc := cX10_shotsByKinds) (maxL := 2) (by decide) rfl (Nat.le_of_ble_eq_true rfl) ?_
  intro p e z m below meth c A hx hb hr hml hts hown hlocks hsz hN hA hK hP hD hS ls hl
  have hown : z.vm.findClass RX10 = some m.cls := hown
  have hl : lv_has ls 2 [(0, .ref (ad 0)), (1, .int a1)] := hl
  unfold mX10_shotsByKinds at hm
  refine lv_aload_n hx hb dX10_shotsByKinds_0 rfl (lv_at hl 0 rfl) ?_
  refine lv_iconst (v := 0) hx hb dX10_shotsByKinds_1 (by decide) ?_
  refine lv_iload_n hx hb dX10_shotsByKinds_2 rfl (lv_at hl 1 rfl) ?_
  obtain ⟨r1, w2, hc3, hm⟩ := k_bd2s hm
  refine k_i_s (k_rV (As := [.int 0, .int a1]) (rest := []) ⟨hx, hb, hml, hown, hts⟩ hK hN hP hD (zX10_isThere hc3) (cwV 2 hts gX10_shotsByKinds_X10_isThere rfl rfl rfl (by decide +kernel) ⟨Nat.le_of_ble_eq_true rfl, Nat.le_of_ble_eq_true rfl⟩) rfl rfl rfl hl.1 rfl (Nat.le_of_ble_eq_true rfl) dX10_shotsByKinds_3 ⟨Nat.zero_le _, Nat.zero_le _⟩) hD hS hA (fun H locs hP hD hS => ?_)
  refine lv_if_eq (tgt := 17) hx hb dX10_shotsByKinds_6 (by decide) (fun cc6 => ?_) (fun cc6 => ?_)
  · have hm := k_ip cc6 hm
    refine lv_iconst (v := 0) hx hb dX10_shotsByKinds_17 (by decide) ?_
    cases hm
    exact k_end_i hx hb hr hlocks hK hP hD hS dX10_shotsByKinds_18
  · have hm := k_in cc6 hm
    refine lv_aload_n hx hb dX10_shotsByKinds_9 rfl (lv_at hl 0 rfl) ?_
    refine lv_iload_n hx hb dX10_shotsByKinds_10 rfl (lv_at hl 1 rfl) ?_
    obtain ⟨r3, w4, w5, hc11, hm⟩ := k_bd3s hm
    refine k_i_s (k_rV (As := [.int a1]) (rest := []) ⟨hx, hb, hml, hown, hts⟩ hK hN hP hD (zX10_shotsAt hc11) (cwV 1 hts gX10_shotsByKinds_X10_shotsAt rfl rfl rfl (by decide +kernel) ⟨Nat.le_of_ble_eq_true rfl, Nat.le_of_ble_eq_true rfl⟩) rfl rfl rfl hl.1 rfl (Nat.le_of_ble_eq_true rfl) dX10_shotsByKinds_11 ⟨Nat.zero_le _, Nat.zero_le _⟩) hD hS hA (fun H locs hP hD hS => ?_)
    refine lv_goto (tgt := 18) hx hb dX10_shotsByKinds_14 (by decide) ?_
    cases hm
    exact k_end_i hx hb hr hlocks hK hP hD hS dX10_shotsByKinds_18

abbrev rmX10_enters : Room := { frames := 2, cells := 0, slots := 0, locals := 44 }
set_option maxHeartbeats 4000000 in
set_option maxRecDepth 100000 in
theorem zX10_enters {l : Launch} {D : va_G} {cI cJ cC cG : ClassId} {sz : Nat} {ad : Nat → Nat} {c_s : Nat → Int32} {c_before : Nat → Int32} {c_known : Int32} {c_kept : Nat → Int32} {c_isKept : Bool} {c_aside : Nat → Int32} {c_buffer : Nat → Int32} {c_length : Int32} {c_thrown : Int32} {c_laid : Nat → Int32} {c_spot : Int32} {c_isWrong : Bool} {c_isHalted : Bool} {c_mine : Nat → Int64} {c_theirs : Nat → Int64} {c_many : Int32} {c_from0 : Nat → Int64} {c_from1 : Nat → Int64} {c_dice : Nat → Int32} {c_hash : Int64} {a1 : Int32} {r : Int32} (hm : mX10_enters c_s a1 = some (r)) : k_Mi l yX10_enters wsX10_enters rmX10_enters D (kT cI cJ cC cG) sz ([.ref (ad 0), .int a1] : List Value) (wM cI cJ ad c_s c_before c_known c_kept c_isKept c_aside c_buffer c_length c_thrown c_laid c_spot c_isWrong c_isHalted c_mine c_theirs c_many c_from0 c_from1 c_dice c_hash) (wM cI cJ ad c_s c_before c_known c_kept c_isKept c_aside c_buffer c_length c_thrown c_laid c_spot c_isWrong c_isHalted c_mine c_theirs c_many c_from0 c_from1 c_dice c_hash) r := by
  refine k_st_i (cc := cX10_enters) (maxL := 4) (by decide) rfl (Nat.le_of_ble_eq_true rfl) ?_
  intro p e z m below meth c A hx hb hr hml hts hown hlocks hsz hN hA hK hP hD hS ls hl
  have hown : z.vm.findClass RX10 = some m.cls := hown
  have hl : lv_has ls 4 [(0, .ref (ad 0)), (1, .int a1)] := hl
  have J_4 := k_loop (z := fun _ _ => none) (st := mX10_enters_4 c_s a1) (fun k4 : (Int32) → (Int32) → Option (Int32) => ∀ (l2 : Int32) (l3 : Int32) (H : Heap) (locs : List Loc), va_P D vwCl (wM cI cJ ad c_s c_before c_known c_kept c_isKept c_aside c_buffer c_length c_thrown c_laid c_spot c_isWrong c_isHalted c_mine c_theirs c_many c_from0 c_from1 c_dice c_hash) H → va_D A (wM cI cJ ad c_s c_before c_known c_kept c_isKept c_aside c_buffer c_length c_thrown c_laid c_spot c_isWrong c_isHalted c_mine c_theirs c_many c_from0 c_from1 c_dice c_hash) → va_S A z.heap H locs → ∀ ls : Array Slot, lv_has ls 4 [(0, .ref (ad 0)), (1, .int a1), (2, .int l2), (3, .int l3)] → k4 l2 l3 = some (r) → W p l e rmX10_enters z m ([.ref (ad 0), .int a1] : List Value).toArray below meth c H locs 0 0 (k_Qi below ([.ref (ad 0), .int a1] : List Value) D (kT cI cJ cC cG) z A (wM cI cJ ad c_s c_before c_known c_kept c_isKept c_aside c_buffer c_length c_thrown c_laid c_spot c_isWrong c_isHalted c_mine c_theirs c_many c_from0 c_from1 c_dice c_hash) r) (F0 m 4 ls [])) (by intros; rename_i h; cases h) (by
    intro k4 ih4
    intro l2 l3 H locs hP hD hS ls hl hm
    unfold mX10_enters_4 at hm
    refine lv_iload_n hx hb dX10_enters_4 rfl (lv_at hl 3 rfl) ?_
    refine lv_bipush (v := 6) hx hb dX10_enters_5 (by decide) ?_
    refine lv_icmp_gt (tgt := 40) hx hb dX10_enters_7 (by decide) (fun cc7 => ?_) (fun cc7 => ?_)
    · have hm := k_ip cc7 hm
      refine lv_bipush (v := 36) hx hb dX10_enters_40 (by decide) ?_
      refine lv_iload_n hx hb dX10_enters_42 rfl (lv_at hl 2 rfl) ?_
      refine lv_iload_n hx hb dX10_enters_43 rfl (lv_at hl 2 rfl) ?_
      refine lv_imul hx hb dX10_enters_44 ?_
      refine lv_isub hx hb dX10_enters_45 ?_
      cases hm
      exact k_end_i hx hb hr hlocks hK hP hD hS dX10_enters_46
    · have hm := k_in cc7 hm
      refine lv_iload_n hx hb dX10_enters_10 rfl (lv_at hl 2 rfl) ?_
      refine lv_aload_n hx hb dX10_enters_11 rfl (lv_at hl 0 rfl) ?_
      refine lv_iconst (v := 1) hx hb dX10_enters_12 (by decide) ?_
      refine lv_iload_n hx hb dX10_enters_13 rfl (lv_at hl 1 rfl) ?_
      refine lv_isub hx hb dX10_enters_14 ?_
      refine lv_iload_n hx hb dX10_enters_15 rfl (lv_at hl 1 rfl) ?_
      refine lv_iconst (v := (-1)) hx hb dX10_enters_16 (by decide) ?_
      refine lv_iload_n hx hb dX10_enters_17 rfl (lv_at hl 3 rfl) ?_
      obtain ⟨r1, hc18, hm⟩ := k_bds hm
      refine k_i_0 (k_rS (As := [.int a1, .int (-1), .int l3]) (rest := [.int (1 - a1), .ref (ad 0), .int l2]) ⟨hx, hb, hml, hown, hts⟩ hK hN k_P0 (k_D0 (A := A)) (zX10_target hc18) (va_cwS 3 hts gX10_enters_X10_target rfl rfl rfl (by decide +kernel) ⟨Nat.le_of_ble_eq_true rfl, Nat.le_of_ble_eq_true rfl⟩) rfl hl.1 rfl (Nat.le_of_ble_eq_true rfl) dX10_enters_18 ⟨Nat.zero_le _, Nat.zero_le _⟩) hP hS hA (fun H locs hP hS => ?_)
      obtain ⟨r2, hc21, hm⟩ := k_bds hm
      refine k_i_s (k_rV (As := [.int (1 - a1), .int r1]) (rest := [.int l2]) ⟨hx, hb, hml, hown, hts⟩ hK hN hP hD (zX10_isBlock hc21) (cwV 2 hts gX10_enters_X10_isBlock rfl rfl rfl (by decide +kernel) ⟨Nat.le_of_ble_eq_true rfl, Nat.le_of_ble_eq_true rfl⟩) rfl rfl rfl hl.1 rfl (Nat.le_of_ble_eq_true rfl) dX10_enters_21 ⟨Nat.zero_le _, Nat.zero_le _⟩) hD hS hA (fun H locs hP hD hS => ?_)
      refine lv_if_eq (tgt := 31) hx hb dX10_enters_24 (by decide) (fun cc24 => ?_) (fun cc24 => ?_)
      · have hm := k_ip cc24 hm
        refine lv_iconst (v := 0) hx hb dX10_enters_31 (by decide) ?_
        refine lv_iadd hx hb dX10_enters_32 ?_
        refine lv_istore_n (lv' := [(2, .int (l2 + 0)), (0, .ref (ad 0)), (1, .int a1), (3, .int l3)]) hx hb dX10_enters_33 rfl hl (by decide) rfl (fun ls hl => ?_)
        refine lv_iinc (v := (l3 + 1)) (lv' := [(3, .int (l3 + 1)), (2, .int (l2 + 0)), (0, .ref (ad 0)), (1, .int a1)]) hx hb dX10_enters_34 hl (k := 3) rfl rfl (by decide) rfl (fun ls hl => ?_)
        refine lv_goto (tgt := 4) hx hb dX10_enters_37 (by decide) ?_
        exact ih4 (l2 + 0) (l3 + 1) _ _ hP hD hS _ (lv_sub hl [2, 3, 1, 0] rfl) hm
      · have hm := k_in cc24 hm
        refine lv_iconst (v := 1) hx hb dX10_enters_27 (by decide) ?_
        refine lv_goto (tgt := 32) hx hb dX10_enters_28 (by decide) ?_
        refine lv_iadd hx hb dX10_enters_32 ?_
        refine lv_istore_n (lv' := [(2, .int (l2 + 1)), (0, .ref (ad 0)), (1, .int a1), (3, .int l3)]) hx hb dX10_enters_33 rfl hl (by decide) rfl (fun ls hl => ?_)
        refine lv_iinc (v := (l3 + 1)) (lv' := [(3, .int (l3 + 1)), (2, .int (l2 + 1)), (0, .ref (ad 0)), (1, .int a1)]) hx hb dX10_enters_34 hl (k := 3) rfl rfl (by decide) rfl (fun ls hl => ?_)
        refine lv_goto (tgt := 4) hx hb dX10_enters_37 (by decide) ?_
        exact ih4 (l2 + 1) (l3 + 1) _ _ hP hD hS _ (lv_sub hl [2, 3, 1, 0] rfl) hm) k_F
  unfold mX10_enters at hm
  refine lv_iconst (v := 0) hx hb dX10_enters_0 (by decide) ?_
  refine lv_istore_n (lv' := [(2, .int 0), (0, .ref (ad 0)), (1, .int a1)]) hx hb dX10_enters_1 rfl hl (by decide) rfl (fun ls hl => ?_)
  refine lv_iconst (v := 1) hx hb dX10_enters_2 (by decide) ?_
  refine lv_istore_n (lv' := [(3, .int 1), (2, .int 0), (0, .ref (ad 0)), (1, .int a1)]) hx hb dX10_enters_3 rfl hl (by decide) rfl (fun ls hl => ?_)
  exact J_4 0 1 _ _ hP hD hS _ (lv_sub hl [2, 3, 1, 0] rfl) hm

abbrev rmX10_entering : Room := { frames := 3, cells := 0, slots := 0, locals := 67 }
set_option maxHeartbeats 4000000 in
set_option maxRecDepth 100000 in
theorem zX10_entering {l : Launch} {D : va_G} {cI cJ cC cG : ClassId} {sz : Nat} {ad : Nat → Nat} {c_s : Nat → Int32} {c_before : Nat → Int32} {c_known : Int32} {c_kept : Nat → Int32} {c_isKept : Bool} {c_aside : Nat → Int32} {c_buffer : Nat → Int32} {c_length : Int32} {c_thrown : Int32} {c_laid : Nat → Int32} {c_spot : Int32} {c_isWrong : Bool} {c_isHalted : Bool} {c_mine : Nat → Int64} {c_theirs : Nat → Int64} {c_many : Int32} {c_from0 : Nat → Int64} {c_from1 : Nat → Int64} {c_dice : Nat → Int32} {c_hash : Int64} {a1 : Int32} {r : Int32} {c_thrown' : Int32} (hm : mX10_entering c_s c_thrown a1 = some (r, c_thrown')) : k_Mi l yX10_entering wsX10_entering rmX10_entering D (kT cI cJ cC cG) sz ([.ref (ad 0), .int a1] : List Value) (wM cI cJ ad c_s c_before c_known c_kept c_isKept c_aside c_buffer c_length c_thrown c_laid c_spot c_isWrong c_isHalted c_mine c_theirs c_many c_from0 c_from1 c_dice c_hash) (wM cI cJ ad c_s c_before c_known c_kept c_isKept c_aside c_buffer c_length c_thrown' c_laid c_spot c_isWrong c_isHalted c_mine c_theirs c_many c_from0 c_from1 c_dice c_hash) r := by
  refine k_st_i (cc := cX10_entering) (maxL := 2) (by decide) rfl (Nat.le_of_ble_eq_true rfl) ?_
  intro p e z m below meth c A hx hb hr hml hts hown hlocks hsz hN hA hK hP hD hS ls hl
  have hown : z.vm.findClass RX10 = some m.cls := hown
  have hl : lv_has ls 2 [(0, .ref (ad 0)), (1, .int a1)] := hl
  unfold mX10_entering at hm
  refine lv_aload_n hx hb dX10_entering_0 rfl (lv_at hl 0 rfl) ?_
  refine lv_iload_n hx hb dX10_entering_1 rfl (lv_at hl 1 rfl) ?_
  refine lv_iconst (v := 0) hx hb dX10_entering_2 (by decide) ?_
  obtain ⟨r1, w2, hc3, hm⟩ := k_bd2s hm
  refine k_i_s (k_rV (As := [.int a1, .int 0]) (rest := []) ⟨hx, hb, hml, hown, hts⟩ hK hN hP hD (zX10_isThere hc3) (cwV 2 hts gX10_entering_X10_isThere rfl rfl rfl (by decide +kernel) ⟨Nat.le_of_ble_eq_true rfl, Nat.le_of_ble_eq_true rfl⟩) rfl rfl rfl hl.1 rfl (Nat.le_of_ble_eq_true rfl) dX10_entering_3 ⟨Nat.zero_le _, Nat.zero_le _⟩) hD hS hA (fun H locs hP hD hS => ?_)
  refine lv_if_eq (tgt := 17) hx hb dX10_entering_6 (by decide) (fun cc6 => ?_) (fun cc6 => ?_)
  · have hm := k_ip cc6 hm
    refine lv_iconst (v := 0) hx hb dX10_entering_17 (by decide) ?_
    cases hm
    exact k_end_i hx hb hr hlocks hK hP hD hS dX10_entering_18
  · have hm := k_in cc6 hm
    refine lv_aload_n hx hb dX10_entering_9 rfl (lv_at hl 0 rfl) ?_
    refine lv_iload_n hx hb dX10_entering_10 rfl (lv_at hl 1 rfl) ?_
    obtain ⟨r3, hc11, hm⟩ := k_bds hm
    refine k_i_s (k_rV (As := [.int a1]) (rest := []) ⟨hx, hb, hml, hown, hts⟩ hK hN hP hD (zX10_enters hc11) (cwV 1 hts gX10_entering_X10_enters rfl rfl rfl (by decide +kernel) ⟨Nat.le_of_ble_eq_true rfl, Nat.le_of_ble_eq_true rfl⟩) rfl rfl rfl hl.1 rfl (Nat.le_of_ble_eq_true rfl) dX10_entering_11 ⟨Nat.zero_le _, Nat.zero_le _⟩) hD hS hA (fun H locs hP hD hS => ?_)
    refine lv_goto (tgt := 18) hx hb dX10_entering_14 (by decide) ?_
    cases hm
    exact k_end_i hx hb hr hlocks hK hP hD hS dX10_entering_18

abbrev rmX10_blotsBehind : Room := { frames := 8, cells := 0, slots := 0, locals := 191 }
set_option maxHeartbeats 4000000 in
set_option maxRecDepth 100000 in
theorem zX10_blotsBehind {l : Launch} {D : va_G} {cI cJ cC cG : ClassId} {sz : Nat} {ad : Nat → Nat} {c_s : Nat → Int32} {c_before : Nat → Int32} {c_known : Int32} {c_kept : Nat → Int32} {c_isKept : Bool} {c_aside : Nat → Int32} {c_buffer : Nat → Int32} {c_length : Int32} {c_thrown : Int32} {c_laid : Nat → Int32} {c_spot : Int32} {c_isWrong : Bool} {c_isHalted : Bool} {c_mine : Nat → Int64} {c_theirs : Nat → Int64} {c_many : Int32} {c_from0 : Nat → Int64} {c_from1 : Nat → Int64} {c_dice : Nat → Int32} {c_hash : Int64} {a1 : Int32} {a2 : Int32} {r : Int32} {c_s' : Nat → Int32} {c_thrown' : Int32} {c_laid' : Nat → Int32} (hm : mX10_blotsBehind c_s c_thrown c_laid a1 a2 = some (r, c_s', c_thrown', c_laid')) : k_Mi l yX10_blotsBehind wsX10_blotsBehind rmX10_blotsBehind D (kT cI cJ cC cG) sz ([.ref (ad 0), .int a1, .int a2] : List Value) (wM cI cJ ad c_s c_before c_known c_kept c_isKept c_aside c_buffer c_length c_thrown c_laid c_spot c_isWrong c_isHalted c_mine c_theirs c_many c_from0 c_from1 c_dice c_hash) (wM cI cJ ad c_s' c_before c_known c_kept c_isKept c_aside c_buffer c_length c_thrown' c_laid' c_spot c_isWrong c_isHalted c_mine c_theirs c_many c_from0 c_from1 c_dice c_hash) r := by
  refine k_st_i (cc := cX10_blotsBehind) (maxL := 5) (by decide) rfl (Nat.le_of_ble_eq_true rfl) ?_
  intro p e z m below meth c A hx hb hr hml hts hown hlocks hsz hN hA hK hP hD hS ls hl
  have hown : z.vm.findClass RX10 = some m.cls := hown
  have hinX10 : ∀ w ∈ wsX100, w ∈ wsX10_blotsBehind := by decide +kernel
  have fl7 := hts (.fieldLink RX10 7 "MagpieRunsModel" "s" "[I") (by decide +kernel)
  have fl48 := hts (.fieldLink RX10 48 "MagpieRunsModel" "thrown" "I") (by decide +kernel)
  have hl : lv_has ls 5 [(0, .ref (ad 0)), (1, .int a1), (2, .int a2)] := hl
  have J_30 : ∀ (c_s : Nat → Int32) (c_thrown : Int32) (c_laid : Nat → Int32) (H : Heap) (locs : List Loc), va_P D vwCl (wM cI cJ ad c_s c_before c_known c_kept c_isKept c_aside c_buffer c_length c_thrown c_laid c_spot c_isWrong c_isHalted c_mine c_theirs c_many c_from0 c_from1 c_dice c_hash) H → va_D A (wM cI cJ ad c_s c_before c_known c_kept c_isKept c_aside c_buffer c_length c_thrown c_laid c_spot c_isWrong c_isHalted c_mine c_theirs c_many c_from0 c_from1 c_dice c_hash) → va_S A z.heap H locs → ∀ ls : Array Slot, lv_has ls 5 [(0, .ref (ad 0)), (1, .int a1), (2, .int a2)] → mX10_blotsBehind_30 a1 a2 c_s c_thrown c_laid = some (r, c_s', c_thrown', c_laid') → W p l e rmX10_blotsBehind z m ([.ref (ad 0), .int a1, .int a2] : List Value).toArray below meth c H locs 0 0 (k_Qi below ([.ref (ad 0), .int a1, .int a2] : List Value) D (kT cI cJ cC cG) z A (wM cI cJ ad c_s' c_before c_known c_kept c_isKept c_aside c_buffer c_length c_thrown' c_laid' c_spot c_isWrong c_isHalted c_mine c_theirs c_many c_from0 c_from1 c_dice c_hash) r) (F0 m 30 ls []) := by
    intro c_s c_thrown c_laid H locs hP hD hS ls hl hm
    unfold mX10_blotsBehind_30 at hm
    refine lv_aload_n hx hb dX10_blotsBehind_30 rfl (lv_at hl 0 rfl) ?_
    refine va_get (D := D) (ci := 6) (v := .int c_thrown) (C := RX10) (T := TX10) (N := 20) hx hb hts hinX10 hown hK hP 0 rfl rfl 8 (by decide) fl48 (fun _ h9 => h9) rfl dX10_blotsBehind_31 ?_
    refine lv_if_le (tgt := 39) hx hb dX10_blotsBehind_34 (by decide) (fun cc34 => ?_) (fun cc34 => ?_)
    · have hm := k_ip cc34 hm
      refine lv_aload_n hx hb dX10_blotsBehind_39 rfl (lv_at hl 0 rfl) ?_
      refine lv_iconst (v := 0) hx hb dX10_blotsBehind_40 (by decide) ?_
      obtain ⟨w1, hc41, hm⟩ := k_bds hm
      refine k_v_s (k_rV (As := [.int 0]) (rest := []) ⟨hx, hb, hml, hown, hts⟩ hK hN hP hD (zX10_lays hc41) (cwV 1 hts gX10_blotsBehind_X10_lays rfl rfl rfl (by decide +kernel) ⟨Nat.le_of_ble_eq_true rfl, Nat.le_of_ble_eq_true rfl⟩) rfl rfl rfl hl.1 rfl (Nat.le_of_ble_eq_true rfl) dX10_blotsBehind_41 ⟨Nat.zero_le _, Nat.zero_le _⟩) hD hS hA (fun H locs hP hD hS => ?_)
      refine lv_aload_n hx hb dX10_blotsBehind_44 rfl (lv_at hl 0 rfl) ?_
      refine lv_aload_n hx hb dX10_blotsBehind_45 rfl (lv_at hl 0 rfl) ?_
      refine va_get (D := D) (ci := 6) (v := .ref (ad 1)) (C := RX10) (T := TX10) (N := 20) hx hb hts hinX10 hown hK hP 0 rfl rfl 0 (by decide) fl7 (fun _ h9 => h9) rfl dX10_blotsBehind_46 ?_
      refine lv_bipush (v := 36) hx hb dX10_blotsBehind_49 (by decide) ?_
      refine k_iaC hx hb hK hP 1 0 rfl rfl kl_36 ki_36_51 dX10_blotsBehind_51 ?_
      refine lv_iload_n hx hb dX10_blotsBehind_52 rfl (lv_at hl 1 rfl) ?_
      refine lv_iload_n hx hb dX10_blotsBehind_53 rfl (lv_at hl 2 rfl) ?_
      obtain ⟨r2, w3, hc54, hm⟩ := k_bd2s hm
      refine k_i_s (k_rV (As := [.int (c_s 36), .int a1, .int a2]) (rest := []) ⟨hx, hb, hml, hown, hts⟩ hK hN hP hD (zX10_moves hc54) (cwV 3 hts gX10_blotsBehind_X10_moves rfl rfl rfl (by decide +kernel) ⟨Nat.le_of_ble_eq_true rfl, Nat.le_of_ble_eq_true rfl⟩) rfl rfl rfl hl.1 rfl (Nat.le_of_ble_eq_true rfl) dX10_blotsBehind_54 ⟨Nat.zero_le _, Nat.zero_le _⟩) hD hS hA (fun H locs hP hD hS => ?_)
      refine lv_istore_n (lv' := [(3, .int (k_b r2)), (0, .ref (ad 0)), (1, .int a1), (2, .int a2)]) hx hb dX10_blotsBehind_57 rfl hl (by decide) rfl (fun ls hl => ?_)
      refine lv_aload_n hx hb dX10_blotsBehind_58 rfl (lv_at hl 1 rfl) ?_
      refine lv_aload_n hx hb dX10_blotsBehind_59 rfl (lv_at hl 1 rfl) ?_
      refine va_get (D := D) (ci := 6) (v := .ref (ad 1)) (C := RX10) (T := TX10) (N := 20) hx hb hts hinX10 hown hK hP 0 rfl rfl 0 (by decide) fl7 (fun _ h9 => h9) rfl dX10_blotsBehind_60 ?_
      refine lv_bipush (v := 36) hx hb dX10_blotsBehind_63 (by decide) ?_
      refine k_iaC hx hb hK hP 1 0 rfl rfl kl_36 ki_36_51 dX10_blotsBehind_65 ?_
      obtain ⟨r4, hc66, hm⟩ := k_bds hm
      refine k_i_s (k_rV (As := [.int (w3 36)]) (rest := []) ⟨hx, hb, hml, hown, hts⟩ hK hN hP hD (zX10_blot hc66) (cwV 1 hts gX10_blotsBehind_X10_blot rfl rfl rfl (by decide +kernel) ⟨Nat.le_of_ble_eq_true rfl, Nat.le_of_ble_eq_true rfl⟩) rfl rfl rfl hl.1 rfl (Nat.le_of_ble_eq_true rfl) dX10_blotsBehind_66 ⟨Nat.zero_le _, Nat.zero_le _⟩) hD hS hA (fun H locs hP hD hS => ?_)
      refine lv_istore (lv' := [(4, .int r4), (3, .int (k_b r2)), (0, .ref (ad 0)), (1, .int a1), (2, .int a2)]) hx hb dX10_blotsBehind_69 hl (by decide) rfl (fun ls hl => ?_)
      refine lv_aload_n hx hb dX10_blotsBehind_71 rfl (lv_at hl 2 rfl) ?_
      refine lv_iconst (v := 0) hx hb dX10_blotsBehind_72 (by decide) ?_
      obtain ⟨w5, hc73, hm⟩ := k_bds hm
      refine k_v_s (k_rV (As := [.int 0]) (rest := []) ⟨hx, hb, hml, hown, hts⟩ hK hN hP hD (zX10_takesUp hc73) (cwV 1 hts gX10_blotsBehind_X10_takesUp rfl rfl rfl (by decide +kernel) ⟨Nat.le_of_ble_eq_true rfl, Nat.le_of_ble_eq_true rfl⟩) rfl rfl rfl hl.1 rfl (Nat.le_of_ble_eq_true rfl) dX10_blotsBehind_73 ⟨Nat.zero_le _, Nat.zero_le _⟩) hD hS hA (fun H locs hP hD hS => ?_)
      refine lv_iload hx hb dX10_blotsBehind_76 (lv_at hl 0 rfl) ?_
      cases hm
      exact k_end_i hx hb hr hlocks hK hP hD hS dX10_blotsBehind_78
    · have hm := k_in cc34 hm
      refine lv_iconst (v := 0) hx hb dX10_blotsBehind_37 (by decide) ?_
      cases hm
      exact k_end_i hx hb hr hlocks hK hP hD hS dX10_blotsBehind_38
  unfold mX10_blotsBehind at hm
  refine lv_aload_n hx hb dX10_blotsBehind_0 rfl (lv_at hl 0 rfl) ?_
  refine lv_iload_n hx hb dX10_blotsBehind_1 rfl (lv_at hl 1 rfl) ?_
  refine lv_iload_n hx hb dX10_blotsBehind_2 rfl (lv_at hl 2 rfl) ?_
  obtain ⟨r6, hc3, hm⟩ := k_bds hm
  refine k_i_0 (k_rS (As := [.int a1, .int a2]) (rest := [.ref (ad 0)]) ⟨hx, hb, hml, hown, hts⟩ hK hN k_P0 (k_D0 (A := A)) (zX10_fault hc3) (va_cwS 2 hts gX10_blotsBehind_X10_fault rfl rfl rfl (by decide +kernel) ⟨Nat.le_of_ble_eq_true rfl, Nat.le_of_ble_eq_true rfl⟩) rfl hl.1 rfl (Nat.le_of_ble_eq_true rfl) dX10_blotsBehind_3 ⟨Nat.zero_le _, Nat.zero_le _⟩) hP hS hA (fun H locs hP hS => ?_)
  refine va_put (D := D) (ci := 6) (v := .int r6) (ty := .int) (C := RX10) (T := TX10) (N := 20) hx hb hts hinX10 tyX10 tyX10_ok nmX10 hown hK hP hD hS 0 rfl rfl 8 (by decide) fl48 (fun _ h9 => h9) rfl (by decide +kernel) rfl rfl (Nat.le_of_ble_eq_true rfl) dX10_blotsBehind_6 (fun H locs hP hD hS => ?_)
  have hP : va_P D vwCl (wM cI cJ ad c_s c_before c_known c_kept c_isKept c_aside c_buffer c_length r6 c_laid c_spot c_isWrong c_isHalted c_mine c_theirs c_many c_from0 c_from1 c_dice c_hash) H := hP
  have hD : va_D A (wM cI cJ ad c_s c_before c_known c_kept c_isKept c_aside c_buffer c_length r6 c_laid c_spot c_isWrong c_isHalted c_mine c_theirs c_many c_from0 c_from1 c_dice c_hash) := hD
  refine lv_aload_n hx hb dX10_blotsBehind_9 rfl (lv_at hl 0 rfl) ?_
  refine va_get (D := D) (ci := 6) (v := .int r6) (C := RX10) (T := TX10) (N := 20) hx hb hts hinX10 hown hK hP 0 rfl rfl 8 (by decide) fl48 (fun _ h9 => h9) rfl dX10_blotsBehind_10 ?_
  refine lv_if_ne (tgt := 30) hx hb dX10_blotsBehind_13 (by decide) (fun cc13 => ?_) (fun cc13 => ?_)
  · have hm := k_in cc13 hm
    exact J_30 c_s r6 c_laid _ _ hP hD hS _ (lv_sub hl [0, 1, 2] rfl) hm
  · have hm := k_ip cc13 hm
    refine lv_aload_n hx hb dX10_blotsBehind_16 rfl (lv_at hl 0 rfl) ?_
    refine lv_iload_n hx hb dX10_blotsBehind_17 rfl (lv_at hl 1 rfl) ?_
    refine lv_iload_n hx hb dX10_blotsBehind_18 rfl (lv_at hl 2 rfl) ?_
    obtain ⟨r7, w8, w9, hc19, hm⟩ := k_bd3s hm
    refine k_i_s (k_rV (As := [.int a1, .int a2]) (rest := []) ⟨hx, hb, hml, hown, hts⟩ hK hN hP hD (zX10_why hc19) (cwV 2 hts gX10_blotsBehind_X10_why rfl rfl rfl (by decide +kernel) ⟨Nat.le_of_ble_eq_true rfl, Nat.le_of_ble_eq_true rfl⟩) rfl rfl rfl hl.1 rfl (Nat.le_of_ble_eq_true rfl) dX10_blotsBehind_19 ⟨Nat.zero_le _, Nat.zero_le _⟩) hD hS hA (fun H locs hP hD hS => ?_)
    refine lv_if_eq (tgt := 30) hx hb dX10_blotsBehind_22 (by decide) (fun cc22 => ?_) (fun cc22 => ?_)
    · have hm := k_ip cc22 hm
      exact J_30 w8 r6 w9 _ _ hP hD hS _ (lv_sub hl [0, 1, 2] rfl) hm
    · have hm := k_in cc22 hm
      refine lv_aload_n hx hb dX10_blotsBehind_25 rfl (lv_at hl 0 rfl) ?_
      refine lv_iconst (v := 3) hx hb dX10_blotsBehind_26 (by decide) ?_
      refine va_put (D := D) (ci := 6) (v := .int 3) (ty := .int) (C := RX10) (T := TX10) (N := 20) hx hb hts hinX10 tyX10 tyX10_ok nmX10 hown hK hP hD hS 0 rfl rfl 8 (by decide) fl48 (fun _ h9 => h9) rfl (by decide +kernel) rfl rfl (Nat.le_of_ble_eq_true rfl) dX10_blotsBehind_27 (fun H locs hP hD hS => ?_)
      have hP : va_P D vwCl (wM cI cJ ad w8 c_before c_known c_kept c_isKept c_aside c_buffer c_length 3 w9 c_spot c_isWrong c_isHalted c_mine c_theirs c_many c_from0 c_from1 c_dice c_hash) H := hP
      have hD : va_D A (wM cI cJ ad w8 c_before c_known c_kept c_isKept c_aside c_buffer c_length 3 w9 c_spot c_isWrong c_isHalted c_mine c_theirs c_many c_from0 c_from1 c_dice c_hash) := hD
      exact J_30 w8 3 w9 _ _ hP hD hS _ (lv_sub hl [0, 1, 2] rfl) hm

abbrev rmX10_leading : Room := { frames := 2, cells := 0, slots := 0, locals := 45 }
set_option maxHeartbeats 4000000 in
set_option maxRecDepth 100000 in
theorem zX10_leading {l : Launch} {D : va_G} {cI cJ cC cG : ClassId} {sz : Nat} {ad : Nat → Nat} {c_s : Nat → Int32} {c_before : Nat → Int32} {c_known : Int32} {c_kept : Nat → Int32} {c_isKept : Bool} {c_aside : Nat → Int32} {c_buffer : Nat → Int32} {c_length : Int32} {c_thrown : Int32} {c_laid : Nat → Int32} {c_spot : Int32} {c_isWrong : Bool} {c_isHalted : Bool} {c_mine : Nat → Int64} {c_theirs : Nat → Int64} {c_many : Int32} {c_from0 : Nat → Int64} {c_from1 : Nat → Int64} {c_dice : Nat → Int32} {c_hash : Int64} {r : UInt64} (hm : mX10_leading c_s = some (r)) : k_Md l yX10_leading wsX10_leading rmX10_leading D (kT cI cJ cC cG) sz ([.ref (ad 0)] : List Value) (wM cI cJ ad c_s c_before c_known c_kept c_isKept c_aside c_buffer c_length c_thrown c_laid c_spot c_isWrong c_isHalted c_mine c_theirs c_many c_from0 c_from1 c_dice c_hash) (wM cI cJ ad c_s c_before c_known c_kept c_isKept c_aside c_buffer c_length c_thrown c_laid c_spot c_isWrong c_isHalted c_mine c_theirs c_many c_from0 c_from1 c_dice c_hash) r := by
  refine k_st_d (cc := cX10_leading) (maxL := 3) (by decide) rfl (Nat.le_of_ble_eq_true rfl) ?_
  intro p e z m below meth c A hx hb hr hml hts hown hlocks hsz hN hA hK hP hD hS ls hl
  have hown : z.vm.findClass RX10 = some m.cls := hown
  have hinX10 : ∀ w ∈ wsX100, w ∈ wsX10_leading := by decide +kernel
  have fl7 := hts (.fieldLink RX10 7 "MagpieRunsModel" "s" "[I") (by decide +kernel)
  have hl : lv_has ls 3 [(0, .ref (ad 0))] := hl
  unfold mX10_leading at hm
  refine lv_aload_n hx hb dX10_leading_0 rfl (lv_at hl 0 rfl) ?_
  refine lv_iconst (v := 1) hx hb dX10_leading_1 (by decide) ?_
  refine lv_aload_n hx hb dX10_leading_2 rfl (lv_at hl 0 rfl) ?_
  refine va_get (D := D) (ci := 6) (v := .ref (ad 1)) (C := RX10) (T := TX10) (N := 20) hx hb hts hinX10 hown hK hP 0 rfl rfl 0 (by decide) fl7 (fun _ h9 => h9) rfl dX10_leading_3 ?_
  refine lv_bipush (v := 36) hx hb dX10_leading_6 (by decide) ?_
  refine k_iaC hx hb hK hP 1 0 rfl rfl kl_36 ki_36_51 dX10_leading_8 ?_
  refine lv_isub hx hb dX10_leading_9 ?_
  obtain ⟨r1, hc10, hm⟩ := k_bds hm
  refine k_i_s (k_rV (As := [.int (1 - (c_s 36))]) (rest := []) ⟨hx, hb, hml, hown, hts⟩ hK hN hP hD (zX10_pip hc10) (cwV 1 hts gX10_leading_X10_pip rfl rfl rfl (by decide +kernel) ⟨Nat.le_of_ble_eq_true rfl, Nat.le_of_ble_eq_true rfl⟩) rfl rfl rfl hl.1 rfl (Nat.le_of_ble_eq_true rfl) dX10_leading_10 ⟨Nat.zero_le _, Nat.zero_le _⟩) hD hS hA (fun H locs hP hD hS => ?_)
  refine lv_istore_n (lv' := [(1, .int r1), (0, .ref (ad 0))]) hx hb dX10_leading_13 rfl hl (by decide) rfl (fun ls hl => ?_)
  refine lv_iload_n hx hb dX10_leading_14 rfl (lv_at hl 0 rfl) ?_
  refine lv_aload_n hx hb dX10_leading_15 rfl (lv_at hl 1 rfl) ?_
  refine lv_aload_n hx hb dX10_leading_16 rfl (lv_at hl 1 rfl) ?_
  refine va_get (D := D) (ci := 6) (v := .ref (ad 1)) (C := RX10) (T := TX10) (N := 20) hx hb hts hinX10 hown hK hP 0 rfl rfl 0 (by decide) fl7 (fun _ h9 => h9) rfl dX10_leading_17 ?_
  refine lv_bipush (v := 36) hx hb dX10_leading_20 (by decide) ?_
  refine k_iaC hx hb hK hP 1 0 rfl rfl kl_36 ki_36_51 dX10_leading_22 ?_
  obtain ⟨r2, hc23, hm⟩ := k_bds hm
  refine k_i_s (k_rV (As := [.int (c_s 36)]) (rest := [.int r1]) ⟨hx, hb, hml, hown, hts⟩ hK hN hP hD (zX10_pip hc23) (cwV 1 hts gX10_leading_X10_pip rfl rfl rfl (by decide +kernel) ⟨Nat.le_of_ble_eq_true rfl, Nat.le_of_ble_eq_true rfl⟩) rfl rfl rfl hl.1 rfl (Nat.le_of_ble_eq_true rfl) dX10_leading_23 ⟨Nat.zero_le _, Nat.zero_le _⟩) hD hS hA (fun H locs hP hD hS => ?_)
  refine lv_iadd hx hb dX10_leading_26 ?_
  refine lv_istore_n (lv' := [(2, .int (r1 + r2)), (1, .int r1), (0, .ref (ad 0))]) hx hb dX10_leading_27 rfl hl (by decide) rfl (fun ls hl => ?_)
  refine lv_iload_n hx hb dX10_leading_28 rfl (lv_at hl 0 rfl) ?_
  refine lv_if_ne (tgt := 38) hx hb dX10_leading_29 (by decide) (fun cc29 => ?_) (fun cc29 => ?_)
  · have hm := k_in cc29 hm
    refine lv_iload_n hx hb dX10_leading_38 rfl (lv_at hl 1 rfl) ?_
    refine lv_i2d hx hb dX10_leading_39 ?_
    refine lv_iload_n hx hb dX10_leading_40 rfl (lv_at hl 0 rfl) ?_
    refine lv_i2d hx hb dX10_leading_41 ?_
    obtain ⟨gd42, hm⟩ := k_gns hm
    refine lv_ddiv hx hb dX10_leading_42 (k_nns gd42) ?_
    cases hm
    exact k_end_d hx hb hr hlocks hK hP hD hS dX10_leading_43
  · have hm := k_ip cc29 hm
    refine lv_ldc2d hx hb hown (hts (.constantDouble RX10 259 4602678819172646912) (by decide +kernel)) dX10_leading_32 ?_
    refine lv_goto (tgt := 43) hx hb dX10_leading_35 (by decide) ?_
    cases hm
    exact k_end_d hx hb hr hlocks hK hP hD hS dX10_leading_43

abbrev rmX10_lead : Room := { frames := 3, cells := 0, slots := 0, locals := 67 }
set_option maxHeartbeats 4000000 in
set_option maxRecDepth 100000 in
theorem zX10_lead {l : Launch} {D : va_G} {cI cJ cC cG : ClassId} {sz : Nat} {ad : Nat → Nat} {c_s : Nat → Int32} {c_before : Nat → Int32} {c_known : Int32} {c_kept : Nat → Int32} {c_isKept : Bool} {c_aside : Nat → Int32} {c_buffer : Nat → Int32} {c_length : Int32} {c_thrown : Int32} {c_laid : Nat → Int32} {c_spot : Int32} {c_isWrong : Bool} {c_isHalted : Bool} {c_mine : Nat → Int64} {c_theirs : Nat → Int64} {c_many : Int32} {c_from0 : Nat → Int64} {c_from1 : Nat → Int64} {c_dice : Nat → Int32} {c_hash : Int64} {r : UInt64} {c_thrown' : Int32} (hm : mX10_lead c_s c_thrown = some (r, c_thrown')) : k_Md l yX10_lead wsX10_lead rmX10_lead D (kT cI cJ cC cG) sz ([.ref (ad 0)] : List Value) (wM cI cJ ad c_s c_before c_known c_kept c_isKept c_aside c_buffer c_length c_thrown c_laid c_spot c_isWrong c_isHalted c_mine c_theirs c_many c_from0 c_from1 c_dice c_hash) (wM cI cJ ad c_s c_before c_known c_kept c_isKept c_aside c_buffer c_length c_thrown' c_laid c_spot c_isWrong c_isHalted c_mine c_theirs c_many c_from0 c_from1 c_dice c_hash) r := by
  refine k_st_d (cc := cX10_lead) (maxL := 1) (by decide) rfl (Nat.le_of_ble_eq_true rfl) ?_
  intro p e z m below meth c A hx hb hr hml hts hown hlocks hsz hN hA hK hP hD hS ls hl
  have hown : z.vm.findClass RX10 = some m.cls := hown
  have hinX10 : ∀ w ∈ wsX100, w ∈ wsX10_lead := by decide +kernel
  have fl48 := hts (.fieldLink RX10 48 "MagpieRunsModel" "thrown" "I") (by decide +kernel)
  have hl : lv_has ls 1 [(0, .ref (ad 0))] := hl
  unfold mX10_lead at hm
  refine lv_aload_n hx hb dX10_lead_0 rfl (lv_at hl 0 rfl) ?_
  refine lv_iconst (v := 0) hx hb dX10_lead_1 (by decide) ?_
  refine va_put (D := D) (ci := 6) (v := .int 0) (ty := .int) (C := RX10) (T := TX10) (N := 20) hx hb hts hinX10 tyX10 tyX10_ok nmX10 hown hK hP hD hS 0 rfl rfl 8 (by decide) fl48 (fun _ h9 => h9) rfl (by decide +kernel) rfl rfl (Nat.le_of_ble_eq_true rfl) dX10_lead_2 (fun H locs hP hD hS => ?_)
  have hP : va_P D vwCl (wM cI cJ ad c_s c_before c_known c_kept c_isKept c_aside c_buffer c_length 0 c_laid c_spot c_isWrong c_isHalted c_mine c_theirs c_many c_from0 c_from1 c_dice c_hash) H := hP
  have hD : va_D A (wM cI cJ ad c_s c_before c_known c_kept c_isKept c_aside c_buffer c_length 0 c_laid c_spot c_isWrong c_isHalted c_mine c_theirs c_many c_from0 c_from1 c_dice c_hash) := hD
  refine lv_aload_n hx hb dX10_lead_5 rfl (lv_at hl 0 rfl) ?_
  obtain ⟨r1, hc6, hm⟩ := k_bds hm
  refine k_d_s (k_rV (As := []) (rest := []) ⟨hx, hb, hml, hown, hts⟩ hK hN hP hD (zX10_leading hc6) (cwV 0 hts gX10_lead_X10_leading rfl rfl rfl (by decide +kernel) ⟨Nat.le_of_ble_eq_true rfl, Nat.le_of_ble_eq_true rfl⟩) rfl rfl rfl hl.1 rfl (Nat.le_of_ble_eq_true rfl) dX10_lead_6 ⟨Nat.zero_le _, Nat.zero_le _⟩) hD hS hA (fun H locs hP hD hS => ?_)
  cases hm
  exact k_end_d hx hb hr hlocks hK hP hD hS dX10_lead_9

