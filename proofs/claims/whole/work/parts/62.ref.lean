abbrev rmX10_go : Room := { frames := 10, cells := 0, slots := 0, locals := 244 }
set_option maxHeartbeats 4000000 in
set_option maxRecDepth 100000 in
theorem zX10_go {l : Launch} {D : va_G} {cI cJ cC cG : ClassId} {sz : Nat} {ad : Nat → Nat} {c_s : Nat → Int32} {c_before : Nat → Int32} {c_known : Int32} {c_kept : Nat → Int32} {c_isKept : Bool} {c_aside : Nat → Int32} {c_buffer : Nat → Int32} {c_length : Int32} {c_thrown : Int32} {c_laid : Nat → Int32} {c_spot : Int32} {c_isWrong : Bool} {c_isHalted : Bool} {c_mine : Nat → Int64} {c_theirs : Nat → Int64} {c_many : Int32} {c_from0 : Nat → Int64} {c_from1 : Nat → Int64} {c_dice : Nat → Int32} {c_hash : Int64} {a1 : Bool} {r : Int32} {c_s' : Nat → Int32} {c_laid' : Nat → Int32} {c_spot' : Int32} {c_isWrong' : Bool} {c_isHalted' : Bool} (hm : mX10_go c_s c_buffer c_length c_laid c_spot c_isWrong c_isHalted a1 = some (r, c_s', c_laid', c_spot', c_isWrong', c_isHalted')) : k_Mi l yX10_go wsX10_go rmX10_go D (kT cI cJ cC cG) sz ([.ref (ad 0), .int (k_b a1)] : List Value) (wM cI cJ ad c_s c_before c_known c_kept c_isKept c_aside c_buffer c_length c_thrown c_laid c_spot c_isWrong c_isHalted c_mine c_theirs c_many c_from0 c_from1 c_dice c_hash) (wM cI cJ ad c_s' c_before c_known c_kept c_isKept c_aside c_buffer c_length c_thrown c_laid' c_spot' c_isWrong' c_isHalted' c_mine c_theirs c_many c_from0 c_from1 c_dice c_hash) r := by
  refine k_st_i (cc := cX10_go) (maxL := 5) (by decide) rfl (Nat.le_of_ble_eq_true rfl) ?_
  intro p e z m below meth c A hx hb hr hml hts hown hlocks hsz hN hA hK hP hD hS ls hl
  have hown : z.vm.findClass RX10 = some m.cls := hown
  have hinX10 : ∀ w ∈ wsX100, w ∈ wsX10_go := by decide +kernel
  have fl173 := hts (.fieldLink RX10 173 "MagpieRunsModel" "length" "I") (by decide +kernel)
  have fl176 := hts (.fieldLink RX10 176 "MagpieRunsModel" "spot" "I") (by decide +kernel)
  have fl179 := hts (.fieldLink RX10 179 "MagpieRunsModel" "isWrong" "Z") (by decide +kernel)
  have fl189 := hts (.fieldLink RX10 189 "MagpieRunsModel" "isHalted" "Z") (by decide +kernel)
  have hl : lv_has ls 5 [(0, .ref (ad 0)), (1, .int (k_b a1))] := hl
  have J_19 := k_loop (z := fun _ _ _ _ _ _ _ => none) (st := mX10_go_19 c_buffer c_length a1) (fun k19 : (Int32) → (Bool) → (Nat → Int32) → (Nat → Int32) → (Int32) → (Bool) → (Bool) → Option (Int32 × (Nat → Int32) × (Nat → Int32) × (Int32) × (Bool) × (Bool)) => ∀ (l2 : Int32) (l3 : Bool) (c_s : Nat → Int32) (c_laid : Nat → Int32) (c_spot : Int32) (c_isWrong : Bool) (c_isHalted : Bool) (H : Heap) (locs : List Loc), va_P D vwCl (wM cI cJ ad c_s c_before c_known c_kept c_isKept c_aside c_buffer c_length c_thrown c_laid c_spot c_isWrong c_isHalted c_mine c_theirs c_many c_from0 c_from1 c_dice c_hash) H → va_D A (wM cI cJ ad c_s c_before c_known c_kept c_isKept c_aside c_buffer c_length c_thrown c_laid c_spot c_isWrong c_isHalted c_mine c_theirs c_many c_from0 c_from1 c_dice c_hash) → va_S A z.heap H locs → ∀ ls : Array Slot, lv_has ls 5 [(0, .ref (ad 0)), (1, .int (k_b a1)), (2, .int l2), (3, .int (k_b l3))] → k19 l2 l3 c_s c_laid c_spot c_isWrong c_isHalted = some (r, c_s', c_laid', c_spot', c_isWrong', c_isHalted') → W p l e rmX10_go z m ([.ref (ad 0), .int (k_b a1)] : List Value).toArray below meth c H locs 0 0 (k_Qi below ([.ref (ad 0), .int (k_b a1)] : List Value) D (kT cI cJ cC cG) z A (wM cI cJ ad c_s' c_before c_known c_kept c_isKept c_aside c_buffer c_length c_thrown c_laid' c_spot' c_isWrong' c_isHalted' c_mine c_theirs c_many c_from0 c_from1 c_dice c_hash) r) (F0 m 19 ls [])) (by intros; rename_i h; cases h) (by
    intro k19 ih19
    have J_64 : ∀ (t0 : Bool) (l2 : Int32) (c_s : Nat → Int32) (c_laid : Nat → Int32) (c_spot : Int32) (c_isWrong : Bool) (c_isHalted : Bool) (H : Heap) (locs : List Loc), va_P D vwCl (wM cI cJ ad c_s c_before c_known c_kept c_isKept c_aside c_buffer c_length c_thrown c_laid c_spot c_isWrong c_isHalted c_mine c_theirs c_many c_from0 c_from1 c_dice c_hash) H → va_D A (wM cI cJ ad c_s c_before c_known c_kept c_isKept c_aside c_buffer c_length c_thrown c_laid c_spot c_isWrong c_isHalted c_mine c_theirs c_many c_from0 c_from1 c_dice c_hash) → va_S A z.heap H locs → ∀ ls : Array Slot, lv_has ls 5 [(0, .ref (ad 0)), (1, .int (k_b a1)), (2, .int l2)] → mX10_go_64 c_buffer c_length a1 k19 t0 l2 c_s c_laid c_spot c_isWrong c_isHalted = some (r, c_s', c_laid', c_spot', c_isWrong', c_isHalted') → W p l e rmX10_go z m ([.ref (ad 0), .int (k_b a1)] : List Value).toArray below meth c H locs 0 0 (k_Qi below ([.ref (ad 0), .int (k_b a1)] : List Value) D (kT cI cJ cC cG) z A (wM cI cJ ad c_s' c_before c_known c_kept c_isKept c_aside c_buffer c_length c_thrown c_laid' c_spot' c_isWrong' c_isHalted' c_mine c_theirs c_many c_from0 c_from1 c_dice c_hash) r) (F0 m 64 ls [.int (k_b t0)]) := by
      intro t0 l2 c_s c_laid c_spot c_isWrong c_isHalted H locs hP hD hS ls hl hm
      unfold mX10_go_64 at hm
      refine lv_istore_n (lv' := [(3, .int (k_b t0)), (0, .ref (ad 0)), (1, .int (k_b a1)), (2, .int l2)]) hx hb dX10_go_64 rfl hl (by decide) rfl (fun ls hl => ?_)
      refine lv_iload_n hx hb dX10_go_65 rfl (lv_at hl 0 rfl) ?_
      refine lv_if_eq (tgt := 19) hx hb dX10_go_66 (by decide) (fun cc66 => ?_) (fun cc66 => ?_)
      · have hm := k_ip cc66 hm
        exact ih19 l2 t0 c_s c_laid c_spot c_isWrong c_isHalted _ _ hP hD hS _ (lv_sub hl [1, 2, 3, 0] rfl) hm
      · have hm := k_in cc66 hm
        refine lv_aload_n hx hb dX10_go_69 rfl (lv_at hl 1 rfl) ?_
        refine lv_bipush (v := 59) hx hb dX10_go_70 (by decide) ?_
        refine lv_bipush (v := 59) hx hb dX10_go_72 (by decide) ?_
        obtain ⟨r1, w2, w3, hc74, hm⟩ := k_bd3s hm
        refine k_i_s (k_rV (As := [.int 59, .int 59]) (rest := []) ⟨hx, hb, hml, hown, hts⟩ hK hN hP hD (zX10_sign hc74) (cwV 2 hts gX10_go_X10_sign rfl rfl rfl (by decide +kernel) ⟨Nat.le_of_ble_eq_true rfl, Nat.le_of_ble_eq_true rfl⟩) rfl rfl rfl hl.1 rfl (Nat.le_of_ble_eq_true rfl) dX10_go_74 ⟨Nat.zero_le _, Nat.zero_le _⟩) hD hS hA (fun H locs hP hD hS => ?_)
        refine lv_istore (lv' := [(4, .int r1), (3, .int (k_b t0)), (0, .ref (ad 0)), (1, .int (k_b a1)), (2, .int l2)]) hx hb dX10_go_77 hl (by decide) rfl (fun ls hl => ?_)
        refine lv_aload_n hx hb dX10_go_79 rfl (lv_at hl 2 rfl) ?_
        refine va_get (D := D) (ci := 6) (v := .int (k_b w3)) (C := RX10) (T := TX10) (N := 20) hx hb hts hinX10 hown hK hP 0 rfl rfl 11 (by decide) fl179 (fun _ h9 => h9) rfl dX10_go_80 ?_
        refine lv_if_ne (tgt := 90) hx hb dX10_go_83 (by decide) (fun cc83 => ?_) (fun cc83 => ?_)
        · have hm := k_in cc83 hm
          refine lv_iconst (v := 0) hx hb dX10_go_90 (by decide) ?_
          refine lv_istore_n (lv' := [(3, .int 0), (4, .int r1), (0, .ref (ad 0)), (1, .int (k_b a1)), (2, .int l2)]) hx hb dX10_go_91 rfl hl (by decide) rfl (fun ls hl => ?_)
          refine lv_goto (tgt := 19) hx hb dX10_go_92 (by decide) ?_
          exact ih19 l2 false c_s c_laid w2 w3 c_isHalted _ _ hP hD hS _ (lv_sub hl [2, 3, 4, 0] rfl) hm
        · have hm := k_ip cc83 hm
          refine lv_iconst (v := 1) hx hb dX10_go_86 (by decide) ?_
          refine lv_goto (tgt := 91) hx hb dX10_go_87 (by decide) ?_
          refine lv_istore_n (lv' := [(3, .int 1), (4, .int r1), (0, .ref (ad 0)), (1, .int (k_b a1)), (2, .int l2)]) hx hb dX10_go_91 rfl hl (by decide) rfl (fun ls hl => ?_)
          refine lv_goto (tgt := 19) hx hb dX10_go_92 (by decide) ?_
          exact ih19 l2 true c_s c_laid w2 w3 c_isHalted _ _ hP hD hS _ (lv_sub hl [2, 3, 4, 0] rfl) hm
    have J_63 : ∀ (l2 : Int32) (c_s : Nat → Int32) (c_laid : Nat → Int32) (c_spot : Int32) (c_isWrong : Bool) (c_isHalted : Bool) (H : Heap) (locs : List Loc), va_P D vwCl (wM cI cJ ad c_s c_before c_known c_kept c_isKept c_aside c_buffer c_length c_thrown c_laid c_spot c_isWrong c_isHalted c_mine c_theirs c_many c_from0 c_from1 c_dice c_hash) H → va_D A (wM cI cJ ad c_s c_before c_known c_kept c_isKept c_aside c_buffer c_length c_thrown c_laid c_spot c_isWrong c_isHalted c_mine c_theirs c_many c_from0 c_from1 c_dice c_hash) → va_S A z.heap H locs → ∀ ls : Array Slot, lv_has ls 5 [(0, .ref (ad 0)), (1, .int (k_b a1)), (2, .int l2)] → mX10_go_63 c_buffer c_length a1 k19 l2 c_s c_laid c_spot c_isWrong c_isHalted = some (r, c_s', c_laid', c_spot', c_isWrong', c_isHalted') → W p l e rmX10_go z m ([.ref (ad 0), .int (k_b a1)] : List Value).toArray below meth c H locs 0 0 (k_Qi below ([.ref (ad 0), .int (k_b a1)] : List Value) D (kT cI cJ cC cG) z A (wM cI cJ ad c_s' c_before c_known c_kept c_isKept c_aside c_buffer c_length c_thrown c_laid' c_spot' c_isWrong' c_isHalted' c_mine c_theirs c_many c_from0 c_from1 c_dice c_hash) r) (F0 m 63 ls []) := by
      intro l2 c_s c_laid c_spot c_isWrong c_isHalted H locs hP hD hS ls hl hm
      unfold mX10_go_63 at hm
      refine lv_iconst (v := 0) hx hb dX10_go_63 (by decide) ?_
      exact J_64 false l2 c_s c_laid c_spot c_isWrong c_isHalted _ _ hP hD hS _ (lv_sub hl [0, 1, 2] rfl) hm
    intro l2 l3 c_s c_laid c_spot c_isWrong c_isHalted H locs hP hD hS ls hl hm
    unfold mX10_go_19 at hm
    refine lv_iload_n hx hb dX10_go_19 rfl (lv_at hl 3 rfl) ?_
    refine lv_if_eq (tgt := 95) hx hb dX10_go_20 (by decide) (fun cc20 => ?_) (fun cc20 => ?_)
    · have hm := k_ip cc20 hm
      refine lv_iload_n hx hb dX10_go_95 rfl (lv_at hl 2 rfl) ?_
      cases hm
      exact k_end_i hx hb hr hlocks hK hP hD hS dX10_go_96
    · have hm := k_in cc20 hm
      refine lv_aload_n hx hb dX10_go_23 rfl (lv_at hl 0 rfl) ?_
      refine lv_iload_n hx hb dX10_go_24 rfl (lv_at hl 1 rfl) ?_
      obtain ⟨r4, w5, w6, w7, w8, hc25, hm⟩ := k_bd5s hm
      refine k_i_s (k_rV (As := [.int (k_b a1)]) (rest := []) ⟨hx, hb, hml, hown, hts⟩ hK hN hP hD (zX10_part hc25) (cwV 1 hts gX10_go_X10_part rfl rfl rfl (by decide +kernel) ⟨Nat.le_of_ble_eq_true rfl, Nat.le_of_ble_eq_true rfl⟩) rfl rfl rfl hl.1 rfl (Nat.le_of_ble_eq_true rfl) dX10_go_25 ⟨Nat.zero_le _, Nat.zero_le _⟩) hD hS hA (fun H locs hP hD hS => ?_)
      refine lv_if_ne (tgt := 38) hx hb dX10_go_28 (by decide) (fun cc28 => ?_) (fun cc28 => ?_)
      · have hm := k_in cc28 hm
        refine lv_iinc (v := (l2 + 1)) (lv' := [(2, .int (l2 + 1)), (0, .ref (ad 0)), (1, .int (k_b a1)), (3, .int (k_b l3))]) hx hb dX10_go_38 hl (k := 2) rfl rfl (by decide) rfl (fun ls hl => ?_)
        refine lv_aload_n hx hb dX10_go_41 rfl (lv_at hl 1 rfl) ?_
        refine va_get (D := D) (ci := 6) (v := .int (k_b w8)) (C := RX10) (T := TX10) (N := 20) hx hb hts hinX10 hown hK hP 0 rfl rfl 11 (by decide) fl179 (fun _ h9 => h9) rfl dX10_go_42 ?_
        refine lv_if_ne (tgt := 63) hx hb dX10_go_45 (by decide) (fun cc45 => ?_) (fun cc45 => ?_)
        · have hm := k_in cc45 hm
          exact J_63 (l2 + 1) w5 w6 w7 w8 c_isHalted _ _ hP hD hS _ (lv_sub hl [1, 2, 0] rfl) hm
        · have hm := k_ip cc45 hm
          refine lv_aload_n hx hb dX10_go_48 rfl (lv_at hl 1 rfl) ?_
          refine va_get (D := D) (ci := 6) (v := .int w7) (C := RX10) (T := TX10) (N := 20) hx hb hts hinX10 hown hK hP 0 rfl rfl 10 (by decide) fl176 (fun _ h9 => h9) rfl dX10_go_49 ?_
          refine lv_aload_n hx hb dX10_go_52 rfl (lv_at hl 1 rfl) ?_
          refine va_get (D := D) (ci := 6) (v := .int c_length) (C := RX10) (T := TX10) (N := 20) hx hb hts hinX10 hown hK hP 0 rfl rfl 7 (by decide) fl173 (fun _ h9 => h9) rfl dX10_go_53 ?_
          refine lv_icmp_ge (tgt := 63) hx hb dX10_go_56 (by decide) (fun cc56 => ?_) (fun cc56 => ?_)
          · have hm := k_ip cc56 hm
            exact J_63 (l2 + 1) w5 w6 w7 w8 c_isHalted _ _ hP hD hS _ (lv_sub hl [1, 2, 0] rfl) hm
          · have hm := k_in cc56 hm
            refine lv_iconst (v := 1) hx hb dX10_go_59 (by decide) ?_
            refine lv_goto (tgt := 64) hx hb dX10_go_60 (by decide) ?_
            exact J_64 true (l2 + 1) w5 w6 w7 w8 c_isHalted _ _ hP hD hS _ (lv_sub hl [1, 2, 0] rfl) hm
      · have hm := k_ip cc28 hm
        refine lv_aload_n hx hb dX10_go_31 rfl (lv_at hl 0 rfl) ?_
        refine lv_iconst (v := 1) hx hb dX10_go_32 (by decide) ?_
        refine va_put (D := D) (ci := 6) (v := .int (k_b true)) (ty := .boolean) (C := RX10) (T := TX10) (N := 20) hx hb hts hinX10 tyX10 tyX10_ok nmX10 hown hK hP hD hS 0 rfl rfl 12 (by decide) fl189 (fun _ h9 => h9) rfl (by decide +kernel) (k_nz _) (k_fz _) (Nat.le_of_ble_eq_true rfl) dX10_go_33 (fun H locs hP hD hS => ?_)
        have hP : va_P D vwCl (wM cI cJ ad w5 c_before c_known c_kept c_isKept c_aside c_buffer c_length c_thrown w6 w7 w8 true c_mine c_theirs c_many c_from0 c_from1 c_dice c_hash) H := hP
        have hD : va_D A (wM cI cJ ad w5 c_before c_known c_kept c_isKept c_aside c_buffer c_length c_thrown w6 w7 w8 true c_mine c_theirs c_many c_from0 c_from1 c_dice c_hash) := hD
        refine lv_iload_n hx hb dX10_go_36 rfl (lv_at hl 2 rfl) ?_
        cases hm
        exact k_end_i hx hb hr hlocks hK hP hD hS dX10_go_37) k_F
  unfold mX10_go at hm
  refine lv_aload_n hx hb dX10_go_0 rfl (lv_at hl 0 rfl) ?_
  refine lv_iconst (v := 0) hx hb dX10_go_1 (by decide) ?_
  refine va_put (D := D) (ci := 6) (v := .int 0) (ty := .int) (C := RX10) (T := TX10) (N := 20) hx hb hts hinX10 tyX10 tyX10_ok nmX10 hown hK hP hD hS 0 rfl rfl 10 (by decide) fl176 (fun _ h9 => h9) rfl (by decide +kernel) rfl rfl (Nat.le_of_ble_eq_true rfl) dX10_go_2 (fun H locs hP hD hS => ?_)
  have hP : va_P D vwCl (wM cI cJ ad c_s c_before c_known c_kept c_isKept c_aside c_buffer c_length c_thrown c_laid 0 c_isWrong c_isHalted c_mine c_theirs c_many c_from0 c_from1 c_dice c_hash) H := hP
  have hD : va_D A (wM cI cJ ad c_s c_before c_known c_kept c_isKept c_aside c_buffer c_length c_thrown c_laid 0 c_isWrong c_isHalted c_mine c_theirs c_many c_from0 c_from1 c_dice c_hash) := hD
  refine lv_aload_n hx hb dX10_go_5 rfl (lv_at hl 0 rfl) ?_
  refine lv_iconst (v := 0) hx hb dX10_go_6 (by decide) ?_
  refine va_put (D := D) (ci := 6) (v := .int (k_b false)) (ty := .boolean) (C := RX10) (T := TX10) (N := 20) hx hb hts hinX10 tyX10 tyX10_ok nmX10 hown hK hP hD hS 0 rfl rfl 11 (by decide) fl179 (fun _ h9 => h9) rfl (by decide +kernel) (k_nz _) (k_fz _) (Nat.le_of_ble_eq_true rfl) dX10_go_7 (fun H locs hP hD hS => ?_)
  have hP : va_P D vwCl (wM cI cJ ad c_s c_before c_known c_kept c_isKept c_aside c_buffer c_length c_thrown c_laid 0 false c_isHalted c_mine c_theirs c_many c_from0 c_from1 c_dice c_hash) H := hP
  have hD : va_D A (wM cI cJ ad c_s c_before c_known c_kept c_isKept c_aside c_buffer c_length c_thrown c_laid 0 false c_isHalted c_mine c_theirs c_many c_from0 c_from1 c_dice c_hash) := hD
  refine lv_aload_n hx hb dX10_go_10 rfl (lv_at hl 0 rfl) ?_
  refine lv_iconst (v := 0) hx hb dX10_go_11 (by decide) ?_
  refine va_put (D := D) (ci := 6) (v := .int (k_b false)) (ty := .boolean) (C := RX10) (T := TX10) (N := 20) hx hb hts hinX10 tyX10 tyX10_ok nmX10 hown hK hP hD hS 0 rfl rfl 12 (by decide) fl189 (fun _ h9 => h9) rfl (by decide +kernel) (k_nz _) (k_fz _) (Nat.le_of_ble_eq_true rfl) dX10_go_12 (fun H locs hP hD hS => ?_)
  have hP : va_P D vwCl (wM cI cJ ad c_s c_before c_known c_kept c_isKept c_aside c_buffer c_length c_thrown c_laid 0 false false c_mine c_theirs c_many c_from0 c_from1 c_dice c_hash) H := hP
  have hD : va_D A (wM cI cJ ad c_s c_before c_known c_kept c_isKept c_aside c_buffer c_length c_thrown c_laid 0 false false c_mine c_theirs c_many c_from0 c_from1 c_dice c_hash) := hD
  refine lv_iconst (v := 0) hx hb dX10_go_15 (by decide) ?_
  refine lv_istore_n (lv' := [(2, .int 0), (0, .ref (ad 0)), (1, .int (k_b a1))]) hx hb dX10_go_16 rfl hl (by decide) rfl (fun ls hl => ?_)
  refine lv_iconst (v := 1) hx hb dX10_go_17 (by decide) ?_
  refine lv_istore_n (lv' := [(3, .int 1), (2, .int 0), (0, .ref (ad 0)), (1, .int (k_b a1))]) hx hb dX10_go_18 rfl hl (by decide) rfl (fun ls hl => ?_)
  exact J_19 0 true c_s c_laid 0 false false _ _ hP hD hS _ (lv_sub hl [2, 3, 1, 0] rfl) hm

abbrev rmX10_firstError : Room := { frames := 11, cells := 0, slots := 0, locals := 268 }
set_option maxHeartbeats 4000000 in
set_option maxRecDepth 100000 in
theorem zX10_firstError {l : Launch} {D : va_G} {cI cJ cC cG : ClassId} {sz : Nat} {ad : Nat → Nat} {c_s : Nat → Int32} {c_before : Nat → Int32} {c_known : Int32} {c_kept : Nat → Int32} {c_isKept : Bool} {c_aside : Nat → Int32} {c_buffer : Nat → Int32} {c_length : Int32} {c_thrown : Int32} {c_laid : Nat → Int32} {c_spot : Int32} {c_isWrong : Bool} {c_isHalted : Bool} {c_mine : Nat → Int64} {c_theirs : Nat → Int64} {c_many : Int32} {c_from0 : Nat → Int64} {c_from1 : Nat → Int64} {c_dice : Nat → Int32} {c_hash : Int64} {r : Int32} {c_s' : Nat → Int32} {c_thrown' : Int32} {c_laid' : Nat → Int32} {c_spot' : Int32} {c_isWrong' : Bool} {c_isHalted' : Bool} (hm : mX10_firstError c_s c_buffer c_length c_thrown c_laid c_spot c_isWrong c_isHalted = some (r, c_s', c_thrown', c_laid', c_spot', c_isWrong', c_isHalted')) : k_Mi l yX10_firstError wsX10_firstError rmX10_firstError D (kT cI cJ cC cG) sz ([.ref (ad 0)] : List Value) (wM cI cJ ad c_s c_before c_known c_kept c_isKept c_aside c_buffer c_length c_thrown c_laid c_spot c_isWrong c_isHalted c_mine c_theirs c_many c_from0 c_from1 c_dice c_hash) (wM cI cJ ad c_s' c_before c_known c_kept c_isKept c_aside c_buffer c_length c_thrown' c_laid' c_spot' c_isWrong' c_isHalted' c_mine c_theirs c_many c_from0 c_from1 c_dice c_hash) r := by
  refine k_st_i (cc := cX10_firstError) (maxL := 2) (by decide) rfl (Nat.le_of_ble_eq_true rfl) ?_
  intro p e z m below meth c A hx hb hr hml hts hown hlocks hsz hN hA hK hP hD hS ls hl
  have hown : z.vm.findClass RX10 = some m.cls := hown
  have hinX10 : ∀ w ∈ wsX100, w ∈ wsX10_firstError := by decide +kernel
  have fl48 := hts (.fieldLink RX10 48 "MagpieRunsModel" "thrown" "I") (by decide +kernel)
  have fl173 := hts (.fieldLink RX10 173 "MagpieRunsModel" "length" "I") (by decide +kernel)
  have fl176 := hts (.fieldLink RX10 176 "MagpieRunsModel" "spot" "I") (by decide +kernel)
  have fl179 := hts (.fieldLink RX10 179 "MagpieRunsModel" "isWrong" "Z") (by decide +kernel)
  have hl : lv_has ls 2 [(0, .ref (ad 0))] := hl
  unfold mX10_firstError at hm
  refine lv_aload_n hx hb dX10_firstError_0 rfl (lv_at hl 0 rfl) ?_
  refine lv_iconst (v := 0) hx hb dX10_firstError_1 (by decide) ?_
  refine va_put (D := D) (ci := 6) (v := .int 0) (ty := .int) (C := RX10) (T := TX10) (N := 20) hx hb hts hinX10 tyX10 tyX10_ok nmX10 hown hK hP hD hS 0 rfl rfl 8 (by decide) fl48 (fun _ h9 => h9) rfl (by decide +kernel) rfl rfl (Nat.le_of_ble_eq_true rfl) dX10_firstError_2 (fun H locs hP hD hS => ?_)
  have hP : va_P D vwCl (wM cI cJ ad c_s c_before c_known c_kept c_isKept c_aside c_buffer c_length 0 c_laid c_spot c_isWrong c_isHalted c_mine c_theirs c_many c_from0 c_from1 c_dice c_hash) H := hP
  have hD : va_D A (wM cI cJ ad c_s c_before c_known c_kept c_isKept c_aside c_buffer c_length 0 c_laid c_spot c_isWrong c_isHalted c_mine c_theirs c_many c_from0 c_from1 c_dice c_hash) := hD
  refine lv_aload_n hx hb dX10_firstError_5 rfl (lv_at hl 0 rfl) ?_
  refine lv_iconst (v := 0) hx hb dX10_firstError_6 (by decide) ?_
  obtain ⟨r1, w2, w3, w4, w5, w6, hc7, hm⟩ := k_bd6s hm
  refine k_i_s (k_rV (As := [.int (k_b false)]) (rest := []) ⟨hx, hb, hml, hown, hts⟩ hK hN hP hD (zX10_go hc7) (cwV 1 hts gX10_firstError_X10_go rfl rfl rfl (by decide +kernel) ⟨Nat.le_of_ble_eq_true rfl, Nat.le_of_ble_eq_true rfl⟩) rfl rfl rfl hl.1 rfl (Nat.le_of_ble_eq_true rfl) dX10_firstError_7 ⟨Nat.zero_le _, Nat.zero_le _⟩) hD hS hA (fun H locs hP hD hS => ?_)
  refine lv_istore_n (lv' := [(1, .int r1), (0, .ref (ad 0))]) hx hb dX10_firstError_10 rfl hl (by decide) rfl (fun ls hl => ?_)
  refine lv_aload_n hx hb dX10_firstError_11 rfl (lv_at hl 1 rfl) ?_
  refine va_get (D := D) (ci := 6) (v := .int (k_b w5)) (C := RX10) (T := TX10) (N := 20) hx hb hts hinX10 hown hK hP 0 rfl rfl 11 (by decide) fl179 (fun _ h9 => h9) rfl dX10_firstError_12 ?_
  refine lv_if_eq (tgt := 25) hx hb dX10_firstError_15 (by decide) (fun cc15 => ?_) (fun cc15 => ?_)
  · have hm := k_ip cc15 hm
    refine lv_aload_n hx hb dX10_firstError_25 rfl (lv_at hl 1 rfl) ?_
    refine va_get (D := D) (ci := 6) (v := .int c_length) (C := RX10) (T := TX10) (N := 20) hx hb hts hinX10 hown hK hP 0 rfl rfl 7 (by decide) fl173 (fun _ h9 => h9) rfl dX10_firstError_26 ?_
    cases hm
    exact k_end_i hx hb hr hlocks hK hP hD hS dX10_firstError_29
  · have hm := k_in cc15 hm
    refine lv_aload_n hx hb dX10_firstError_18 rfl (lv_at hl 1 rfl) ?_
    refine va_get (D := D) (ci := 6) (v := .int w4) (C := RX10) (T := TX10) (N := 20) hx hb hts hinX10 hown hK hP 0 rfl rfl 10 (by decide) fl176 (fun _ h9 => h9) rfl dX10_firstError_19 ?_
    refine lv_goto (tgt := 29) hx hb dX10_firstError_22 (by decide) ?_
    cases hm
    exact k_end_i hx hb hr hlocks hK hP hD hS dX10_firstError_29

abbrev rmX10_play : Room := { frames := 11, cells := 0, slots := 0, locals := 268 }
set_option maxHeartbeats 4000000 in
set_option maxRecDepth 100000 in
theorem zX10_play {l : Launch} {D : va_G} {cI cJ cC cG : ClassId} {sz : Nat} {ad : Nat → Nat} {c_s : Nat → Int32} {c_before : Nat → Int32} {c_known : Int32} {c_kept : Nat → Int32} {c_isKept : Bool} {c_aside : Nat → Int32} {c_buffer : Nat → Int32} {c_length : Int32} {c_thrown : Int32} {c_laid : Nat → Int32} {c_spot : Int32} {c_isWrong : Bool} {c_isHalted : Bool} {c_mine : Nat → Int64} {c_theirs : Nat → Int64} {c_many : Int32} {c_from0 : Nat → Int64} {c_from1 : Nat → Int64} {c_dice : Nat → Int32} {c_hash : Int64} {r : Int32} {c_s' : Nat → Int32} {c_before' : Nat → Int32} {c_known' : Int32} {c_length' : Int32} {c_thrown' : Int32} {c_laid' : Nat → Int32} {c_spot' : Int32} {c_isWrong' : Bool} {c_isHalted' : Bool} (hm : mX10_play c_s c_before c_known c_buffer c_length c_thrown c_laid c_spot c_isWrong c_isHalted = some (r, c_s', c_before', c_known', c_length', c_thrown', c_laid', c_spot', c_isWrong', c_isHalted')) : k_Mi l yX10_play wsX10_play rmX10_play D (kT cI cJ cC cG) sz ([.ref (ad 0)] : List Value) (wM cI cJ ad c_s c_before c_known c_kept c_isKept c_aside c_buffer c_length c_thrown c_laid c_spot c_isWrong c_isHalted c_mine c_theirs c_many c_from0 c_from1 c_dice c_hash) (wM cI cJ ad c_s' c_before' c_known' c_kept c_isKept c_aside c_buffer c_length' c_thrown' c_laid' c_spot' c_isWrong' c_isHalted' c_mine c_theirs c_many c_from0 c_from1 c_dice c_hash) r := by
  refine k_st_i (cc := cX10_play) (maxL := 2) (by decide) rfl (Nat.le_of_ble_eq_true rfl) ?_
  intro p e z m below meth c A hx hb hr hml hts hown hlocks hsz hN hA hK hP hD hS ls hl
  have hown : z.vm.findClass RX10 = some m.cls := hown
  have hinX10 : ∀ w ∈ wsX100, w ∈ wsX10_play := by decide +kernel
  have fl7 := hts (.fieldLink RX10 7 "MagpieRunsModel" "s" "[I") (by decide +kernel)
  have fl48 := hts (.fieldLink RX10 48 "MagpieRunsModel" "thrown" "I") (by decide +kernel)
  have fl173 := hts (.fieldLink RX10 173 "MagpieRunsModel" "length" "I") (by decide +kernel)
  have fl179 := hts (.fieldLink RX10 179 "MagpieRunsModel" "isWrong" "Z") (by decide +kernel)
  have fl189 := hts (.fieldLink RX10 189 "MagpieRunsModel" "isHalted" "Z") (by decide +kernel)
  have hl : lv_has ls 2 [(0, .ref (ad 0))] := hl
  have J_71 : ∀ (t0 : Int32) (t1 : Int32) (l1 : Int32) (c_s : Nat → Int32) (c_before : Nat → Int32) (c_known : Int32) (c_length : Int32) (c_thrown : Int32) (c_laid : Nat → Int32) (c_spot : Int32) (c_isWrong : Bool) (c_isHalted : Bool) (H : Heap) (locs : List Loc), va_P D vwCl (wM cI cJ ad c_s c_before c_known c_kept c_isKept c_aside c_buffer c_length c_thrown c_laid c_spot c_isWrong c_isHalted c_mine c_theirs c_many c_from0 c_from1 c_dice c_hash) H → va_D A (wM cI cJ ad c_s c_before c_known c_kept c_isKept c_aside c_buffer c_length c_thrown c_laid c_spot c_isWrong c_isHalted c_mine c_theirs c_many c_from0 c_from1 c_dice c_hash) → va_S A z.heap H locs → ∀ ls : Array Slot, lv_has ls 2 [(0, .ref (ad 0)), (1, .int l1)] → mX10_play_71 c_buffer t0 t1 l1 c_s c_before c_known c_length c_thrown c_laid c_spot c_isWrong c_isHalted = some (r, c_s', c_before', c_known', c_length', c_thrown', c_laid', c_spot', c_isWrong', c_isHalted') → W p l e rmX10_play z m ([.ref (ad 0)] : List Value).toArray below meth c H locs 0 0 (k_Qi below ([.ref (ad 0)] : List Value) D (kT cI cJ cC cG) z A (wM cI cJ ad c_s' c_before' c_known' c_kept c_isKept c_aside c_buffer c_length' c_thrown' c_laid' c_spot' c_isWrong' c_isHalted' c_mine c_theirs c_many c_from0 c_from1 c_dice c_hash) r) (F0 m 71 ls [.int t0, .int t1, .ref (ad 1)]) := by
    intro t0 t1 l1 c_s c_before c_known c_length c_thrown c_laid c_spot c_isWrong c_isHalted H locs hP hD hS ls hl hm
    unfold mX10_play_71 at hm
    obtain ⟨gi71, hm⟩ := k_gs hm
    refine va_iast hx hb hK hP hD hS 1 0 rfl rfl gi71 dX10_play_71 (fun H locs hP hD hS => ?_)
    have hP : va_P D vwCl (wM cI cJ ad (upd c_s (Int32.toNatClampNeg t1) t0) c_before c_known c_kept c_isKept c_aside c_buffer c_length c_thrown c_laid c_spot c_isWrong c_isHalted c_mine c_theirs c_many c_from0 c_from1 c_dice c_hash) H := hP
    have hD : va_D A (wM cI cJ ad (upd c_s (Int32.toNatClampNeg t1) t0) c_before c_known c_kept c_isKept c_aside c_buffer c_length c_thrown c_laid c_spot c_isWrong c_isHalted c_mine c_theirs c_many c_from0 c_from1 c_dice c_hash) := hD
    refine lv_aload_n hx hb dX10_play_72 rfl (lv_at hl 0 rfl) ?_
    refine lv_iconst (v := 0) hx hb dX10_play_73 (by decide) ?_
    refine va_put (D := D) (ci := 6) (v := .int 0) (ty := .int) (C := RX10) (T := TX10) (N := 20) hx hb hts hinX10 tyX10 tyX10_ok nmX10 hown hK hP hD hS 0 rfl rfl 7 (by decide) fl173 (fun _ h9 => h9) rfl (by decide +kernel) rfl rfl (Nat.le_of_ble_eq_true rfl) dX10_play_74 (fun H locs hP hD hS => ?_)
    have hP : va_P D vwCl (wM cI cJ ad (upd c_s (Int32.toNatClampNeg t1) t0) c_before c_known c_kept c_isKept c_aside c_buffer 0 c_thrown c_laid c_spot c_isWrong c_isHalted c_mine c_theirs c_many c_from0 c_from1 c_dice c_hash) H := hP
    have hD : va_D A (wM cI cJ ad (upd c_s (Int32.toNatClampNeg t1) t0) c_before c_known c_kept c_isKept c_aside c_buffer 0 c_thrown c_laid c_spot c_isWrong c_isHalted c_mine c_theirs c_many c_from0 c_from1 c_dice c_hash) := hD
    refine lv_iload_n hx hb dX10_play_77 rfl (lv_at hl 1 rfl) ?_
    cases hm
    exact k_end_i hx hb hr hlocks hK hP hD hS dX10_play_78
  have J_52 : ∀ (t0 : Bool) (t1 : Int32) (l1 : Int32) (c_s : Nat → Int32) (c_before : Nat → Int32) (c_known : Int32) (c_length : Int32) (c_thrown : Int32) (c_laid : Nat → Int32) (c_spot : Int32) (c_isWrong : Bool) (c_isHalted : Bool) (H : Heap) (locs : List Loc), va_P D vwCl (wM cI cJ ad c_s c_before c_known c_kept c_isKept c_aside c_buffer c_length c_thrown c_laid c_spot c_isWrong c_isHalted c_mine c_theirs c_many c_from0 c_from1 c_dice c_hash) H → va_D A (wM cI cJ ad c_s c_before c_known c_kept c_isKept c_aside c_buffer c_length c_thrown c_laid c_spot c_isWrong c_isHalted c_mine c_theirs c_many c_from0 c_from1 c_dice c_hash) → va_S A z.heap H locs → ∀ ls : Array Slot, lv_has ls 2 [(0, .ref (ad 0)), (1, .int l1)] → mX10_play_52 c_buffer t0 t1 l1 c_s c_before c_known c_length c_thrown c_laid c_spot c_isWrong c_isHalted = some (r, c_s', c_before', c_known', c_length', c_thrown', c_laid', c_spot', c_isWrong', c_isHalted') → W p l e rmX10_play z m ([.ref (ad 0)] : List Value).toArray below meth c H locs 0 0 (k_Qi below ([.ref (ad 0)] : List Value) D (kT cI cJ cC cG) z A (wM cI cJ ad c_s' c_before' c_known' c_kept c_isKept c_aside c_buffer c_length' c_thrown' c_laid' c_spot' c_isWrong' c_isHalted' c_mine c_theirs c_many c_from0 c_from1 c_dice c_hash) r) (F0 m 52 ls [.int (k_b t0), .int t1, .ref (ad 1)]) := by
    intro t0 t1 l1 c_s c_before c_known c_length c_thrown c_laid c_spot c_isWrong c_isHalted H locs hP hD hS ls hl hm
    unfold mX10_play_52 at hm
    obtain ⟨gi52, hm⟩ := k_gs hm
    refine va_iast hx hb hK hP hD hS 1 0 rfl rfl gi52 dX10_play_52 (fun H locs hP hD hS => ?_)
    have hP : va_P D vwCl (wM cI cJ ad (upd c_s (Int32.toNatClampNeg t1) (k_b t0)) c_before c_known c_kept c_isKept c_aside c_buffer c_length c_thrown c_laid c_spot c_isWrong c_isHalted c_mine c_theirs c_many c_from0 c_from1 c_dice c_hash) H := hP
    have hD : va_D A (wM cI cJ ad (upd c_s (Int32.toNatClampNeg t1) (k_b t0)) c_before c_known c_kept c_isKept c_aside c_buffer c_length c_thrown c_laid c_spot c_isWrong c_isHalted c_mine c_theirs c_many c_from0 c_from1 c_dice c_hash) := hD
    refine lv_aload_n hx hb dX10_play_53 rfl (lv_at hl 0 rfl) ?_
    refine va_get (D := D) (ci := 6) (v := .ref (ad 1)) (C := RX10) (T := TX10) (N := 20) hx hb hts hinX10 hown hK hP 0 rfl rfl 0 (by decide) fl7 (fun _ h9 => h9) rfl dX10_play_54 ?_
    refine lv_bipush (v := 50) hx hb dX10_play_57 (by decide) ?_
    refine lv_aload_n hx hb dX10_play_59 rfl (lv_at hl 0 rfl) ?_
    refine va_get (D := D) (ci := 6) (v := .int (k_b c_isHalted)) (C := RX10) (T := TX10) (N := 20) hx hb hts hinX10 hown hK hP 0 rfl rfl 12 (by decide) fl189 (fun _ h9 => h9) rfl dX10_play_60 ?_
    refine lv_if_eq (tgt := 70) hx hb dX10_play_63 (by decide) (fun cc63 => ?_) (fun cc63 => ?_)
    · have hm := k_ip cc63 hm
      refine lv_iconst (v := 0) hx hb dX10_play_70 (by decide) ?_
      exact J_71 0 50 l1 (upd c_s (Int32.toNatClampNeg t1) (k_b t0)) c_before c_known c_length c_thrown c_laid c_spot c_isWrong c_isHalted _ _ hP hD hS _ (lv_sub hl [0, 1] rfl) hm
    · have hm := k_in cc63 hm
      refine lv_iload_n hx hb dX10_play_66 rfl (lv_at hl 1 rfl) ?_
      refine lv_goto (tgt := 71) hx hb dX10_play_67 (by decide) ?_
      exact J_71 l1 50 l1 (upd c_s (Int32.toNatClampNeg t1) (k_b t0)) c_before c_known c_length c_thrown c_laid c_spot c_isWrong c_isHalted _ _ hP hD hS _ (lv_sub hl [0, 1] rfl) hm
  unfold mX10_play at hm
  refine lv_aload_n hx hb dX10_play_0 rfl (lv_at hl 0 rfl) ?_
  refine lv_iconst (v := 0) hx hb dX10_play_1 (by decide) ?_
  refine va_put (D := D) (ci := 6) (v := .int 0) (ty := .int) (C := RX10) (T := TX10) (N := 20) hx hb hts hinX10 tyX10 tyX10_ok nmX10 hown hK hP hD hS 0 rfl rfl 8 (by decide) fl48 (fun _ h9 => h9) rfl (by decide +kernel) rfl rfl (Nat.le_of_ble_eq_true rfl) dX10_play_2 (fun H locs hP hD hS => ?_)
  have hP : va_P D vwCl (wM cI cJ ad c_s c_before c_known c_kept c_isKept c_aside c_buffer c_length 0 c_laid c_spot c_isWrong c_isHalted c_mine c_theirs c_many c_from0 c_from1 c_dice c_hash) H := hP
  have hD : va_D A (wM cI cJ ad c_s c_before c_known c_kept c_isKept c_aside c_buffer c_length 0 c_laid c_spot c_isWrong c_isHalted c_mine c_theirs c_many c_from0 c_from1 c_dice c_hash) := hD
  refine lv_aload_n hx hb dX10_play_5 rfl (lv_at hl 0 rfl) ?_
  refine lv_iconst (v := 0) hx hb dX10_play_6 (by decide) ?_
  obtain ⟨r1, w2, w3, w4, w5, w6, hc7, hm⟩ := k_bd6s hm
  refine k_i_s (k_rV (As := [.int (k_b false)]) (rest := []) ⟨hx, hb, hml, hown, hts⟩ hK hN hP hD (zX10_go hc7) (cwV 1 hts gX10_play_X10_go rfl rfl rfl (by decide +kernel) ⟨Nat.le_of_ble_eq_true rfl, Nat.le_of_ble_eq_true rfl⟩) rfl rfl rfl hl.1 rfl (Nat.le_of_ble_eq_true rfl) dX10_play_7 ⟨Nat.zero_le _, Nat.zero_le _⟩) hD hS hA (fun H locs hP hD hS => ?_)
  refine lv_istore_n (lv' := [(1, .int r1), (0, .ref (ad 0))]) hx hb dX10_play_10 rfl hl (by decide) rfl (fun ls hl => ?_)
  refine lv_aload_n hx hb dX10_play_11 rfl (lv_at hl 1 rfl) ?_
  refine va_get (D := D) (ci := 6) (v := .int (k_b w5)) (C := RX10) (T := TX10) (N := 20) hx hb hts hinX10 hown hK hP 0 rfl rfl 11 (by decide) fl179 (fun _ h9 => h9) rfl dX10_play_12 ?_
  refine lv_if_eq (tgt := 24) hx hb dX10_play_15 (by decide) (fun cc15 => ?_) (fun cc15 => ?_)
  · have hm := k_ip cc15 hm
    refine lv_aload_n hx hb dX10_play_24 rfl (lv_at hl 1 rfl) ?_
    obtain ⟨w7, w8, hc25, hm⟩ := k_bd2s hm
    refine k_v_s (k_rV (As := []) (rest := []) ⟨hx, hb, hml, hown, hts⟩ hK hN hP hD (zX10_save hc25) (cwV 0 hts gX10_play_X10_save rfl rfl rfl (by decide +kernel) ⟨Nat.le_of_ble_eq_true rfl, Nat.le_of_ble_eq_true rfl⟩) rfl rfl rfl hl.1 rfl (Nat.le_of_ble_eq_true rfl) dX10_play_25 ⟨Nat.zero_le _, Nat.zero_le _⟩) hD hS hA (fun H locs hP hD hS => ?_)
    refine lv_aload_n hx hb dX10_play_28 rfl (lv_at hl 1 rfl) ?_
    refine lv_iconst (v := 1) hx hb dX10_play_29 (by decide) ?_
    obtain ⟨r9, w10, w11, w12, w13, w14, hc30, hm⟩ := k_bd6s hm
    refine k_i_s (k_rV (As := [.int (k_b true)]) (rest := []) ⟨hx, hb, hml, hown, hts⟩ hK hN hP hD (zX10_go hc30) (cwV 1 hts gX10_play_X10_go rfl rfl rfl (by decide +kernel) ⟨Nat.le_of_ble_eq_true rfl, Nat.le_of_ble_eq_true rfl⟩) rfl rfl rfl hl.1 rfl (Nat.le_of_ble_eq_true rfl) dX10_play_30 ⟨Nat.zero_le _, Nat.zero_le _⟩) hD hS hA (fun H locs hP hD hS => ?_)
    refine lv_istore_n (lv' := [(1, .int r9), (0, .ref (ad 0))]) hx hb dX10_play_33 rfl hl (by decide) rfl (fun ls hl => ?_)
    refine lv_aload_n hx hb dX10_play_34 rfl (lv_at hl 1 rfl) ?_
    refine va_get (D := D) (ci := 6) (v := .ref (ad 1)) (C := RX10) (T := TX10) (N := 20) hx hb hts hinX10 hown hK hP 0 rfl rfl 0 (by decide) fl7 (fun _ h9 => h9) rfl dX10_play_35 ?_
    refine lv_bipush (v := 49) hx hb dX10_play_38 (by decide) ?_
    refine lv_aload_n hx hb dX10_play_40 rfl (lv_at hl 1 rfl) ?_
    refine va_get (D := D) (ci := 6) (v := .int (k_b w14)) (C := RX10) (T := TX10) (N := 20) hx hb hts hinX10 hown hK hP 0 rfl rfl 12 (by decide) fl189 (fun _ h9 => h9) rfl dX10_play_41 ?_
    refine lv_if_eq (tgt := 51) hx hb dX10_play_44 (by decide) (fun cc44 => ?_) (fun cc44 => ?_)
    · have hm := k_ip cc44 hm
      refine lv_iconst (v := 0) hx hb dX10_play_51 (by decide) ?_
      exact J_52 false 49 r9 w10 w7 w8 c_length 0 w11 w12 w13 w14 _ _ hP hD hS _ (lv_sub hl [1, 0] rfl) hm
    · have hm := k_in cc44 hm
      refine lv_iconst (v := 1) hx hb dX10_play_47 (by decide) ?_
      refine lv_goto (tgt := 52) hx hb dX10_play_48 (by decide) ?_
      exact J_52 true 49 r9 w10 w7 w8 c_length 0 w11 w12 w13 w14 _ _ hP hD hS _ (lv_sub hl [1, 0] rfl) hm
  · have hm := k_in cc15 hm
    refine lv_aload_n hx hb dX10_play_18 rfl (lv_at hl 1 rfl) ?_
    refine lv_iconst (v := 1) hx hb dX10_play_19 (by decide) ?_
    obtain ⟨r15, w16, hc20, hm⟩ := k_bd2s hm
    refine k_i_s (k_rV (As := [.int 1]) (rest := []) ⟨hx, hb, hml, hown, hts⟩ hK hN hP hD (zX10_throwing hc20) (cwV 1 hts gX10_play_X10_throwing rfl rfl rfl (by decide +kernel) ⟨Nat.le_of_ble_eq_true rfl, Nat.le_of_ble_eq_true rfl⟩) rfl rfl rfl hl.1 rfl (Nat.le_of_ble_eq_true rfl) dX10_play_20 ⟨Nat.zero_le _, Nat.zero_le _⟩) hD hS hA (fun H locs hP hD hS => ?_)
    cases hm
    exact k_end_i hx hb hr hlocks hK hP hD hS dX10_play_23

abbrev rmX10_hasStopped : Room := { frames := 0, cells := 0, slots := 0, locals := 0 }
set_option maxHeartbeats 4000000 in
set_option maxRecDepth 100000 in
theorem zX10_hasStopped {l : Launch} {D : va_G} {cI cJ cC cG : ClassId} {sz : Nat} {ad : Nat → Nat} {c_s : Nat → Int32} {c_before : Nat → Int32} {c_known : Int32} {c_kept : Nat → Int32} {c_isKept : Bool} {c_aside : Nat → Int32} {c_buffer : Nat → Int32} {c_length : Int32} {c_thrown : Int32} {c_laid : Nat → Int32} {c_spot : Int32} {c_isWrong : Bool} {c_isHalted : Bool} {c_mine : Nat → Int64} {c_theirs : Nat → Int64} {c_many : Int32} {c_from0 : Nat → Int64} {c_from1 : Nat → Int64} {c_dice : Nat → Int32} {c_hash : Int64} {r : Bool} {c_thrown' : Int32} (hm : mX10_hasStopped c_s c_thrown = some (r, c_thrown')) : k_Mi l yX10_hasStopped wsX10_hasStopped rmX10_hasStopped D (kT cI cJ cC cG) sz ([.ref (ad 0)] : List Value) (wM cI cJ ad c_s c_before c_known c_kept c_isKept c_aside c_buffer c_length c_thrown c_laid c_spot c_isWrong c_isHalted c_mine c_theirs c_many c_from0 c_from1 c_dice c_hash) (wM cI cJ ad c_s c_before c_known c_kept c_isKept c_aside c_buffer c_length c_thrown' c_laid c_spot c_isWrong c_isHalted c_mine c_theirs c_many c_from0 c_from1 c_dice c_hash) (k_b r) := by
  refine k_st_i (cc := cX10_hasStopped) (maxL := 1) (by decide) rfl (Nat.le_of_ble_eq_true rfl) ?_
  intro p e z m below meth c A hx hb hr hml hts hown hlocks hsz hN hA hK hP hD hS ls hl
  have hown : z.vm.findClass RX10 = some m.cls := hown
  have hinX10 : ∀ w ∈ wsX100, w ∈ wsX10_hasStopped := by decide +kernel
  have fl7 := hts (.fieldLink RX10 7 "MagpieRunsModel" "s" "[I") (by decide +kernel)
  have fl48 := hts (.fieldLink RX10 48 "MagpieRunsModel" "thrown" "I") (by decide +kernel)
  have hl : lv_has ls 1 [(0, .ref (ad 0))] := hl
  unfold mX10_hasStopped at hm
  refine lv_aload_n hx hb dX10_hasStopped_0 rfl (lv_at hl 0 rfl) ?_
  refine lv_iconst (v := 0) hx hb dX10_hasStopped_1 (by decide) ?_
  refine va_put (D := D) (ci := 6) (v := .int 0) (ty := .int) (C := RX10) (T := TX10) (N := 20) hx hb hts hinX10 tyX10 tyX10_ok nmX10 hown hK hP hD hS 0 rfl rfl 8 (by decide) fl48 (fun _ h9 => h9) rfl (by decide +kernel) rfl rfl (Nat.le_of_ble_eq_true rfl) dX10_hasStopped_2 (fun H locs hP hD hS => ?_)
  have hP : va_P D vwCl (wM cI cJ ad c_s c_before c_known c_kept c_isKept c_aside c_buffer c_length 0 c_laid c_spot c_isWrong c_isHalted c_mine c_theirs c_many c_from0 c_from1 c_dice c_hash) H := hP
  have hD : va_D A (wM cI cJ ad c_s c_before c_known c_kept c_isKept c_aside c_buffer c_length 0 c_laid c_spot c_isWrong c_isHalted c_mine c_theirs c_many c_from0 c_from1 c_dice c_hash) := hD
  refine lv_aload_n hx hb dX10_hasStopped_5 rfl (lv_at hl 0 rfl) ?_
  refine va_get (D := D) (ci := 6) (v := .ref (ad 1)) (C := RX10) (T := TX10) (N := 20) hx hb hts hinX10 hown hK hP 0 rfl rfl 0 (by decide) fl7 (fun _ h9 => h9) rfl dX10_hasStopped_6 ?_
  refine lv_bipush (v := 49) hx hb dX10_hasStopped_9 (by decide) ?_
  refine k_iaC hx hb hK hP 1 0 rfl rfl kl_49 ki_49_51 dX10_hasStopped_11 ?_
  refine lv_iconst (v := 1) hx hb dX10_hasStopped_12 (by decide) ?_
  refine lv_icmp_ne (tgt := 20) hx hb dX10_hasStopped_13 (by decide) (fun cc13 => ?_) (fun cc13 => ?_)
  · have hm := k_in cc13 hm
    refine lv_iconst (v := 0) hx hb dX10_hasStopped_20 (by decide) ?_
    cases hm
    exact k_end_z false hx hb hr hlocks hK hP hD hS dX10_hasStopped_21
  · have hm := k_ip cc13 hm
    refine lv_iconst (v := 1) hx hb dX10_hasStopped_16 (by decide) ?_
    refine lv_goto (tgt := 21) hx hb dX10_hasStopped_17 (by decide) ?_
    cases hm
    exact k_end_z true hx hb hr hlocks hK hP hD hS dX10_hasStopped_21

abbrev rmX10_stoppedPart : Room := { frames := 1, cells := 0, slots := 0, locals := 21 }
set_option maxHeartbeats 4000000 in
set_option maxRecDepth 100000 in
theorem zX10_stoppedPart {l : Launch} {D : va_G} {cI cJ cC cG : ClassId} {sz : Nat} {ad : Nat → Nat} {c_s : Nat → Int32} {c_before : Nat → Int32} {c_known : Int32} {c_kept : Nat → Int32} {c_isKept : Bool} {c_aside : Nat → Int32} {c_buffer : Nat → Int32} {c_length : Int32} {c_thrown : Int32} {c_laid : Nat → Int32} {c_spot : Int32} {c_isWrong : Bool} {c_isHalted : Bool} {c_mine : Nat → Int64} {c_theirs : Nat → Int64} {c_many : Int32} {c_from0 : Nat → Int64} {c_from1 : Nat → Int64} {c_dice : Nat → Int32} {c_hash : Int64} {r : Int32} {c_thrown' : Int32} (hm : mX10_stoppedPart c_s c_thrown = some (r, c_thrown')) : k_Mi l yX10_stoppedPart wsX10_stoppedPart rmX10_stoppedPart D (kT cI cJ cC cG) sz ([.ref (ad 0)] : List Value) (wM cI cJ ad c_s c_before c_known c_kept c_isKept c_aside c_buffer c_length c_thrown c_laid c_spot c_isWrong c_isHalted c_mine c_theirs c_many c_from0 c_from1 c_dice c_hash) (wM cI cJ ad c_s c_before c_known c_kept c_isKept c_aside c_buffer c_length c_thrown' c_laid c_spot c_isWrong c_isHalted c_mine c_theirs c_many c_from0 c_from1 c_dice c_hash) r := by
  refine k_st_i (cc := cX10_stoppedPart) (maxL := 1) (by decide) rfl (Nat.le_of_ble_eq_true rfl) ?_
  intro p e z m below meth c A hx hb hr hml hts hown hlocks hsz hN hA hK hP hD hS ls hl
  have hown : z.vm.findClass RX10 = some m.cls := hown
  have hinX10 : ∀ w ∈ wsX100, w ∈ wsX10_stoppedPart := by decide +kernel
  have fl7 := hts (.fieldLink RX10 7 "MagpieRunsModel" "s" "[I") (by decide +kernel)
  have fl48 := hts (.fieldLink RX10 48 "MagpieRunsModel" "thrown" "I") (by decide +kernel)
  have hl : lv_has ls 1 [(0, .ref (ad 0))] := hl
  unfold mX10_stoppedPart at hm
  refine lv_aload_n hx hb dX10_stoppedPart_0 rfl (lv_at hl 0 rfl) ?_
  refine lv_iconst (v := 0) hx hb dX10_stoppedPart_1 (by decide) ?_
  refine va_put (D := D) (ci := 6) (v := .int 0) (ty := .int) (C := RX10) (T := TX10) (N := 20) hx hb hts hinX10 tyX10 tyX10_ok nmX10 hown hK hP hD hS 0 rfl rfl 8 (by decide) fl48 (fun _ h9 => h9) rfl (by decide +kernel) rfl rfl (Nat.le_of_ble_eq_true rfl) dX10_stoppedPart_2 (fun H locs hP hD hS => ?_)
  have hP : va_P D vwCl (wM cI cJ ad c_s c_before c_known c_kept c_isKept c_aside c_buffer c_length 0 c_laid c_spot c_isWrong c_isHalted c_mine c_theirs c_many c_from0 c_from1 c_dice c_hash) H := hP
  have hD : va_D A (wM cI cJ ad c_s c_before c_known c_kept c_isKept c_aside c_buffer c_length 0 c_laid c_spot c_isWrong c_isHalted c_mine c_theirs c_many c_from0 c_from1 c_dice c_hash) := hD
  refine lv_aload_n hx hb dX10_stoppedPart_5 rfl (lv_at hl 0 rfl) ?_
  refine va_get (D := D) (ci := 6) (v := .ref (ad 1)) (C := RX10) (T := TX10) (N := 20) hx hb hts hinX10 hown hK hP 0 rfl rfl 0 (by decide) fl7 (fun _ h9 => h9) rfl dX10_stoppedPart_6 ?_
  refine lv_bipush (v := 49) hx hb dX10_stoppedPart_9 (by decide) ?_
  refine k_iaC hx hb hK hP 1 0 rfl rfl kl_49 ki_49_51 dX10_stoppedPart_11 ?_
  refine lv_iconst (v := 1) hx hb dX10_stoppedPart_12 (by decide) ?_
  refine lv_icmp_ne (tgt := 26) hx hb dX10_stoppedPart_13 (by decide) (fun cc13 => ?_) (fun cc13 => ?_)
  · have hm := k_in cc13 hm
    refine lv_aload_n hx hb dX10_stoppedPart_26 rfl (lv_at hl 0 rfl) ?_
    refine lv_iconst (v := 1) hx hb dX10_stoppedPart_27 (by decide) ?_
    obtain ⟨r1, w2, hc28, hm⟩ := k_bd2s hm
    refine k_i_s (k_rV (As := [.int 1]) (rest := []) ⟨hx, hb, hml, hown, hts⟩ hK hN hP hD (zX10_throwing hc28) (cwV 1 hts gX10_stoppedPart_X10_throwing rfl rfl rfl (by decide +kernel) ⟨Nat.le_of_ble_eq_true rfl, Nat.le_of_ble_eq_true rfl⟩) rfl rfl rfl hl.1 rfl (Nat.le_of_ble_eq_true rfl) dX10_stoppedPart_28 ⟨Nat.zero_le _, Nat.zero_le _⟩) hD hS hA (fun H locs hP hD hS => ?_)
    cases hm
    exact k_end_i hx hb hr hlocks hK hP hD hS dX10_stoppedPart_31
  · have hm := k_ip cc13 hm
    refine lv_aload_n hx hb dX10_stoppedPart_16 rfl (lv_at hl 0 rfl) ?_
    refine va_get (D := D) (ci := 6) (v := .ref (ad 1)) (C := RX10) (T := TX10) (N := 20) hx hb hts hinX10 hown hK hP 0 rfl rfl 0 (by decide) fl7 (fun _ h9 => h9) rfl dX10_stoppedPart_17 ?_
    refine lv_bipush (v := 50) hx hb dX10_stoppedPart_20 (by decide) ?_
    refine k_iaC hx hb hK hP 1 0 rfl rfl kl_50 ki_50_51 dX10_stoppedPart_22 ?_
    refine lv_goto (tgt := 31) hx hb dX10_stoppedPart_23 (by decide) ?_
    cases hm
    exact k_end_i hx hb hr hlocks hK hP hD hS dX10_stoppedPart_31

abbrev rmX10_undo : Room := { frames := 1, cells := 0, slots := 0, locals := 21 }
set_option maxHeartbeats 4000000 in
set_option maxRecDepth 100000 in
theorem zX10_undo {l : Launch} {D : va_G} {cI cJ cC cG : ClassId} {sz : Nat} {ad : Nat → Nat} {c_s : Nat → Int32} {c_before : Nat → Int32} {c_known : Int32} {c_kept : Nat → Int32} {c_isKept : Bool} {c_aside : Nat → Int32} {c_buffer : Nat → Int32} {c_length : Int32} {c_thrown : Int32} {c_laid : Nat → Int32} {c_spot : Int32} {c_isWrong : Bool} {c_isHalted : Bool} {c_mine : Nat → Int64} {c_theirs : Nat → Int64} {c_many : Int32} {c_from0 : Nat → Int64} {c_from1 : Nat → Int64} {c_dice : Nat → Int32} {c_hash : Int64} {r : Int32} {c_s' : Nat → Int32} {c_known' : Int32} {c_thrown' : Int32} (hm : mX10_undo c_s c_before c_known c_thrown = some (r, c_s', c_known', c_thrown')) : k_Mi l yX10_undo wsX10_undo rmX10_undo D (kT cI cJ cC cG) sz ([.ref (ad 0)] : List Value) (wM cI cJ ad c_s c_before c_known c_kept c_isKept c_aside c_buffer c_length c_thrown c_laid c_spot c_isWrong c_isHalted c_mine c_theirs c_many c_from0 c_from1 c_dice c_hash) (wM cI cJ ad c_s' c_before c_known' c_kept c_isKept c_aside c_buffer c_length c_thrown' c_laid c_spot c_isWrong c_isHalted c_mine c_theirs c_many c_from0 c_from1 c_dice c_hash) r := by
  refine k_st_i (cc := cX10_undo) (maxL := 2) (by decide) rfl (Nat.le_of_ble_eq_true rfl) ?_
  intro p e z m below meth c A hx hb hr hml hts hown hlocks hsz hN hA hK hP hD hS ls hl
  have hown : z.vm.findClass RX10 = some m.cls := hown
  have hinX10 : ∀ w ∈ wsX100, w ∈ wsX10_undo := by decide +kernel
  have fl7 := hts (.fieldLink RX10 7 "MagpieRunsModel" "s" "[I") (by decide +kernel)
  have fl13 := hts (.fieldLink RX10 13 "MagpieRunsModel" "before" "[I") (by decide +kernel)
  have fl48 := hts (.fieldLink RX10 48 "MagpieRunsModel" "thrown" "I") (by decide +kernel)
  have fl56 := hts (.fieldLink RX10 56 "MagpieRunsModel" "known" "I") (by decide +kernel)
  have hl : lv_has ls 2 [(0, .ref (ad 0))] := hl
  have J_30 := k_loop (z := fun _ _ _ _ => none) (st := mX10_undo_30 c_before) (fun k30 : (Int32) → (Nat → Int32) → (Int32) → (Int32) → Option (Int32 × (Nat → Int32) × (Int32) × (Int32)) => ∀ (l1 : Int32) (c_s : Nat → Int32) (c_known : Int32) (c_thrown : Int32) (H : Heap) (locs : List Loc), va_P D vwCl (wM cI cJ ad c_s c_before c_known c_kept c_isKept c_aside c_buffer c_length c_thrown c_laid c_spot c_isWrong c_isHalted c_mine c_theirs c_many c_from0 c_from1 c_dice c_hash) H → va_D A (wM cI cJ ad c_s c_before c_known c_kept c_isKept c_aside c_buffer c_length c_thrown c_laid c_spot c_isWrong c_isHalted c_mine c_theirs c_many c_from0 c_from1 c_dice c_hash) → va_S A z.heap H locs → ∀ ls : Array Slot, lv_has ls 2 [(0, .ref (ad 0)), (1, .int l1)] → k30 l1 c_s c_known c_thrown = some (r, c_s', c_known', c_thrown') → W p l e rmX10_undo z m ([.ref (ad 0)] : List Value).toArray below meth c H locs 0 0 (k_Qi below ([.ref (ad 0)] : List Value) D (kT cI cJ cC cG) z A (wM cI cJ ad c_s' c_before c_known' c_kept c_isKept c_aside c_buffer c_length c_thrown' c_laid c_spot c_isWrong c_isHalted c_mine c_theirs c_many c_from0 c_from1 c_dice c_hash) r) (F0 m 30 ls [])) (by intros; rename_i h; cases h) (by
    intro k30 ih30
    intro l1 c_s c_known c_thrown H locs hP hD hS ls hl hm
    unfold mX10_undo_30 at hm
    refine lv_iload_n hx hb dX10_undo_30 rfl (lv_at hl 1 rfl) ?_
    refine lv_bipush (v := 51) hx hb dX10_undo_31 (by decide) ?_
    refine lv_icmp_ge (tgt := 62) hx hb dX10_undo_33 (by decide) (fun cc33 => ?_) (fun cc33 => ?_)
    · have hm := k_ip cc33 hm
      refine lv_aload_n hx hb dX10_undo_62 rfl (lv_at hl 0 rfl) ?_
      refine va_get (D := D) (ci := 6) (v := .int c_known) (C := RX10) (T := TX10) (N := 20) hx hb hts hinX10 hown hK hP 0 rfl rfl 2 (by decide) fl56 (fun _ h9 => h9) rfl dX10_undo_63 ?_
      cases hm
      exact k_end_i hx hb hr hlocks hK hP hD hS dX10_undo_66
    · have hm := k_in cc33 hm
      refine lv_aload_n hx hb dX10_undo_36 rfl (lv_at hl 0 rfl) ?_
      refine va_get (D := D) (ci := 6) (v := .ref (ad 1)) (C := RX10) (T := TX10) (N := 20) hx hb hts hinX10 hown hK hP 0 rfl rfl 0 (by decide) fl7 (fun _ h9 => h9) rfl dX10_undo_37 ?_
      refine lv_iload_n hx hb dX10_undo_40 rfl (lv_at hl 1 rfl) ?_
      refine lv_aload_n hx hb dX10_undo_41 rfl (lv_at hl 0 rfl) ?_
      refine va_get (D := D) (ci := 6) (v := .ref (ad 2)) (C := RX10) (T := TX10) (N := 20) hx hb hts hinX10 hown hK hP 0 rfl rfl 1 (by decide) fl13 (fun _ h9 => h9) rfl dX10_undo_42 ?_
      refine lv_bipush (v := 51) hx hb dX10_undo_45 (by decide) ?_
      refine lv_aload_n hx hb dX10_undo_47 rfl (lv_at hl 0 rfl) ?_
      refine va_get (D := D) (ci := 6) (v := .int c_known) (C := RX10) (T := TX10) (N := 20) hx hb hts hinX10 hown hK hP 0 rfl rfl 2 (by decide) fl56 (fun _ h9 => h9) rfl dX10_undo_48 ?_
      refine lv_imul hx hb dX10_undo_51 ?_
      refine lv_iload_n hx hb dX10_undo_52 rfl (lv_at hl 1 rfl) ?_
      refine lv_iadd hx hb dX10_undo_53 ?_
      obtain ⟨gi54, hm⟩ := k_gs hm
      refine va_iald hx hb hK hP 2 0 rfl rfl gi54 dX10_undo_54 ?_
      obtain ⟨gi55, hm⟩ := k_gs hm
      refine va_iast hx hb hK hP hD hS 1 0 rfl rfl gi55 dX10_undo_55 (fun H locs hP hD hS => ?_)
      have hP : va_P D vwCl (wM cI cJ ad (upd c_s (Int32.toNatClampNeg l1) (c_before (Int32.toNatClampNeg ((51 * c_known) + l1)))) c_before c_known c_kept c_isKept c_aside c_buffer c_length c_thrown c_laid c_spot c_isWrong c_isHalted c_mine c_theirs c_many c_from0 c_from1 c_dice c_hash) H := hP
      have hD : va_D A (wM cI cJ ad (upd c_s (Int32.toNatClampNeg l1) (c_before (Int32.toNatClampNeg ((51 * c_known) + l1)))) c_before c_known c_kept c_isKept c_aside c_buffer c_length c_thrown c_laid c_spot c_isWrong c_isHalted c_mine c_theirs c_many c_from0 c_from1 c_dice c_hash) := hD
      refine lv_iinc (v := (l1 + 1)) (lv' := [(1, .int (l1 + 1)), (0, .ref (ad 0))]) hx hb dX10_undo_56 hl (k := 1) rfl rfl (by decide) rfl (fun ls hl => ?_)
      refine lv_goto (tgt := 30) hx hb dX10_undo_59 (by decide) ?_
      exact ih30 (l1 + 1) (upd c_s (Int32.toNatClampNeg l1) (c_before (Int32.toNatClampNeg ((51 * c_known) + l1)))) c_known c_thrown _ _ hP hD hS _ (lv_sub hl [1, 0] rfl) hm) k_F
  unfold mX10_undo at hm
  refine lv_aload_n hx hb dX10_undo_0 rfl (lv_at hl 0 rfl) ?_
  refine lv_iconst (v := 0) hx hb dX10_undo_1 (by decide) ?_
  refine va_put (D := D) (ci := 6) (v := .int 0) (ty := .int) (C := RX10) (T := TX10) (N := 20) hx hb hts hinX10 tyX10 tyX10_ok nmX10 hown hK hP hD hS 0 rfl rfl 8 (by decide) fl48 (fun _ h9 => h9) rfl (by decide +kernel) rfl rfl (Nat.le_of_ble_eq_true rfl) dX10_undo_2 (fun H locs hP hD hS => ?_)
  have hP : va_P D vwCl (wM cI cJ ad c_s c_before c_known c_kept c_isKept c_aside c_buffer c_length 0 c_laid c_spot c_isWrong c_isHalted c_mine c_theirs c_many c_from0 c_from1 c_dice c_hash) H := hP
  have hD : va_D A (wM cI cJ ad c_s c_before c_known c_kept c_isKept c_aside c_buffer c_length 0 c_laid c_spot c_isWrong c_isHalted c_mine c_theirs c_many c_from0 c_from1 c_dice c_hash) := hD
  refine lv_aload_n hx hb dX10_undo_5 rfl (lv_at hl 0 rfl) ?_
  refine va_get (D := D) (ci := 6) (v := .int c_known) (C := RX10) (T := TX10) (N := 20) hx hb hts hinX10 hown hK hP 0 rfl rfl 2 (by decide) fl56 (fun _ h9 => h9) rfl dX10_undo_6 ?_
  refine lv_if_ne (tgt := 18) hx hb dX10_undo_9 (by decide) (fun cc9 => ?_) (fun cc9 => ?_)
  · have hm := k_in cc9 hm
    refine lv_aload_n hx hb dX10_undo_18 rfl (lv_at hl 0 rfl) ?_
    refine lv_dup hx hb dX10_undo_19 rfl ?_
    refine va_get (D := D) (ci := 6) (v := .int c_known) (C := RX10) (T := TX10) (N := 20) hx hb hts hinX10 hown hK hP 0 rfl rfl 2 (by decide) fl56 (fun _ h9 => h9) rfl dX10_undo_20 ?_
    refine lv_iconst (v := 1) hx hb dX10_undo_23 (by decide) ?_
    refine lv_isub hx hb dX10_undo_24 ?_
    refine va_put (D := D) (ci := 6) (v := .int (c_known - 1)) (ty := .int) (C := RX10) (T := TX10) (N := 20) hx hb hts hinX10 tyX10 tyX10_ok nmX10 hown hK hP hD hS 0 rfl rfl 2 (by decide) fl56 (fun _ h9 => h9) rfl (by decide +kernel) rfl rfl (Nat.le_of_ble_eq_true rfl) dX10_undo_25 (fun H locs hP hD hS => ?_)
    have hP : va_P D vwCl (wM cI cJ ad c_s c_before (c_known - 1) c_kept c_isKept c_aside c_buffer c_length 0 c_laid c_spot c_isWrong c_isHalted c_mine c_theirs c_many c_from0 c_from1 c_dice c_hash) H := hP
    have hD : va_D A (wM cI cJ ad c_s c_before (c_known - 1) c_kept c_isKept c_aside c_buffer c_length 0 c_laid c_spot c_isWrong c_isHalted c_mine c_theirs c_many c_from0 c_from1 c_dice c_hash) := hD
    refine lv_iconst (v := 0) hx hb dX10_undo_28 (by decide) ?_
    refine lv_istore_n (lv' := [(1, .int 0), (0, .ref (ad 0))]) hx hb dX10_undo_29 rfl hl (by decide) rfl (fun ls hl => ?_)
    exact J_30 0 c_s (c_known - 1) 0 _ _ hP hD hS _ (lv_sub hl [1, 0] rfl) hm
  · have hm := k_ip cc9 hm
    refine lv_aload_n hx hb dX10_undo_12 rfl (lv_at hl 0 rfl) ?_
    refine lv_iconst (v := 1) hx hb dX10_undo_13 (by decide) ?_
    obtain ⟨r1, w2, hc14, hm⟩ := k_bd2s hm
    refine k_i_s (k_rV (As := [.int 1]) (rest := []) ⟨hx, hb, hml, hown, hts⟩ hK hN hP hD (zX10_throwing hc14) (cwV 1 hts gX10_undo_X10_throwing rfl rfl rfl (by decide +kernel) ⟨Nat.le_of_ble_eq_true rfl, Nat.le_of_ble_eq_true rfl⟩) rfl rfl rfl hl.1 rfl (Nat.le_of_ble_eq_true rfl) dX10_undo_14 ⟨Nat.zero_le _, Nat.zero_le _⟩) hD hS hA (fun H locs hP hD hS => ?_)
    cases hm
    exact k_end_i hx hb hr hlocks hK hP hD hS dX10_undo_17

abbrev rmX10_keep : Room := { frames := 0, cells := 0, slots := 0, locals := 0 }
set_option maxHeartbeats 4000000 in
set_option maxRecDepth 100000 in
theorem zX10_keep {l : Launch} {D : va_G} {cI cJ cC cG : ClassId} {sz : Nat} {ad : Nat → Nat} {c_s : Nat → Int32} {c_before : Nat → Int32} {c_known : Int32} {c_kept : Nat → Int32} {c_isKept : Bool} {c_aside : Nat → Int32} {c_buffer : Nat → Int32} {c_length : Int32} {c_thrown : Int32} {c_laid : Nat → Int32} {c_spot : Int32} {c_isWrong : Bool} {c_isHalted : Bool} {c_mine : Nat → Int64} {c_theirs : Nat → Int64} {c_many : Int32} {c_from0 : Nat → Int64} {c_from1 : Nat → Int64} {c_dice : Nat → Int32} {c_hash : Int64} {r : Int32} {c_kept' : Nat → Int32} {c_isKept' : Bool} {c_thrown' : Int32} (hm : mX10_keep c_s c_kept c_isKept c_thrown = some (r, c_kept', c_isKept', c_thrown')) : k_Mi l yX10_keep wsX10_keep rmX10_keep D (kT cI cJ cC cG) sz ([.ref (ad 0)] : List Value) (wM cI cJ ad c_s c_before c_known c_kept c_isKept c_aside c_buffer c_length c_thrown c_laid c_spot c_isWrong c_isHalted c_mine c_theirs c_many c_from0 c_from1 c_dice c_hash) (wM cI cJ ad c_s c_before c_known c_kept' c_isKept' c_aside c_buffer c_length c_thrown' c_laid c_spot c_isWrong c_isHalted c_mine c_theirs c_many c_from0 c_from1 c_dice c_hash) r := by
  refine k_st_i (cc := cX10_keep) (maxL := 2) (by decide) rfl (Nat.le_of_ble_eq_true rfl) ?_
  intro p e z m below meth c A hx hb hr hml hts hown hlocks hsz hN hA hK hP hD hS ls hl
  have hown : z.vm.findClass RX10 = some m.cls := hown
  have hinX10 : ∀ w ∈ wsX100, w ∈ wsX10_keep := by decide +kernel
  have fl7 := hts (.fieldLink RX10 7 "MagpieRunsModel" "s" "[I") (by decide +kernel)
  have fl16 := hts (.fieldLink RX10 16 "MagpieRunsModel" "kept" "[I") (by decide +kernel)
  have fl48 := hts (.fieldLink RX10 48 "MagpieRunsModel" "thrown" "I") (by decide +kernel)
  have fl200 := hts (.fieldLink RX10 200 "MagpieRunsModel" "isKept" "Z") (by decide +kernel)
  have hl : lv_has ls 2 [(0, .ref (ad 0))] := hl
  have J_7 := k_loop (z := fun _ _ _ _ => none) (st := mX10_keep_7 c_s) (fun k7 : (Int32) → (Nat → Int32) → (Bool) → (Int32) → Option (Int32 × (Nat → Int32) × (Bool) × (Int32)) => ∀ (l1 : Int32) (c_kept : Nat → Int32) (c_isKept : Bool) (c_thrown : Int32) (H : Heap) (locs : List Loc), va_P D vwCl (wM cI cJ ad c_s c_before c_known c_kept c_isKept c_aside c_buffer c_length c_thrown c_laid c_spot c_isWrong c_isHalted c_mine c_theirs c_many c_from0 c_from1 c_dice c_hash) H → va_D A (wM cI cJ ad c_s c_before c_known c_kept c_isKept c_aside c_buffer c_length c_thrown c_laid c_spot c_isWrong c_isHalted c_mine c_theirs c_many c_from0 c_from1 c_dice c_hash) → va_S A z.heap H locs → ∀ ls : Array Slot, lv_has ls 2 [(0, .ref (ad 0)), (1, .int l1)] → k7 l1 c_kept c_isKept c_thrown = some (r, c_kept', c_isKept', c_thrown') → W p l e rmX10_keep z m ([.ref (ad 0)] : List Value).toArray below meth c H locs 0 0 (k_Qi below ([.ref (ad 0)] : List Value) D (kT cI cJ cC cG) z A (wM cI cJ ad c_s c_before c_known c_kept' c_isKept' c_aside c_buffer c_length c_thrown' c_laid c_spot c_isWrong c_isHalted c_mine c_theirs c_many c_from0 c_from1 c_dice c_hash) r) (F0 m 7 ls [])) (by intros; rename_i h; cases h) (by
    intro k7 ih7
    intro l1 c_kept c_isKept c_thrown H locs hP hD hS ls hl hm
    unfold mX10_keep_7 at hm
    refine lv_iload_n hx hb dX10_keep_7 rfl (lv_at hl 1 rfl) ?_
    refine lv_bipush (v := 51) hx hb dX10_keep_8 (by decide) ?_
    refine lv_icmp_ge (tgt := 31) hx hb dX10_keep_10 (by decide) (fun cc10 => ?_) (fun cc10 => ?_)
    · have hm := k_ip cc10 hm
      refine lv_aload_n hx hb dX10_keep_31 rfl (lv_at hl 0 rfl) ?_
      refine lv_iconst (v := 1) hx hb dX10_keep_32 (by decide) ?_
      refine va_put (D := D) (ci := 6) (v := .int (k_b true)) (ty := .boolean) (C := RX10) (T := TX10) (N := 20) hx hb hts hinX10 tyX10 tyX10_ok nmX10 hown hK hP hD hS 0 rfl rfl 4 (by decide) fl200 (fun _ h9 => h9) rfl (by decide +kernel) (k_nz _) (k_fz _) (Nat.le_of_ble_eq_true rfl) dX10_keep_33 (fun H locs hP hD hS => ?_)
      have hP : va_P D vwCl (wM cI cJ ad c_s c_before c_known c_kept true c_aside c_buffer c_length c_thrown c_laid c_spot c_isWrong c_isHalted c_mine c_theirs c_many c_from0 c_from1 c_dice c_hash) H := hP
      have hD : va_D A (wM cI cJ ad c_s c_before c_known c_kept true c_aside c_buffer c_length c_thrown c_laid c_spot c_isWrong c_isHalted c_mine c_theirs c_many c_from0 c_from1 c_dice c_hash) := hD
      refine lv_aload_n hx hb dX10_keep_36 rfl (lv_at hl 0 rfl) ?_
      refine va_get (D := D) (ci := 6) (v := .ref (ad 1)) (C := RX10) (T := TX10) (N := 20) hx hb hts hinX10 hown hK hP 0 rfl rfl 0 (by decide) fl7 (fun _ h9 => h9) rfl dX10_keep_37 ?_
      refine lv_bipush (v := 36) hx hb dX10_keep_40 (by decide) ?_
      refine k_iaC hx hb hK hP 1 0 rfl rfl kl_36 ki_36_51 dX10_keep_42 ?_
      cases hm
      exact k_end_i hx hb hr hlocks hK hP hD hS dX10_keep_43
    · have hm := k_in cc10 hm
      refine lv_aload_n hx hb dX10_keep_13 rfl (lv_at hl 0 rfl) ?_
      refine va_get (D := D) (ci := 6) (v := .ref (ad 3)) (C := RX10) (T := TX10) (N := 20) hx hb hts hinX10 hown hK hP 0 rfl rfl 3 (by decide) fl16 (fun _ h9 => h9) rfl dX10_keep_14 ?_
      refine lv_iload_n hx hb dX10_keep_17 rfl (lv_at hl 1 rfl) ?_
      refine lv_aload_n hx hb dX10_keep_18 rfl (lv_at hl 0 rfl) ?_
      refine va_get (D := D) (ci := 6) (v := .ref (ad 1)) (C := RX10) (T := TX10) (N := 20) hx hb hts hinX10 hown hK hP 0 rfl rfl 0 (by decide) fl7 (fun _ h9 => h9) rfl dX10_keep_19 ?_
      refine lv_iload_n hx hb dX10_keep_22 rfl (lv_at hl 1 rfl) ?_
      obtain ⟨gi23, hm⟩ := k_gs hm
      refine va_iald hx hb hK hP 1 0 rfl rfl gi23 dX10_keep_23 ?_
      obtain ⟨gi24, hm⟩ := k_gs hm
      refine va_iast hx hb hK hP hD hS 3 0 rfl rfl gi24 dX10_keep_24 (fun H locs hP hD hS => ?_)
      have hP : va_P D vwCl (wM cI cJ ad c_s c_before c_known (upd c_kept (Int32.toNatClampNeg l1) (c_s (Int32.toNatClampNeg l1))) c_isKept c_aside c_buffer c_length c_thrown c_laid c_spot c_isWrong c_isHalted c_mine c_theirs c_many c_from0 c_from1 c_dice c_hash) H := hP
      have hD : va_D A (wM cI cJ ad c_s c_before c_known (upd c_kept (Int32.toNatClampNeg l1) (c_s (Int32.toNatClampNeg l1))) c_isKept c_aside c_buffer c_length c_thrown c_laid c_spot c_isWrong c_isHalted c_mine c_theirs c_many c_from0 c_from1 c_dice c_hash) := hD
      refine lv_iinc (v := (l1 + 1)) (lv' := [(1, .int (l1 + 1)), (0, .ref (ad 0))]) hx hb dX10_keep_25 hl (k := 1) rfl rfl (by decide) rfl (fun ls hl => ?_)
      refine lv_goto (tgt := 7) hx hb dX10_keep_28 (by decide) ?_
      exact ih7 (l1 + 1) (upd c_kept (Int32.toNatClampNeg l1) (c_s (Int32.toNatClampNeg l1))) c_isKept c_thrown _ _ hP hD hS _ (lv_sub hl [1, 0] rfl) hm) k_F
  unfold mX10_keep at hm
  refine lv_aload_n hx hb dX10_keep_0 rfl (lv_at hl 0 rfl) ?_
  refine lv_iconst (v := 0) hx hb dX10_keep_1 (by decide) ?_
  refine va_put (D := D) (ci := 6) (v := .int 0) (ty := .int) (C := RX10) (T := TX10) (N := 20) hx hb hts hinX10 tyX10 tyX10_ok nmX10 hown hK hP hD hS 0 rfl rfl 8 (by decide) fl48 (fun _ h9 => h9) rfl (by decide +kernel) rfl rfl (Nat.le_of_ble_eq_true rfl) dX10_keep_2 (fun H locs hP hD hS => ?_)
  have hP : va_P D vwCl (wM cI cJ ad c_s c_before c_known c_kept c_isKept c_aside c_buffer c_length 0 c_laid c_spot c_isWrong c_isHalted c_mine c_theirs c_many c_from0 c_from1 c_dice c_hash) H := hP
  have hD : va_D A (wM cI cJ ad c_s c_before c_known c_kept c_isKept c_aside c_buffer c_length 0 c_laid c_spot c_isWrong c_isHalted c_mine c_theirs c_many c_from0 c_from1 c_dice c_hash) := hD
  refine lv_iconst (v := 0) hx hb dX10_keep_5 (by decide) ?_
  refine lv_istore_n (lv' := [(1, .int 0), (0, .ref (ad 0))]) hx hb dX10_keep_6 rfl hl (by decide) rfl (fun ls hl => ?_)
  exact J_7 0 c_kept c_isKept 0 _ _ hP hD hS _ (lv_sub hl [1, 0] rfl) hm

abbrev rmX10_restore : Room := { frames := 1, cells := 0, slots := 0, locals := 21 }
set_option maxHeartbeats 4000000 in
set_option maxRecDepth 100000 in
theorem zX10_restore {l : Launch} {D : va_G} {cI cJ cC cG : ClassId} {sz : Nat} {ad : Nat → Nat} {c_s : Nat → Int32} {c_before : Nat → Int32} {c_known : Int32} {c_kept : Nat → Int32} {c_isKept : Bool} {c_aside : Nat → Int32} {c_buffer : Nat → Int32} {c_length : Int32} {c_thrown : Int32} {c_laid : Nat → Int32} {c_spot : Int32} {c_isWrong : Bool} {c_isHalted : Bool} {c_mine : Nat → Int64} {c_theirs : Nat → Int64} {c_many : Int32} {c_from0 : Nat → Int64} {c_from1 : Nat → Int64} {c_dice : Nat → Int32} {c_hash : Int64} {r : Int32} {c_s' : Nat → Int32} {c_before' : Nat → Int32} {c_known' : Int32} {c_thrown' : Int32} (hm : mX10_restore c_s c_before c_known c_kept c_isKept c_thrown = some (r, c_s', c_before', c_known', c_thrown')) : k_Mi l yX10_restore wsX10_restore rmX10_restore D (kT cI cJ cC cG) sz ([.ref (ad 0)] : List Value) (wM cI cJ ad c_s c_before c_known c_kept c_isKept c_aside c_buffer c_length c_thrown c_laid c_spot c_isWrong c_isHalted c_mine c_theirs c_many c_from0 c_from1 c_dice c_hash) (wM cI cJ ad c_s' c_before' c_known' c_kept c_isKept c_aside c_buffer c_length c_thrown' c_laid c_spot c_isWrong c_isHalted c_mine c_theirs c_many c_from0 c_from1 c_dice c_hash) r := by
  refine k_st_i (cc := cX10_restore) (maxL := 2) (by decide) rfl (Nat.le_of_ble_eq_true rfl) ?_
  intro p e z m below meth c A hx hb hr hml hts hown hlocks hsz hN hA hK hP hD hS ls hl
  have hown : z.vm.findClass RX10 = some m.cls := hown
  have hinX10 : ∀ w ∈ wsX100, w ∈ wsX10_restore := by decide +kernel
  have fl7 := hts (.fieldLink RX10 7 "MagpieRunsModel" "s" "[I") (by decide +kernel)
  have fl16 := hts (.fieldLink RX10 16 "MagpieRunsModel" "kept" "[I") (by decide +kernel)
  have fl48 := hts (.fieldLink RX10 48 "MagpieRunsModel" "thrown" "I") (by decide +kernel)
  have fl200 := hts (.fieldLink RX10 200 "MagpieRunsModel" "isKept" "Z") (by decide +kernel)
  have hl : lv_has ls 2 [(0, .ref (ad 0))] := hl
  have J_24 := k_loop (z := fun _ _ _ _ _ => none) (st := mX10_restore_24 c_kept c_isKept) (fun k24 : (Int32) → (Nat → Int32) → (Nat → Int32) → (Int32) → (Int32) → Option (Int32 × (Nat → Int32) × (Nat → Int32) × (Int32) × (Int32)) => ∀ (l1 : Int32) (c_s : Nat → Int32) (c_before : Nat → Int32) (c_known : Int32) (c_thrown : Int32) (H : Heap) (locs : List Loc), va_P D vwCl (wM cI cJ ad c_s c_before c_known c_kept c_isKept c_aside c_buffer c_length c_thrown c_laid c_spot c_isWrong c_isHalted c_mine c_theirs c_many c_from0 c_from1 c_dice c_hash) H → va_D A (wM cI cJ ad c_s c_before c_known c_kept c_isKept c_aside c_buffer c_length c_thrown c_laid c_spot c_isWrong c_isHalted c_mine c_theirs c_many c_from0 c_from1 c_dice c_hash) → va_S A z.heap H locs → ∀ ls : Array Slot, lv_has ls 2 [(0, .ref (ad 0)), (1, .int l1)] → k24 l1 c_s c_before c_known c_thrown = some (r, c_s', c_before', c_known', c_thrown') → W p l e rmX10_restore z m ([.ref (ad 0)] : List Value).toArray below meth c H locs 0 0 (k_Qi below ([.ref (ad 0)] : List Value) D (kT cI cJ cC cG) z A (wM cI cJ ad c_s' c_before' c_known' c_kept c_isKept c_aside c_buffer c_length c_thrown' c_laid c_spot c_isWrong c_isHalted c_mine c_theirs c_many c_from0 c_from1 c_dice c_hash) r) (F0 m 24 ls [])) (by intros; rename_i h; cases h) (by
    intro k24 ih24
    intro l1 c_s c_before c_known c_thrown H locs hP hD hS ls hl hm
    unfold mX10_restore_24 at hm
    refine lv_iload_n hx hb dX10_restore_24 rfl (lv_at hl 1 rfl) ?_
    refine lv_bipush (v := 51) hx hb dX10_restore_25 (by decide) ?_
    refine lv_icmp_ge (tgt := 48) hx hb dX10_restore_27 (by decide) (fun cc27 => ?_) (fun cc27 => ?_)
    · have hm := k_ip cc27 hm
      refine lv_aload_n hx hb dX10_restore_48 rfl (lv_at hl 0 rfl) ?_
      refine va_get (D := D) (ci := 6) (v := .ref (ad 1)) (C := RX10) (T := TX10) (N := 20) hx hb hts hinX10 hown hK hP 0 rfl rfl 0 (by decide) fl7 (fun _ h9 => h9) rfl dX10_restore_49 ?_
      refine lv_bipush (v := 36) hx hb dX10_restore_52 (by decide) ?_
      refine k_iaC hx hb hK hP 1 0 rfl rfl kl_36 ki_36_51 dX10_restore_54 ?_
      cases hm
      exact k_end_i hx hb hr hlocks hK hP hD hS dX10_restore_55
    · have hm := k_in cc27 hm
      refine lv_aload_n hx hb dX10_restore_30 rfl (lv_at hl 0 rfl) ?_
      refine va_get (D := D) (ci := 6) (v := .ref (ad 1)) (C := RX10) (T := TX10) (N := 20) hx hb hts hinX10 hown hK hP 0 rfl rfl 0 (by decide) fl7 (fun _ h9 => h9) rfl dX10_restore_31 ?_
      refine lv_iload_n hx hb dX10_restore_34 rfl (lv_at hl 1 rfl) ?_
      refine lv_aload_n hx hb dX10_restore_35 rfl (lv_at hl 0 rfl) ?_
      refine va_get (D := D) (ci := 6) (v := .ref (ad 3)) (C := RX10) (T := TX10) (N := 20) hx hb hts hinX10 hown hK hP 0 rfl rfl 3 (by decide) fl16 (fun _ h9 => h9) rfl dX10_restore_36 ?_
      refine lv_iload_n hx hb dX10_restore_39 rfl (lv_at hl 1 rfl) ?_
      obtain ⟨gi40, hm⟩ := k_gs hm
      refine va_iald hx hb hK hP 3 0 rfl rfl gi40 dX10_restore_40 ?_
      obtain ⟨gi41, hm⟩ := k_gs hm
      refine va_iast hx hb hK hP hD hS 1 0 rfl rfl gi41 dX10_restore_41 (fun H locs hP hD hS => ?_)
      have hP : va_P D vwCl (wM cI cJ ad (upd c_s (Int32.toNatClampNeg l1) (c_kept (Int32.toNatClampNeg l1))) c_before c_known c_kept c_isKept c_aside c_buffer c_length c_thrown c_laid c_spot c_isWrong c_isHalted c_mine c_theirs c_many c_from0 c_from1 c_dice c_hash) H := hP
      have hD : va_D A (wM cI cJ ad (upd c_s (Int32.toNatClampNeg l1) (c_kept (Int32.toNatClampNeg l1))) c_before c_known c_kept c_isKept c_aside c_buffer c_length c_thrown c_laid c_spot c_isWrong c_isHalted c_mine c_theirs c_many c_from0 c_from1 c_dice c_hash) := hD
      refine lv_iinc (v := (l1 + 1)) (lv' := [(1, .int (l1 + 1)), (0, .ref (ad 0))]) hx hb dX10_restore_42 hl (k := 1) rfl rfl (by decide) rfl (fun ls hl => ?_)
      refine lv_goto (tgt := 24) hx hb dX10_restore_45 (by decide) ?_
      exact ih24 (l1 + 1) (upd c_s (Int32.toNatClampNeg l1) (c_kept (Int32.toNatClampNeg l1))) c_before c_known c_thrown _ _ hP hD hS _ (lv_sub hl [1, 0] rfl) hm) k_F
  unfold mX10_restore at hm
  refine lv_aload_n hx hb dX10_restore_0 rfl (lv_at hl 0 rfl) ?_
  refine lv_iconst (v := 0) hx hb dX10_restore_1 (by decide) ?_
  refine va_put (D := D) (ci := 6) (v := .int 0) (ty := .int) (C := RX10) (T := TX10) (N := 20) hx hb hts hinX10 tyX10 tyX10_ok nmX10 hown hK hP hD hS 0 rfl rfl 8 (by decide) fl48 (fun _ h9 => h9) rfl (by decide +kernel) rfl rfl (Nat.le_of_ble_eq_true rfl) dX10_restore_2 (fun H locs hP hD hS => ?_)
  have hP : va_P D vwCl (wM cI cJ ad c_s c_before c_known c_kept c_isKept c_aside c_buffer c_length 0 c_laid c_spot c_isWrong c_isHalted c_mine c_theirs c_many c_from0 c_from1 c_dice c_hash) H := hP
  have hD : va_D A (wM cI cJ ad c_s c_before c_known c_kept c_isKept c_aside c_buffer c_length 0 c_laid c_spot c_isWrong c_isHalted c_mine c_theirs c_many c_from0 c_from1 c_dice c_hash) := hD
  refine lv_aload_n hx hb dX10_restore_5 rfl (lv_at hl 0 rfl) ?_
  refine va_get (D := D) (ci := 6) (v := .int (k_b c_isKept)) (C := RX10) (T := TX10) (N := 20) hx hb hts hinX10 hown hK hP 0 rfl rfl 4 (by decide) fl200 (fun _ h9 => h9) rfl dX10_restore_6 ?_
  refine lv_if_ne (tgt := 18) hx hb dX10_restore_9 (by decide) (fun cc9 => ?_) (fun cc9 => ?_)
  · have hm := k_in cc9 hm
    refine lv_aload_n hx hb dX10_restore_18 rfl (lv_at hl 0 rfl) ?_
    obtain ⟨w1, w2, hc19, hm⟩ := k_bd2s hm
    refine k_v_s (k_rV (As := []) (rest := []) ⟨hx, hb, hml, hown, hts⟩ hK hN hP hD (zX10_save hc19) (cwV 0 hts gX10_restore_X10_save rfl rfl rfl (by decide +kernel) ⟨Nat.le_of_ble_eq_true rfl, Nat.le_of_ble_eq_true rfl⟩) rfl rfl rfl hl.1 rfl (Nat.le_of_ble_eq_true rfl) dX10_restore_19 ⟨Nat.zero_le _, Nat.zero_le _⟩) hD hS hA (fun H locs hP hD hS => ?_)
    refine lv_iconst (v := 0) hx hb dX10_restore_22 (by decide) ?_
    refine lv_istore_n (lv' := [(1, .int 0), (0, .ref (ad 0))]) hx hb dX10_restore_23 rfl hl (by decide) rfl (fun ls hl => ?_)
    exact J_24 0 c_s w1 w2 0 _ _ hP hD hS _ (lv_sub hl [1, 0] rfl) hm
  · have hm := k_ip cc9 hm
    refine lv_aload_n hx hb dX10_restore_12 rfl (lv_at hl 0 rfl) ?_
    refine lv_iconst (v := 1) hx hb dX10_restore_13 (by decide) ?_
    obtain ⟨r3, w4, hc14, hm⟩ := k_bd2s hm
    refine k_i_s (k_rV (As := [.int 1]) (rest := []) ⟨hx, hb, hml, hown, hts⟩ hK hN hP hD (zX10_throwing hc14) (cwV 1 hts gX10_restore_X10_throwing rfl rfl rfl (by decide +kernel) ⟨Nat.le_of_ble_eq_true rfl, Nat.le_of_ble_eq_true rfl⟩) rfl rfl rfl hl.1 rfl (Nat.le_of_ble_eq_true rfl) dX10_restore_14 ⟨Nat.zero_le _, Nat.zero_le _⟩) hD hS hA (fun H locs hP hD hS => ?_)
    cases hm
    exact k_end_i hx hb hr hlocks hK hP hD hS dX10_restore_17

abbrev rmX10_savedStates : Room := { frames := 0, cells := 0, slots := 0, locals := 0 }
set_option maxHeartbeats 4000000 in
set_option maxRecDepth 100000 in
theorem zX10_savedStates {l : Launch} {D : va_G} {cI cJ cC cG : ClassId} {sz : Nat} {ad : Nat → Nat} {c_s : Nat → Int32} {c_before : Nat → Int32} {c_known : Int32} {c_kept : Nat → Int32} {c_isKept : Bool} {c_aside : Nat → Int32} {c_buffer : Nat → Int32} {c_length : Int32} {c_thrown : Int32} {c_laid : Nat → Int32} {c_spot : Int32} {c_isWrong : Bool} {c_isHalted : Bool} {c_mine : Nat → Int64} {c_theirs : Nat → Int64} {c_many : Int32} {c_from0 : Nat → Int64} {c_from1 : Nat → Int64} {c_dice : Nat → Int32} {c_hash : Int64} {r : Int32} {c_thrown' : Int32} (hm : mX10_savedStates c_known c_thrown = some (r, c_thrown')) : k_Mi l yX10_savedStates wsX10_savedStates rmX10_savedStates D (kT cI cJ cC cG) sz ([.ref (ad 0)] : List Value) (wM cI cJ ad c_s c_before c_known c_kept c_isKept c_aside c_buffer c_length c_thrown c_laid c_spot c_isWrong c_isHalted c_mine c_theirs c_many c_from0 c_from1 c_dice c_hash) (wM cI cJ ad c_s c_before c_known c_kept c_isKept c_aside c_buffer c_length c_thrown' c_laid c_spot c_isWrong c_isHalted c_mine c_theirs c_many c_from0 c_from1 c_dice c_hash) r := by
  refine k_st_i (cc := cX10_savedStates) (maxL := 1) (by decide) rfl (Nat.le_of_ble_eq_true rfl) ?_
  intro p e z m below meth c A hx hb hr hml hts hown hlocks hsz hN hA hK hP hD hS ls hl
  have hown : z.vm.findClass RX10 = some m.cls := hown
  have hinX10 : ∀ w ∈ wsX100, w ∈ wsX10_savedStates := by decide +kernel
  have fl48 := hts (.fieldLink RX10 48 "MagpieRunsModel" "thrown" "I") (by decide +kernel)
  have fl56 := hts (.fieldLink RX10 56 "MagpieRunsModel" "known" "I") (by decide +kernel)
  have hl : lv_has ls 1 [(0, .ref (ad 0))] := hl
  unfold mX10_savedStates at hm
  refine lv_aload_n hx hb dX10_savedStates_0 rfl (lv_at hl 0 rfl) ?_
  refine lv_iconst (v := 0) hx hb dX10_savedStates_1 (by decide) ?_
  refine va_put (D := D) (ci := 6) (v := .int 0) (ty := .int) (C := RX10) (T := TX10) (N := 20) hx hb hts hinX10 tyX10 tyX10_ok nmX10 hown hK hP hD hS 0 rfl rfl 8 (by decide) fl48 (fun _ h9 => h9) rfl (by decide +kernel) rfl rfl (Nat.le_of_ble_eq_true rfl) dX10_savedStates_2 (fun H locs hP hD hS => ?_)
  have hP : va_P D vwCl (wM cI cJ ad c_s c_before c_known c_kept c_isKept c_aside c_buffer c_length 0 c_laid c_spot c_isWrong c_isHalted c_mine c_theirs c_many c_from0 c_from1 c_dice c_hash) H := hP
  have hD : va_D A (wM cI cJ ad c_s c_before c_known c_kept c_isKept c_aside c_buffer c_length 0 c_laid c_spot c_isWrong c_isHalted c_mine c_theirs c_many c_from0 c_from1 c_dice c_hash) := hD
  refine lv_aload_n hx hb dX10_savedStates_5 rfl (lv_at hl 0 rfl) ?_
  refine va_get (D := D) (ci := 6) (v := .int c_known) (C := RX10) (T := TX10) (N := 20) hx hb hts hinX10 hown hK hP 0 rfl rfl 2 (by decide) fl56 (fun _ h9 => h9) rfl dX10_savedStates_6 ?_
  cases hm
  exact k_end_i hx hb hr hlocks hK hP hD hS dX10_savedStates_9

abbrev rmX10_mover : Room := { frames := 0, cells := 0, slots := 0, locals := 0 }
set_option maxHeartbeats 4000000 in
set_option maxRecDepth 100000 in
theorem zX10_mover {l : Launch} {D : va_G} {cI cJ cC cG : ClassId} {sz : Nat} {ad : Nat → Nat} {c_s : Nat → Int32} {c_before : Nat → Int32} {c_known : Int32} {c_kept : Nat → Int32} {c_isKept : Bool} {c_aside : Nat → Int32} {c_buffer : Nat → Int32} {c_length : Int32} {c_thrown : Int32} {c_laid : Nat → Int32} {c_spot : Int32} {c_isWrong : Bool} {c_isHalted : Bool} {c_mine : Nat → Int64} {c_theirs : Nat → Int64} {c_many : Int32} {c_from0 : Nat → Int64} {c_from1 : Nat → Int64} {c_dice : Nat → Int32} {c_hash : Int64} {r : Int32} {c_thrown' : Int32} (hm : mX10_mover c_s c_thrown = some (r, c_thrown')) : k_Mi l yX10_mover wsX10_mover rmX10_mover D (kT cI cJ cC cG) sz ([.ref (ad 0)] : List Value) (wM cI cJ ad c_s c_before c_known c_kept c_isKept c_aside c_buffer c_length c_thrown c_laid c_spot c_isWrong c_isHalted c_mine c_theirs c_many c_from0 c_from1 c_dice c_hash) (wM cI cJ ad c_s c_before c_known c_kept c_isKept c_aside c_buffer c_length c_thrown' c_laid c_spot c_isWrong c_isHalted c_mine c_theirs c_many c_from0 c_from1 c_dice c_hash) r := by
  refine k_st_i (cc := cX10_mover) (maxL := 1) (by decide) rfl (Nat.le_of_ble_eq_true rfl) ?_
  intro p e z m below meth c A hx hb hr hml hts hown hlocks hsz hN hA hK hP hD hS ls hl
  have hown : z.vm.findClass RX10 = some m.cls := hown
  have hinX10 : ∀ w ∈ wsX100, w ∈ wsX10_mover := by decide +kernel
  have fl7 := hts (.fieldLink RX10 7 "MagpieRunsModel" "s" "[I") (by decide +kernel)
  have fl48 := hts (.fieldLink RX10 48 "MagpieRunsModel" "thrown" "I") (by decide +kernel)
  have hl : lv_has ls 1 [(0, .ref (ad 0))] := hl
  unfold mX10_mover at hm
  refine lv_aload_n hx hb dX10_mover_0 rfl (lv_at hl 0 rfl) ?_
  refine lv_iconst (v := 0) hx hb dX10_mover_1 (by decide) ?_
  refine va_put (D := D) (ci := 6) (v := .int 0) (ty := .int) (C := RX10) (T := TX10) (N := 20) hx hb hts hinX10 tyX10 tyX10_ok nmX10 hown hK hP hD hS 0 rfl rfl 8 (by decide) fl48 (fun _ h9 => h9) rfl (by decide +kernel) rfl rfl (Nat.le_of_ble_eq_true rfl) dX10_mover_2 (fun H locs hP hD hS => ?_)
  have hP : va_P D vwCl (wM cI cJ ad c_s c_before c_known c_kept c_isKept c_aside c_buffer c_length 0 c_laid c_spot c_isWrong c_isHalted c_mine c_theirs c_many c_from0 c_from1 c_dice c_hash) H := hP
  have hD : va_D A (wM cI cJ ad c_s c_before c_known c_kept c_isKept c_aside c_buffer c_length 0 c_laid c_spot c_isWrong c_isHalted c_mine c_theirs c_many c_from0 c_from1 c_dice c_hash) := hD
  refine lv_aload_n hx hb dX10_mover_5 rfl (lv_at hl 0 rfl) ?_
  refine va_get (D := D) (ci := 6) (v := .ref (ad 1)) (C := RX10) (T := TX10) (N := 20) hx hb hts hinX10 hown hK hP 0 rfl rfl 0 (by decide) fl7 (fun _ h9 => h9) rfl dX10_mover_6 ?_
  refine lv_bipush (v := 36) hx hb dX10_mover_9 (by decide) ?_
  refine k_iaC hx hb hK hP 1 0 rfl rfl kl_36 ki_36_51 dX10_mover_11 ?_
  cases hm
  exact k_end_i hx hb hr hlocks hK hP hD hS dX10_mover_12

abbrev rmX10_phase : Room := { frames := 0, cells := 0, slots := 0, locals := 0 }
set_option maxHeartbeats 4000000 in
set_option maxRecDepth 100000 in
theorem zX10_phase {l : Launch} {D : va_G} {cI cJ cC cG : ClassId} {sz : Nat} {ad : Nat → Nat} {c_s : Nat → Int32} {c_before : Nat → Int32} {c_known : Int32} {c_kept : Nat → Int32} {c_isKept : Bool} {c_aside : Nat → Int32} {c_buffer : Nat → Int32} {c_length : Int32} {c_thrown : Int32} {c_laid : Nat → Int32} {c_spot : Int32} {c_isWrong : Bool} {c_isHalted : Bool} {c_mine : Nat → Int64} {c_theirs : Nat → Int64} {c_many : Int32} {c_from0 : Nat → Int64} {c_from1 : Nat → Int64} {c_dice : Nat → Int32} {c_hash : Int64} {r : Int32} {c_thrown' : Int32} (hm : mX10_phase c_s c_thrown = some (r, c_thrown')) : k_Mi l yX10_phase wsX10_phase rmX10_phase D (kT cI cJ cC cG) sz ([.ref (ad 0)] : List Value) (wM cI cJ ad c_s c_before c_known c_kept c_isKept c_aside c_buffer c_length c_thrown c_laid c_spot c_isWrong c_isHalted c_mine c_theirs c_many c_from0 c_from1 c_dice c_hash) (wM cI cJ ad c_s c_before c_known c_kept c_isKept c_aside c_buffer c_length c_thrown' c_laid c_spot c_isWrong c_isHalted c_mine c_theirs c_many c_from0 c_from1 c_dice c_hash) r := by
  refine k_st_i (cc := cX10_phase) (maxL := 1) (by decide) rfl (Nat.le_of_ble_eq_true rfl) ?_
  intro p e z m below meth c A hx hb hr hml hts hown hlocks hsz hN hA hK hP hD hS ls hl
  have hown : z.vm.findClass RX10 = some m.cls := hown
  have hinX10 : ∀ w ∈ wsX100, w ∈ wsX10_phase := by decide +kernel
  have fl7 := hts (.fieldLink RX10 7 "MagpieRunsModel" "s" "[I") (by decide +kernel)
  have fl48 := hts (.fieldLink RX10 48 "MagpieRunsModel" "thrown" "I") (by decide +kernel)
  have hl : lv_has ls 1 [(0, .ref (ad 0))] := hl
  unfold mX10_phase at hm
  refine lv_aload_n hx hb dX10_phase_0 rfl (lv_at hl 0 rfl) ?_
  refine lv_iconst (v := 0) hx hb dX10_phase_1 (by decide) ?_
  refine va_put (D := D) (ci := 6) (v := .int 0) (ty := .int) (C := RX10) (T := TX10) (N := 20) hx hb hts hinX10 tyX10 tyX10_ok nmX10 hown hK hP hD hS 0 rfl rfl 8 (by decide) fl48 (fun _ h9 => h9) rfl (by decide +kernel) rfl rfl (Nat.le_of_ble_eq_true rfl) dX10_phase_2 (fun H locs hP hD hS => ?_)
  have hP : va_P D vwCl (wM cI cJ ad c_s c_before c_known c_kept c_isKept c_aside c_buffer c_length 0 c_laid c_spot c_isWrong c_isHalted c_mine c_theirs c_many c_from0 c_from1 c_dice c_hash) H := hP
  have hD : va_D A (wM cI cJ ad c_s c_before c_known c_kept c_isKept c_aside c_buffer c_length 0 c_laid c_spot c_isWrong c_isHalted c_mine c_theirs c_many c_from0 c_from1 c_dice c_hash) := hD
  refine lv_aload_n hx hb dX10_phase_5 rfl (lv_at hl 0 rfl) ?_
  refine va_get (D := D) (ci := 6) (v := .ref (ad 1)) (C := RX10) (T := TX10) (N := 20) hx hb hts hinX10 hown hK hP 0 rfl rfl 0 (by decide) fl7 (fun _ h9 => h9) rfl dX10_phase_6 ?_
  refine lv_bipush (v := 37) hx hb dX10_phase_9 (by decide) ?_
  refine k_iaC hx hb hK hP 1 0 rfl rfl kl_37 ki_37_51 dX10_phase_11 ?_
  cases hm
  exact k_end_i hx hb hr hlocks hK hP hD hS dX10_phase_12

abbrev rmX10_diceLeft : Room := { frames := 0, cells := 0, slots := 0, locals := 0 }
set_option maxHeartbeats 4000000 in
set_option maxRecDepth 100000 in
theorem zX10_diceLeft {l : Launch} {D : va_G} {cI cJ cC cG : ClassId} {sz : Nat} {ad : Nat → Nat} {c_s : Nat → Int32} {c_before : Nat → Int32} {c_known : Int32} {c_kept : Nat → Int32} {c_isKept : Bool} {c_aside : Nat → Int32} {c_buffer : Nat → Int32} {c_length : Int32} {c_thrown : Int32} {c_laid : Nat → Int32} {c_spot : Int32} {c_isWrong : Bool} {c_isHalted : Bool} {c_mine : Nat → Int64} {c_theirs : Nat → Int64} {c_many : Int32} {c_from0 : Nat → Int64} {c_from1 : Nat → Int64} {c_dice : Nat → Int32} {c_hash : Int64} {r : Int32} {c_thrown' : Int32} (hm : mX10_diceLeft c_s c_thrown = some (r, c_thrown')) : k_Mi l yX10_diceLeft wsX10_diceLeft rmX10_diceLeft D (kT cI cJ cC cG) sz ([.ref (ad 0)] : List Value) (wM cI cJ ad c_s c_before c_known c_kept c_isKept c_aside c_buffer c_length c_thrown c_laid c_spot c_isWrong c_isHalted c_mine c_theirs c_many c_from0 c_from1 c_dice c_hash) (wM cI cJ ad c_s c_before c_known c_kept c_isKept c_aside c_buffer c_length c_thrown' c_laid c_spot c_isWrong c_isHalted c_mine c_theirs c_many c_from0 c_from1 c_dice c_hash) r := by
  refine k_st_i (cc := cX10_diceLeft) (maxL := 1) (by decide) rfl (Nat.le_of_ble_eq_true rfl) ?_
  intro p e z m below meth c A hx hb hr hml hts hown hlocks hsz hN hA hK hP hD hS ls hl
  have hown : z.vm.findClass RX10 = some m.cls := hown
  have hinX10 : ∀ w ∈ wsX100, w ∈ wsX10_diceLeft := by decide +kernel
  have fl7 := hts (.fieldLink RX10 7 "MagpieRunsModel" "s" "[I") (by decide +kernel)
  have fl48 := hts (.fieldLink RX10 48 "MagpieRunsModel" "thrown" "I") (by decide +kernel)
  have hl : lv_has ls 1 [(0, .ref (ad 0))] := hl
  unfold mX10_diceLeft at hm
  refine lv_aload_n hx hb dX10_diceLeft_0 rfl (lv_at hl 0 rfl) ?_
  refine lv_iconst (v := 0) hx hb dX10_diceLeft_1 (by decide) ?_
  refine va_put (D := D) (ci := 6) (v := .int 0) (ty := .int) (C := RX10) (T := TX10) (N := 20) hx hb hts hinX10 tyX10 tyX10_ok nmX10 hown hK hP hD hS 0 rfl rfl 8 (by decide) fl48 (fun _ h9 => h9) rfl (by decide +kernel) rfl rfl (Nat.le_of_ble_eq_true rfl) dX10_diceLeft_2 (fun H locs hP hD hS => ?_)
  have hP : va_P D vwCl (wM cI cJ ad c_s c_before c_known c_kept c_isKept c_aside c_buffer c_length 0 c_laid c_spot c_isWrong c_isHalted c_mine c_theirs c_many c_from0 c_from1 c_dice c_hash) H := hP
  have hD : va_D A (wM cI cJ ad c_s c_before c_known c_kept c_isKept c_aside c_buffer c_length 0 c_laid c_spot c_isWrong c_isHalted c_mine c_theirs c_many c_from0 c_from1 c_dice c_hash) := hD
  refine lv_aload_n hx hb dX10_diceLeft_5 rfl (lv_at hl 0 rfl) ?_
  refine va_get (D := D) (ci := 6) (v := .ref (ad 1)) (C := RX10) (T := TX10) (N := 20) hx hb hts hinX10 hown hK hP 0 rfl rfl 0 (by decide) fl7 (fun _ h9 => h9) rfl dX10_diceLeft_6 ?_
  refine lv_bipush (v := 38) hx hb dX10_diceLeft_9 (by decide) ?_
  refine k_iaC hx hb hK hP 1 0 rfl rfl kl_38 ki_38_51 dX10_diceLeft_11 ?_
  cases hm
  exact k_end_i hx hb hr hlocks hK hP hD hS dX10_diceLeft_12

abbrev rmX10_dieLeft : Room := { frames := 1, cells := 0, slots := 0, locals := 22 }
set_option maxHeartbeats 4000000 in
set_option maxRecDepth 100000 in
theorem zX10_dieLeft {l : Launch} {D : va_G} {cI cJ cC cG : ClassId} {sz : Nat} {ad : Nat → Nat} {c_s : Nat → Int32} {c_before : Nat → Int32} {c_known : Int32} {c_kept : Nat → Int32} {c_isKept : Bool} {c_aside : Nat → Int32} {c_buffer : Nat → Int32} {c_length : Int32} {c_thrown : Int32} {c_laid : Nat → Int32} {c_spot : Int32} {c_isWrong : Bool} {c_isHalted : Bool} {c_mine : Nat → Int64} {c_theirs : Nat → Int64} {c_many : Int32} {c_from0 : Nat → Int64} {c_from1 : Nat → Int64} {c_dice : Nat → Int32} {c_hash : Int64} {a1 : Int32} {r : Int32} {c_thrown' : Int32} (hm : mX10_dieLeft c_s c_thrown a1 = some (r, c_thrown')) : k_Mi l yX10_dieLeft wsX10_dieLeft rmX10_dieLeft D (kT cI cJ cC cG) sz ([.ref (ad 0), .int a1] : List Value) (wM cI cJ ad c_s c_before c_known c_kept c_isKept c_aside c_buffer c_length c_thrown c_laid c_spot c_isWrong c_isHalted c_mine c_theirs c_many c_from0 c_from1 c_dice c_hash) (wM cI cJ ad c_s c_before c_known c_kept c_isKept c_aside c_buffer c_length c_thrown' c_laid c_spot c_isWrong c_isHalted c_mine c_theirs c_many c_from0 c_from1 c_dice c_hash) r := by
  refine k_st_i (cc := cX10_dieLeft) (maxL := 2) (by decide) rfl (Nat.le_of_ble_eq_true rfl) ?_
  intro p e z m below meth c A hx hb hr hml hts hown hlocks hsz hN hA hK hP hD hS ls hl
  have hown : z.vm.findClass RX10 = some m.cls := hown
  have hinX10 : ∀ w ∈ wsX100, w ∈ wsX10_dieLeft := by decide +kernel
  have fl7 := hts (.fieldLink RX10 7 "MagpieRunsModel" "s" "[I") (by decide +kernel)
  have fl48 := hts (.fieldLink RX10 48 "MagpieRunsModel" "thrown" "I") (by decide +kernel)
  have hl : lv_has ls 2 [(0, .ref (ad 0)), (1, .int a1)] := hl
  unfold mX10_dieLeft at hm
  refine lv_aload_n hx hb dX10_dieLeft_0 rfl (lv_at hl 0 rfl) ?_
  refine lv_iconst (v := 0) hx hb dX10_dieLeft_1 (by decide) ?_
  refine va_put (D := D) (ci := 6) (v := .int 0) (ty := .int) (C := RX10) (T := TX10) (N := 20) hx hb hts hinX10 tyX10 tyX10_ok nmX10 hown hK hP hD hS 0 rfl rfl 8 (by decide) fl48 (fun _ h9 => h9) rfl (by decide +kernel) rfl rfl (Nat.le_of_ble_eq_true rfl) dX10_dieLeft_2 (fun H locs hP hD hS => ?_)
  have hP : va_P D vwCl (wM cI cJ ad c_s c_before c_known c_kept c_isKept c_aside c_buffer c_length 0 c_laid c_spot c_isWrong c_isHalted c_mine c_theirs c_many c_from0 c_from1 c_dice c_hash) H := hP
  have hD : va_D A (wM cI cJ ad c_s c_before c_known c_kept c_isKept c_aside c_buffer c_length 0 c_laid c_spot c_isWrong c_isHalted c_mine c_theirs c_many c_from0 c_from1 c_dice c_hash) := hD
  refine lv_iload_n hx hb dX10_dieLeft_5 rfl (lv_at hl 1 rfl) ?_
  refine lv_iconst (v := 0) hx hb dX10_dieLeft_6 (by decide) ?_
  refine lv_aload_n hx hb dX10_dieLeft_7 rfl (lv_at hl 0 rfl) ?_
  refine va_get (D := D) (ci := 6) (v := .ref (ad 1)) (C := RX10) (T := TX10) (N := 20) hx hb hts hinX10 hown hK hP 0 rfl rfl 0 (by decide) fl7 (fun _ h9 => h9) rfl dX10_dieLeft_8 ?_
  refine lv_bipush (v := 38) hx hb dX10_dieLeft_11 (by decide) ?_
  refine k_iaC hx hb hK hP 1 0 rfl rfl kl_38 ki_38_51 dX10_dieLeft_13 ?_
  refine lv_iconst (v := 1) hx hb dX10_dieLeft_14 (by decide) ?_
  refine lv_isub hx hb dX10_dieLeft_15 ?_
  obtain ⟨r1, hc16, hm⟩ := k_bds hm
  refine k_i_0 (k_rS (As := [.int a1, .int 0, .int ((c_s 38) - 1)]) (rest := []) ⟨hx, hb, hml, hown, hts⟩ hK hN k_P0 (k_D0 (A := A)) (zX10_in hc16) (va_cwS 3 hts gX10_dieLeft_X10_in rfl rfl rfl (by decide +kernel) ⟨Nat.le_of_ble_eq_true rfl, Nat.le_of_ble_eq_true rfl⟩) rfl hl.1 rfl (Nat.le_of_ble_eq_true rfl) dX10_dieLeft_16 ⟨Nat.zero_le _, Nat.zero_le _⟩) hP hS hA (fun H locs hP hS => ?_)
  refine lv_if_eq (tgt := 34) hx hb dX10_dieLeft_19 (by decide) (fun cc19 => ?_) (fun cc19 => ?_)
  · have hm := k_ip cc19 hm
    refine lv_aload_n hx hb dX10_dieLeft_34 rfl (lv_at hl 0 rfl) ?_
    refine lv_iconst (v := 1) hx hb dX10_dieLeft_35 (by decide) ?_
    obtain ⟨r2, w3, hc36, hm⟩ := k_bd2s hm
    refine k_i_s (k_rV (As := [.int 1]) (rest := []) ⟨hx, hb, hml, hown, hts⟩ hK hN hP hD (zX10_throwing hc36) (cwV 1 hts gX10_dieLeft_X10_throwing rfl rfl rfl (by decide +kernel) ⟨Nat.le_of_ble_eq_true rfl, Nat.le_of_ble_eq_true rfl⟩) rfl rfl rfl hl.1 rfl (Nat.le_of_ble_eq_true rfl) dX10_dieLeft_36 ⟨Nat.zero_le _, Nat.zero_le _⟩) hD hS hA (fun H locs hP hD hS => ?_)
    cases hm
    exact k_end_i hx hb hr hlocks hK hP hD hS dX10_dieLeft_39
  · have hm := k_in cc19 hm
    refine lv_aload_n hx hb dX10_dieLeft_22 rfl (lv_at hl 0 rfl) ?_
    refine va_get (D := D) (ci := 6) (v := .ref (ad 1)) (C := RX10) (T := TX10) (N := 20) hx hb hts hinX10 hown hK hP 0 rfl rfl 0 (by decide) fl7 (fun _ h9 => h9) rfl dX10_dieLeft_23 ?_
    refine lv_bipush (v := 39) hx hb dX10_dieLeft_26 (by decide) ?_
    refine lv_iload_n hx hb dX10_dieLeft_28 rfl (lv_at hl 1 rfl) ?_
    refine lv_iadd hx hb dX10_dieLeft_29 ?_
    obtain ⟨gi30, hm⟩ := k_gs hm
    refine va_iald hx hb hK hP 1 0 rfl rfl gi30 dX10_dieLeft_30 ?_
    refine lv_goto (tgt := 39) hx hb dX10_dieLeft_31 (by decide) ?_
    cases hm
    exact k_end_i hx hb hr hlocks hK hP hD hS dX10_dieLeft_39

abbrev rmX10_isThere : Room := { frames := 2, cells := 0, slots := 0, locals := 42 }
set_option maxHeartbeats 4000000 in
set_option maxRecDepth 100000 in
theorem zX10_isThere {l : Launch} {D : va_G} {cI cJ cC cG : ClassId} {sz : Nat} {ad : Nat → Nat} {c_s : Nat → Int32} {c_before : Nat → Int32} {c_known : Int32} {c_kept : Nat → Int32} {c_isKept : Bool} {c_aside : Nat → Int32} {c_buffer : Nat → Int32} {c_length : Int32} {c_thrown : Int32} {c_laid : Nat → Int32} {c_spot : Int32} {c_isWrong : Bool} {c_isHalted : Bool} {c_mine : Nat → Int64} {c_theirs : Nat → Int64} {c_many : Int32} {c_from0 : Nat → Int64} {c_from1 : Nat → Int64} {c_dice : Nat → Int32} {c_hash : Int64} {a1 : Int32} {a2 : Int32} {r : Bool} {c_thrown' : Int32} (hm : mX10_isThere c_thrown a1 a2 = some (r, c_thrown')) : k_Mi l yX10_isThere wsX10_isThere rmX10_isThere D (kT cI cJ cC cG) sz ([.ref (ad 0), .int a1, .int a2] : List Value) (wM cI cJ ad c_s c_before c_known c_kept c_isKept c_aside c_buffer c_length c_thrown c_laid c_spot c_isWrong c_isHalted c_mine c_theirs c_many c_from0 c_from1 c_dice c_hash) (wM cI cJ ad c_s c_before c_known c_kept c_isKept c_aside c_buffer c_length c_thrown' c_laid c_spot c_isWrong c_isHalted c_mine c_theirs c_many c_from0 c_from1 c_dice c_hash) (k_b r) := by
  refine k_st_i (cc := cX10_isThere) (maxL := 3) (by decide) rfl (Nat.le_of_ble_eq_true rfl) ?_
  intro p e z m below meth c A hx hb hr hml hts hown hlocks hsz hN hA hK hP hD hS ls hl
  have hown : z.vm.findClass RX10 = some m.cls := hown
  have hinX10 : ∀ w ∈ wsX100, w ∈ wsX10_isThere := by decide +kernel
  have fl48 := hts (.fieldLink RX10 48 "MagpieRunsModel" "thrown" "I") (by decide +kernel)
  have hl : lv_has ls 3 [(0, .ref (ad 0)), (1, .int a1), (2, .int a2)] := hl
  have J_20 : ∀ (t0 : Bool) (c_thrown : Int32) (H : Heap) (locs : List Loc), va_P D vwCl (wM cI cJ ad c_s c_before c_known c_kept c_isKept c_aside c_buffer c_length c_thrown c_laid c_spot c_isWrong c_isHalted c_mine c_theirs c_many c_from0 c_from1 c_dice c_hash) H → va_D A (wM cI cJ ad c_s c_before c_known c_kept c_isKept c_aside c_buffer c_length c_thrown c_laid c_spot c_isWrong c_isHalted c_mine c_theirs c_many c_from0 c_from1 c_dice c_hash) → va_S A z.heap H locs → ∀ ls : Array Slot, lv_has ls 3 [(0, .ref (ad 0))] → mX10_isThere_20 a1 a2 t0 c_thrown = some (r, c_thrown') → W p l e rmX10_isThere z m ([.ref (ad 0), .int a1, .int a2] : List Value).toArray below meth c H locs 0 0 (k_Qi below ([.ref (ad 0), .int a1, .int a2] : List Value) D (kT cI cJ cC cG) z A (wM cI cJ ad c_s c_before c_known c_kept c_isKept c_aside c_buffer c_length c_thrown' c_laid c_spot c_isWrong c_isHalted c_mine c_theirs c_many c_from0 c_from1 c_dice c_hash) (k_b r)) (F0 m 20 ls [.int (k_b t0), .ref (ad 0)]) := by
    intro t0 c_thrown H locs hP hD hS ls hl hm
    unfold mX10_isThere_20 at hm
    refine va_put (D := D) (ci := 6) (v := .int (k_b t0)) (ty := .int) (C := RX10) (T := TX10) (N := 20) hx hb hts hinX10 tyX10 tyX10_ok nmX10 hown hK hP hD hS 0 rfl rfl 8 (by decide) fl48 (fun _ h9 => h9) rfl (by decide +kernel) rfl rfl (Nat.le_of_ble_eq_true rfl) dX10_isThere_20 (fun H locs hP hD hS => ?_)
    have hP : va_P D vwCl (wM cI cJ ad c_s c_before c_known c_kept c_isKept c_aside c_buffer c_length (k_b t0) c_laid c_spot c_isWrong c_isHalted c_mine c_theirs c_many c_from0 c_from1 c_dice c_hash) H := hP
    have hD : va_D A (wM cI cJ ad c_s c_before c_known c_kept c_isKept c_aside c_buffer c_length (k_b t0) c_laid c_spot c_isWrong c_isHalted c_mine c_theirs c_many c_from0 c_from1 c_dice c_hash) := hD
    refine lv_aload_n hx hb dX10_isThere_23 rfl (lv_at hl 0 rfl) ?_
    refine va_get (D := D) (ci := 6) (v := .int (k_b t0)) (C := RX10) (T := TX10) (N := 20) hx hb hts hinX10 hown hK hP 0 rfl rfl 8 (by decide) fl48 (fun _ h9 => h9) rfl dX10_isThere_24 ?_
    refine lv_if_ne (tgt := 34) hx hb dX10_isThere_27 (by decide) (fun cc27 => ?_) (fun cc27 => ?_)
    · have hm := k_in cc27 hm
      refine lv_iconst (v := 0) hx hb dX10_isThere_34 (by decide) ?_
      cases hm
      exact k_end_z false hx hb hr hlocks hK hP hD hS dX10_isThere_35
    · have hm := k_ip cc27 hm
      refine lv_iconst (v := 1) hx hb dX10_isThere_30 (by decide) ?_
      refine lv_goto (tgt := 35) hx hb dX10_isThere_31 (by decide) ?_
      cases hm
      exact k_end_z true hx hb hr hlocks hK hP hD hS dX10_isThere_35
  have J_19 : ∀ (c_thrown : Int32) (H : Heap) (locs : List Loc), va_P D vwCl (wM cI cJ ad c_s c_before c_known c_kept c_isKept c_aside c_buffer c_length c_thrown c_laid c_spot c_isWrong c_isHalted c_mine c_theirs c_many c_from0 c_from1 c_dice c_hash) H → va_D A (wM cI cJ ad c_s c_before c_known c_kept c_isKept c_aside c_buffer c_length c_thrown c_laid c_spot c_isWrong c_isHalted c_mine c_theirs c_many c_from0 c_from1 c_dice c_hash) → va_S A z.heap H locs → ∀ ls : Array Slot, lv_has ls 3 [(0, .ref (ad 0))] → mX10_isThere_19 a1 a2 c_thrown = some (r, c_thrown') → W p l e rmX10_isThere z m ([.ref (ad 0), .int a1, .int a2] : List Value).toArray below meth c H locs 0 0 (k_Qi below ([.ref (ad 0), .int a1, .int a2] : List Value) D (kT cI cJ cC cG) z A (wM cI cJ ad c_s c_before c_known c_kept c_isKept c_aside c_buffer c_length c_thrown' c_laid c_spot c_isWrong c_isHalted c_mine c_theirs c_many c_from0 c_from1 c_dice c_hash) (k_b r)) (F0 m 19 ls [.ref (ad 0)]) := by
    intro c_thrown H locs hP hD hS ls hl hm
    unfold mX10_isThere_19 at hm
    refine lv_iconst (v := 1) hx hb dX10_isThere_19 (by decide) ?_
    exact J_20 true c_thrown _ _ hP hD hS _ (lv_sub hl [0] rfl) hm
  unfold mX10_isThere at hm
  refine lv_aload_n hx hb dX10_isThere_0 rfl (lv_at hl 0 rfl) ?_
  refine lv_iload_n hx hb dX10_isThere_1 rfl (lv_at hl 1 rfl) ?_
  obtain ⟨r1, hc2, hm⟩ := k_bds hm
  refine k_i_0 (k_rS (As := [.int a1]) (rest := [.ref (ad 0)]) ⟨hx, hb, hml, hown, hts⟩ hK hN k_P0 (k_D0 (A := A)) (zX10_isPlayer hc2) (va_cwS 1 hts gX10_isThere_X10_isPlayer rfl rfl rfl (by decide +kernel) ⟨Nat.le_of_ble_eq_true rfl, Nat.le_of_ble_eq_true rfl⟩) rfl hl.1 rfl (Nat.le_of_ble_eq_true rfl) dX10_isThere_2 ⟨Nat.zero_le _, Nat.zero_le _⟩) hP hS hA (fun H locs hP hS => ?_)
  refine lv_if_eq (tgt := 19) hx hb dX10_isThere_5 (by decide) (fun cc5 => ?_) (fun cc5 => ?_)
  · have hm := k_ip cc5 hm
    exact J_19 c_thrown _ _ hP hD hS _ (lv_sub hl [0] rfl) hm
  · have hm := k_in cc5 hm
    refine lv_iload_n hx hb dX10_isThere_8 rfl (lv_at hl 2 rfl) ?_
    obtain ⟨r2, hc9, hm⟩ := k_bds hm
    refine k_i_0 (k_rS (As := [.int a2]) (rest := [.ref (ad 0)]) ⟨hx, hb, hml, hown, hts⟩ hK hN k_P0 (k_D0 (A := A)) (zX10_isPoint hc9) (va_cwS 1 hts gX10_isThere_X10_isPoint rfl rfl rfl (by decide +kernel) ⟨Nat.le_of_ble_eq_true rfl, Nat.le_of_ble_eq_true rfl⟩) rfl hl.1 rfl (Nat.le_of_ble_eq_true rfl) dX10_isThere_9 ⟨Nat.zero_le _, Nat.zero_le _⟩) hP hS hA (fun H locs hP hS => ?_)
    refine lv_if_eq (tgt := 19) hx hb dX10_isThere_12 (by decide) (fun cc12 => ?_) (fun cc12 => ?_)
    · have hm := k_ip cc12 hm
      exact J_19 c_thrown _ _ hP hD hS _ (lv_sub hl [0] rfl) hm
    · have hm := k_in cc12 hm
      refine lv_iconst (v := 0) hx hb dX10_isThere_15 (by decide) ?_
      refine lv_goto (tgt := 20) hx hb dX10_isThere_16 (by decide) ?_
      exact J_20 false c_thrown _ _ hP hD hS _ (lv_sub hl [0] rfl) hm

abbrev rmX10_piecesOn : Room := { frames := 3, cells := 0, slots := 0, locals := 64 }
set_option maxHeartbeats 4000000 in
set_option maxRecDepth 100000 in
theorem zX10_piecesOn {l : Launch} {D : va_G} {cI cJ cC cG : ClassId} {sz : Nat} {ad : Nat → Nat} {c_s : Nat → Int32} {c_before : Nat → Int32} {c_known : Int32} {c_kept : Nat → Int32} {c_isKept : Bool} {c_aside : Nat → Int32} {c_buffer : Nat → Int32} {c_length : Int32} {c_thrown : Int32} {c_laid : Nat → Int32} {c_spot : Int32} {c_isWrong : Bool} {c_isHalted : Bool} {c_mine : Nat → Int64} {c_theirs : Nat → Int64} {c_many : Int32} {c_from0 : Nat → Int64} {c_from1 : Nat → Int64} {c_dice : Nat → Int32} {c_hash : Int64} {a1 : Int32} {a2 : Int32} {r : Int32} {c_thrown' : Int32} (hm : mX10_piecesOn c_s c_thrown a1 a2 = some (r, c_thrown')) : k_Mi l yX10_piecesOn wsX10_piecesOn rmX10_piecesOn D (kT cI cJ cC cG) sz ([.ref (ad 0), .int a1, .int a2] : List Value) (wM cI cJ ad c_s c_before c_known c_kept c_isKept c_aside c_buffer c_length c_thrown c_laid c_spot c_isWrong c_isHalted c_mine c_theirs c_many c_from0 c_from1 c_dice c_hash) (wM cI cJ ad c_s c_before c_known c_kept c_isKept c_aside c_buffer c_length c_thrown' c_laid c_spot c_isWrong c_isHalted c_mine c_theirs c_many c_from0 c_from1 c_dice c_hash) r := by
  refine k_st_i (cc := cX10_piecesOn) (maxL := 3) (by decide) rfl (Nat.le_of_ble_eq_true rfl) ?_
  intro p e z m below meth c A hx hb hr hml hts hown hlocks hsz hN hA hK hP hD hS ls hl
  have hown : z.vm.findClass RX10 = some m.cls := hown
  have hl : lv_has ls 3 [(0, .ref (ad 0)), (1, .int a1), (2, .int a2)] := hl
  unfold mX10_piecesOn at hm
  refine lv_aload_n hx hb dX10_piecesOn_0 rfl (lv_at hl 0 rfl) ?_
  refine lv_iload_n hx hb dX10_piecesOn_1 rfl (lv_at hl 1 rfl) ?_
  refine lv_iload_n hx hb dX10_piecesOn_2 rfl (lv_at hl 2 rfl) ?_
  obtain ⟨r1, w2, hc3, hm⟩ := k_bd2s hm
  refine k_i_s (k_rV (As := [.int a1, .int a2]) (rest := []) ⟨hx, hb, hml, hown, hts⟩ hK hN hP hD (zX10_isThere hc3) (cwV 2 hts gX10_piecesOn_X10_isThere rfl rfl rfl (by decide +kernel) ⟨Nat.le_of_ble_eq_true rfl, Nat.le_of_ble_eq_true rfl⟩) rfl rfl rfl hl.1 rfl (Nat.le_of_ble_eq_true rfl) dX10_piecesOn_3 ⟨Nat.zero_le _, Nat.zero_le _⟩) hD hS hA (fun H locs hP hD hS => ?_)
  refine lv_if_eq (tgt := 18) hx hb dX10_piecesOn_6 (by decide) (fun cc6 => ?_) (fun cc6 => ?_)
  · have hm := k_ip cc6 hm
    refine lv_iconst (v := 0) hx hb dX10_piecesOn_18 (by decide) ?_
    cases hm
    exact k_end_i hx hb hr hlocks hK hP hD hS dX10_piecesOn_19
  · have hm := k_in cc6 hm
    refine lv_aload_n hx hb dX10_piecesOn_9 rfl (lv_at hl 0 rfl) ?_
    refine lv_iload_n hx hb dX10_piecesOn_10 rfl (lv_at hl 1 rfl) ?_
    refine lv_iload_n hx hb dX10_piecesOn_11 rfl (lv_at hl 2 rfl) ?_
    obtain ⟨r3, hc12, hm⟩ := k_bds hm
    refine k_i_s (k_rV (As := [.int a1, .int a2]) (rest := []) ⟨hx, hb, hml, hown, hts⟩ hK hN hP hD (zX10_at hc12) (cwV 2 hts gX10_piecesOn_X10_at rfl rfl rfl (by decide +kernel) ⟨Nat.le_of_ble_eq_true rfl, Nat.le_of_ble_eq_true rfl⟩) rfl rfl rfl hl.1 rfl (Nat.le_of_ble_eq_true rfl) dX10_piecesOn_12 ⟨Nat.zero_le _, Nat.zero_le _⟩) hD hS hA (fun H locs hP hD hS => ?_)
    refine lv_goto (tgt := 19) hx hb dX10_piecesOn_15 (by decide) ?_
    cases hm
    exact k_end_i hx hb hr hlocks hK hP hD hS dX10_piecesOn_19

abbrev rmX10_onBar : Room := { frames := 3, cells := 0, slots := 0, locals := 64 }
set_option maxHeartbeats 4000000 in
set_option maxRecDepth 100000 in
theorem zX10_onBar {l : Launch} {D : va_G} {cI cJ cC cG : ClassId} {sz : Nat} {ad : Nat → Nat} {c_s : Nat → Int32} {c_before : Nat → Int32} {c_known : Int32} {c_kept : Nat → Int32} {c_isKept : Bool} {c_aside : Nat → Int32} {c_buffer : Nat → Int32} {c_length : Int32} {c_thrown : Int32} {c_laid : Nat → Int32} {c_spot : Int32} {c_isWrong : Bool} {c_isHalted : Bool} {c_mine : Nat → Int64} {c_theirs : Nat → Int64} {c_many : Int32} {c_from0 : Nat → Int64} {c_from1 : Nat → Int64} {c_dice : Nat → Int32} {c_hash : Int64} {a1 : Int32} {r : Int32} {c_thrown' : Int32} (hm : mX10_onBar c_s c_thrown a1 = some (r, c_thrown')) : k_Mi l yX10_onBar wsX10_onBar rmX10_onBar D (kT cI cJ cC cG) sz ([.ref (ad 0), .int a1] : List Value) (wM cI cJ ad c_s c_before c_known c_kept c_isKept c_aside c_buffer c_length c_thrown c_laid c_spot c_isWrong c_isHalted c_mine c_theirs c_many c_from0 c_from1 c_dice c_hash) (wM cI cJ ad c_s c_before c_known c_kept c_isKept c_aside c_buffer c_length c_thrown' c_laid c_spot c_isWrong c_isHalted c_mine c_theirs c_many c_from0 c_from1 c_dice c_hash) r := by
  refine k_st_i (cc := cX10_onBar) (maxL := 2) (by decide) rfl (Nat.le_of_ble_eq_true rfl) ?_
  intro p e z m below meth c A hx hb hr hml hts hown hlocks hsz hN hA hK hP hD hS ls hl
  have hown : z.vm.findClass RX10 = some m.cls := hown
  have hl : lv_has ls 2 [(0, .ref (ad 0)), (1, .int a1)] := hl
  unfold mX10_onBar at hm
  refine lv_aload_n hx hb dX10_onBar_0 rfl (lv_at hl 0 rfl) ?_
  refine lv_iload_n hx hb dX10_onBar_1 rfl (lv_at hl 1 rfl) ?_
  refine lv_iconst (v := 0) hx hb dX10_onBar_2 (by decide) ?_
  obtain ⟨r1, w2, hc3, hm⟩ := k_bd2s hm
  refine k_i_s (k_rV (As := [.int a1, .int 0]) (rest := []) ⟨hx, hb, hml, hown, hts⟩ hK hN hP hD (zX10_isThere hc3) (cwV 2 hts gX10_onBar_X10_isThere rfl rfl rfl (by decide +kernel) ⟨Nat.le_of_ble_eq_true rfl, Nat.le_of_ble_eq_true rfl⟩) rfl rfl rfl hl.1 rfl (Nat.le_of_ble_eq_true rfl) dX10_onBar_3 ⟨Nat.zero_le _, Nat.zero_le _⟩) hD hS hA (fun H locs hP hD hS => ?_)
  refine lv_if_eq (tgt := 18) hx hb dX10_onBar_6 (by decide) (fun cc6 => ?_) (fun cc6 => ?_)
  · have hm := k_ip cc6 hm
    refine lv_iconst (v := 0) hx hb dX10_onBar_18 (by decide) ?_
    cases hm
    exact k_end_i hx hb hr hlocks hK hP hD hS dX10_onBar_19
  · have hm := k_in cc6 hm
    refine lv_aload_n hx hb dX10_onBar_9 rfl (lv_at hl 0 rfl) ?_
    refine lv_iload_n hx hb dX10_onBar_10 rfl (lv_at hl 1 rfl) ?_
    refine lv_iconst (v := (-1)) hx hb dX10_onBar_11 (by decide) ?_
    obtain ⟨r3, hc12, hm⟩ := k_bds hm
    refine k_i_s (k_rV (As := [.int a1, .int (-1)]) (rest := []) ⟨hx, hb, hml, hown, hts⟩ hK hN hP hD (zX10_at hc12) (cwV 2 hts gX10_onBar_X10_at rfl rfl rfl (by decide +kernel) ⟨Nat.le_of_ble_eq_true rfl, Nat.le_of_ble_eq_true rfl⟩) rfl rfl rfl hl.1 rfl (Nat.le_of_ble_eq_true rfl) dX10_onBar_12 ⟨Nat.zero_le _, Nat.zero_le _⟩) hD hS hA (fun H locs hP hD hS => ?_)
    refine lv_goto (tgt := 19) hx hb dX10_onBar_15 (by decide) ?_
    cases hm
    exact k_end_i hx hb hr hlocks hK hP hD hS dX10_onBar_19

abbrev rmX10_borneOff : Room := { frames := 3, cells := 0, slots := 0, locals := 64 }
set_option maxHeartbeats 4000000 in
set_option maxRecDepth 100000 in
theorem zX10_borneOff {l : Launch} {D : va_G} {cI cJ cC cG : ClassId} {sz : Nat} {ad : Nat → Nat} {c_s : Nat → Int32} {c_before : Nat → Int32} {c_known : Int32} {c_kept : Nat → Int32} {c_isKept : Bool} {c_aside : Nat → Int32} {c_buffer : Nat → Int32} {c_length : Int32} {c_thrown : Int32} {c_laid : Nat → Int32} {c_spot : Int32} {c_isWrong : Bool} {c_isHalted : Bool} {c_mine : Nat → Int64} {c_theirs : Nat → Int64} {c_many : Int32} {c_from0 : Nat → Int64} {c_from1 : Nat → Int64} {c_dice : Nat → Int32} {c_hash : Int64} {a1 : Int32} {r : Int32} {c_thrown' : Int32} (hm : mX10_borneOff c_s c_thrown a1 = some (r, c_thrown')) : k_Mi l yX10_borneOff wsX10_borneOff rmX10_borneOff D (kT cI cJ cC cG) sz ([.ref (ad 0), .int a1] : List Value) (wM cI cJ ad c_s c_before c_known c_kept c_isKept c_aside c_buffer c_length c_thrown c_laid c_spot c_isWrong c_isHalted c_mine c_theirs c_many c_from0 c_from1 c_dice c_hash) (wM cI cJ ad c_s c_before c_known c_kept c_isKept c_aside c_buffer c_length c_thrown' c_laid c_spot c_isWrong c_isHalted c_mine c_theirs c_many c_from0 c_from1 c_dice c_hash) r := by
  refine k_st_i (cc := cX10_borneOff) (maxL := 2) (by decide) rfl (Nat.le_of_ble_eq_true rfl) ?_
  intro p e z m below meth c A hx hb hr hml hts hown hlocks hsz hN hA hK hP hD hS ls hl
  have hown : z.vm.findClass RX10 = some m.cls := hown
  have hl : lv_has ls 2 [(0, .ref (ad 0)), (1, .int a1)] := hl
  unfold mX10_borneOff at hm
  refine lv_aload_n hx hb dX10_borneOff_0 rfl (lv_at hl 0 rfl) ?_
  refine lv_iload_n hx hb dX10_borneOff_1 rfl (lv_at hl 1 rfl) ?_
  refine lv_iconst (v := 0) hx hb dX10_borneOff_2 (by decide) ?_
  obtain ⟨r1, w2, hc3, hm⟩ := k_bd2s hm
  refine k_i_s (k_rV (As := [.int a1, .int 0]) (rest := []) ⟨hx, hb, hml, hown, hts⟩ hK hN hP hD (zX10_isThere hc3) (cwV 2 hts gX10_borneOff_X10_isThere rfl rfl rfl (by decide +kernel) ⟨Nat.le_of_ble_eq_true rfl, Nat.le_of_ble_eq_true rfl⟩) rfl rfl rfl hl.1 rfl (Nat.le_of_ble_eq_true rfl) dX10_borneOff_3 ⟨Nat.zero_le _, Nat.zero_le _⟩) hD hS hA (fun H locs hP hD hS => ?_)
  refine lv_if_eq (tgt := 19) hx hb dX10_borneOff_6 (by decide) (fun cc6 => ?_) (fun cc6 => ?_)
  · have hm := k_ip cc6 hm
    refine lv_iconst (v := 0) hx hb dX10_borneOff_19 (by decide) ?_
    cases hm
    exact k_end_i hx hb hr hlocks hK hP hD hS dX10_borneOff_20
  · have hm := k_in cc6 hm
    refine lv_aload_n hx hb dX10_borneOff_9 rfl (lv_at hl 0 rfl) ?_
    refine lv_iload_n hx hb dX10_borneOff_10 rfl (lv_at hl 1 rfl) ?_
    refine lv_bipush (v := 16) hx hb dX10_borneOff_11 (by decide) ?_
    obtain ⟨r3, hc13, hm⟩ := k_bds hm
    refine k_i_s (k_rV (As := [.int a1, .int 16]) (rest := []) ⟨hx, hb, hml, hown, hts⟩ hK hN hP hD (zX10_at hc13) (cwV 2 hts gX10_borneOff_X10_at rfl rfl rfl (by decide +kernel) ⟨Nat.le_of_ble_eq_true rfl, Nat.le_of_ble_eq_true rfl⟩) rfl rfl rfl hl.1 rfl (Nat.le_of_ble_eq_true rfl) dX10_borneOff_13 ⟨Nat.zero_le _, Nat.zero_le _⟩) hD hS hA (fun H locs hP hD hS => ?_)
    refine lv_goto (tgt := 20) hx hb dX10_borneOff_16 (by decide) ?_
    cases hm
    exact k_end_i hx hb hr hlocks hK hP hD hS dX10_borneOff_20

abbrev rmX10_pips : Room := { frames := 3, cells := 0, slots := 0, locals := 64 }
set_option maxHeartbeats 4000000 in
set_option maxRecDepth 100000 in
theorem zX10_pips {l : Launch} {D : va_G} {cI cJ cC cG : ClassId} {sz : Nat} {ad : Nat → Nat} {c_s : Nat → Int32} {c_before : Nat → Int32} {c_known : Int32} {c_kept : Nat → Int32} {c_isKept : Bool} {c_aside : Nat → Int32} {c_buffer : Nat → Int32} {c_length : Int32} {c_thrown : Int32} {c_laid : Nat → Int32} {c_spot : Int32} {c_isWrong : Bool} {c_isHalted : Bool} {c_mine : Nat → Int64} {c_theirs : Nat → Int64} {c_many : Int32} {c_from0 : Nat → Int64} {c_from1 : Nat → Int64} {c_dice : Nat → Int32} {c_hash : Int64} {a1 : Int32} {r : Int32} {c_thrown' : Int32} (hm : mX10_pips c_s c_thrown a1 = some (r, c_thrown')) : k_Mi l yX10_pips wsX10_pips rmX10_pips D (kT cI cJ cC cG) sz ([.ref (ad 0), .int a1] : List Value) (wM cI cJ ad c_s c_before c_known c_kept c_isKept c_aside c_buffer c_length c_thrown c_laid c_spot c_isWrong c_isHalted c_mine c_theirs c_many c_from0 c_from1 c_dice c_hash) (wM cI cJ ad c_s c_before c_known c_kept c_isKept c_aside c_buffer c_length c_thrown' c_laid c_spot c_isWrong c_isHalted c_mine c_theirs c_many c_from0 c_from1 c_dice c_hash) r := by
  refine k_st_i (cc := cX10_pips) (maxL := 2) (by decide) rfl (Nat.le_of_ble_eq_true rfl) ?_
  intro p e z m below meth c A hx hb hr hml hts hown hlocks hsz hN hA hK hP hD hS ls hl
  have hown : z.vm.findClass RX10 = some m.cls := hown
  have hl : lv_has ls 2 [(0, .ref (ad 0)), (1, .int a1)] := hl
  unfold mX10_pips at hm
  refine lv_aload_n hx hb dX10_pips_0 rfl (lv_at hl 0 rfl) ?_
  refine lv_iload_n hx hb dX10_pips_1 rfl (lv_at hl 1 rfl) ?_
  refine lv_iconst (v := 0) hx hb dX10_pips_2 (by decide) ?_
  obtain ⟨r1, w2, hc3, hm⟩ := k_bd2s hm
  refine k_i_s (k_rV (As := [.int a1, .int 0]) (rest := []) ⟨hx, hb, hml, hown, hts⟩ hK hN hP hD (zX10_isThere hc3) (cwV 2 hts gX10_pips_X10_isThere rfl rfl rfl (by decide +kernel) ⟨Nat.le_of_ble_eq_true rfl, Nat.le_of_ble_eq_true rfl⟩) rfl rfl rfl hl.1 rfl (Nat.le_of_ble_eq_true rfl) dX10_pips_3 ⟨Nat.zero_le _, Nat.zero_le _⟩) hD hS hA (fun H locs hP hD hS => ?_)
  refine lv_if_eq (tgt := 17) hx hb dX10_pips_6 (by decide) (fun cc6 => ?_) (fun cc6 => ?_)
  · have hm := k_ip cc6 hm
    refine lv_iconst (v := 0) hx hb dX10_pips_17 (by decide) ?_
    cases hm
    exact k_end_i hx hb hr hlocks hK hP hD hS dX10_pips_18
  · have hm := k_in cc6 hm
    refine lv_aload_n hx hb dX10_pips_9 rfl (lv_at hl 0 rfl) ?_
    refine lv_iload_n hx hb dX10_pips_10 rfl (lv_at hl 1 rfl) ?_
    obtain ⟨r3, hc11, hm⟩ := k_bds hm
    refine k_i_s (k_rV (As := [.int a1]) (rest := []) ⟨hx, hb, hml, hown, hts⟩ hK hN hP hD (zX10_pip hc11) (cwV 1 hts gX10_pips_X10_pip rfl rfl rfl (by decide +kernel) ⟨Nat.le_of_ble_eq_true rfl, Nat.le_of_ble_eq_true rfl⟩) rfl rfl rfl hl.1 rfl (Nat.le_of_ble_eq_true rfl) dX10_pips_11 ⟨Nat.zero_le _, Nat.zero_le _⟩) hD hS hA (fun H locs hP hD hS => ?_)
    refine lv_goto (tgt := 18) hx hb dX10_pips_14 (by decide) ?_
    cases hm
    exact k_end_i hx hb hr hlocks hK hP hD hS dX10_pips_18

abbrev rmX10_blot : Room := { frames := 1, cells := 0, slots := 0, locals := 22 }
set_option maxHeartbeats 4000000 in
set_option maxRecDepth 100000 in
theorem zX10_blot {l : Launch} {D : va_G} {cI cJ cC cG : ClassId} {sz : Nat} {ad : Nat → Nat} {c_s : Nat → Int32} {c_before : Nat → Int32} {c_known : Int32} {c_kept : Nat → Int32} {c_isKept : Bool} {c_aside : Nat → Int32} {c_buffer : Nat → Int32} {c_length : Int32} {c_thrown : Int32} {c_laid : Nat → Int32} {c_spot : Int32} {c_isWrong : Bool} {c_isHalted : Bool} {c_mine : Nat → Int64} {c_theirs : Nat → Int64} {c_many : Int32} {c_from0 : Nat → Int64} {c_from1 : Nat → Int64} {c_dice : Nat → Int32} {c_hash : Int64} {a1 : Int32} {r : Int32} (hm : mX10_blot c_s a1 = some (r)) : k_Mi l yX10_blot wsX10_blot rmX10_blot D (kT cI cJ cC cG) sz ([.ref (ad 0), .int a1] : List Value) (wM cI cJ ad c_s c_before c_known c_kept c_isKept c_aside c_buffer c_length c_thrown c_laid c_spot c_isWrong c_isHalted c_mine c_theirs c_many c_from0 c_from1 c_dice c_hash) (wM cI cJ ad c_s c_before c_known c_kept c_isKept c_aside c_buffer c_length c_thrown c_laid c_spot c_isWrong c_isHalted c_mine c_theirs c_many c_from0 c_from1 c_dice c_hash) r := by
  refine k_st_i (cc := cX10_blot) (maxL := 4) (by decide) rfl (Nat.le_of_ble_eq_true rfl) ?_
  intro p e z m below meth c A hx hb hr hml hts hown hlocks hsz hN hA hK hP hD hS ls hl
  have hown : z.vm.findClass RX10 = some m.cls := hown
  have hl : lv_has ls 4 [(0, .ref (ad 0)), (1, .int a1)] := hl
  have J_4 := k_loop (z := fun _ _ => none) (st := mX10_blot_4 c_s a1) (fun k4 : (Int32) → (Int32) → Option (Int32) => ∀ (l2 : Int32) (l3 : Int32) (H : Heap) (locs : List Loc), va_P D vwCl (wM cI cJ ad c_s c_before c_known c_kept c_isKept c_aside c_buffer c_length c_thrown c_laid c_spot c_isWrong c_isHalted c_mine c_theirs c_many c_from0 c_from1 c_dice c_hash) H → va_D A (wM cI cJ ad c_s c_before c_known c_kept c_isKept c_aside c_buffer c_length c_thrown c_laid c_spot c_isWrong c_isHalted c_mine c_theirs c_many c_from0 c_from1 c_dice c_hash) → va_S A z.heap H locs → ∀ ls : Array Slot, lv_has ls 4 [(0, .ref (ad 0)), (1, .int a1), (2, .int l2), (3, .int l3)] → k4 l2 l3 = some (r) → W p l e rmX10_blot z m ([.ref (ad 0), .int a1] : List Value).toArray below meth c H locs 0 0 (k_Qi below ([.ref (ad 0), .int a1] : List Value) D (kT cI cJ cC cG) z A (wM cI cJ ad c_s c_before c_known c_kept c_isKept c_aside c_buffer c_length c_thrown c_laid c_spot c_isWrong c_isHalted c_mine c_theirs c_many c_from0 c_from1 c_dice c_hash) r) (F0 m 4 ls [])) (by intros; rename_i h; cases h) (by
    intro k4 ih4
    intro l2 l3 H locs hP hD hS ls hl hm
    unfold mX10_blot_4 at hm
    refine lv_iload_n hx hb dX10_blot_4 rfl (lv_at hl 3 rfl) ?_
    refine lv_bipush (v := 16) hx hb dX10_blot_5 (by decide) ?_
    refine lv_icmp_ge (tgt := 34) hx hb dX10_blot_7 (by decide) (fun cc7 => ?_) (fun cc7 => ?_)
    · have hm := k_ip cc7 hm
      refine lv_iload_n hx hb dX10_blot_34 rfl (lv_at hl 2 rfl) ?_
      cases hm
      exact k_end_i hx hb hr hlocks hK hP hD hS dX10_blot_35
    · have hm := k_in cc7 hm
      refine lv_iload_n hx hb dX10_blot_10 rfl (lv_at hl 2 rfl) ?_
      refine lv_aload_n hx hb dX10_blot_11 rfl (lv_at hl 0 rfl) ?_
      refine lv_iload_n hx hb dX10_blot_12 rfl (lv_at hl 1 rfl) ?_
      refine lv_iload_n hx hb dX10_blot_13 rfl (lv_at hl 3 rfl) ?_
      obtain ⟨r1, hc14, hm⟩ := k_bds hm
      refine k_i_s (k_rV (As := [.int a1, .int l3]) (rest := [.int l2]) ⟨hx, hb, hml, hown, hts⟩ hK hN hP hD (zX10_at hc14) (cwV 2 hts gX10_blot_X10_at rfl rfl rfl (by decide +kernel) ⟨Nat.le_of_ble_eq_true rfl, Nat.le_of_ble_eq_true rfl⟩) rfl rfl rfl hl.1 rfl (Nat.le_of_ble_eq_true rfl) dX10_blot_14 ⟨Nat.zero_le _, Nat.zero_le _⟩) hD hS hA (fun H locs hP hD hS => ?_)
      refine lv_iconst (v := 1) hx hb dX10_blot_17 (by decide) ?_
      refine lv_icmp_ne (tgt := 25) hx hb dX10_blot_18 (by decide) (fun cc18 => ?_) (fun cc18 => ?_)
      · have hm := k_in cc18 hm
        refine lv_iconst (v := 0) hx hb dX10_blot_25 (by decide) ?_
        refine lv_iadd hx hb dX10_blot_26 ?_
        refine lv_istore_n (lv' := [(2, .int (l2 + 0)), (0, .ref (ad 0)), (1, .int a1), (3, .int l3)]) hx hb dX10_blot_27 rfl hl (by decide) rfl (fun ls hl => ?_)
        refine lv_iinc (v := (l3 + 1)) (lv' := [(3, .int (l3 + 1)), (2, .int (l2 + 0)), (0, .ref (ad 0)), (1, .int a1)]) hx hb dX10_blot_28 hl (k := 3) rfl rfl (by decide) rfl (fun ls hl => ?_)
        refine lv_goto (tgt := 4) hx hb dX10_blot_31 (by decide) ?_
        exact ih4 (l2 + 0) (l3 + 1) _ _ hP hD hS _ (lv_sub hl [2, 3, 1, 0] rfl) hm
      · have hm := k_ip cc18 hm
        refine lv_iconst (v := 1) hx hb dX10_blot_21 (by decide) ?_
        refine lv_goto (tgt := 26) hx hb dX10_blot_22 (by decide) ?_
        refine lv_iadd hx hb dX10_blot_26 ?_
        refine lv_istore_n (lv' := [(2, .int (l2 + 1)), (0, .ref (ad 0)), (1, .int a1), (3, .int l3)]) hx hb dX10_blot_27 rfl hl (by decide) rfl (fun ls hl => ?_)
        refine lv_iinc (v := (l3 + 1)) (lv' := [(3, .int (l3 + 1)), (2, .int (l2 + 1)), (0, .ref (ad 0)), (1, .int a1)]) hx hb dX10_blot_28 hl (k := 3) rfl rfl (by decide) rfl (fun ls hl => ?_)
        refine lv_goto (tgt := 4) hx hb dX10_blot_31 (by decide) ?_
        exact ih4 (l2 + 1) (l3 + 1) _ _ hP hD hS _ (lv_sub hl [2, 3, 1, 0] rfl) hm) k_F
  unfold mX10_blot at hm
  refine lv_iconst (v := 0) hx hb dX10_blot_0 (by decide) ?_
  refine lv_istore_n (lv' := [(2, .int 0), (0, .ref (ad 0)), (1, .int a1)]) hx hb dX10_blot_1 rfl hl (by decide) rfl (fun ls hl => ?_)
  refine lv_iconst (v := 0) hx hb dX10_blot_2 (by decide) ?_
  refine lv_istore_n (lv' := [(3, .int 0), (2, .int 0), (0, .ref (ad 0)), (1, .int a1)]) hx hb dX10_blot_3 rfl hl (by decide) rfl (fun ls hl => ?_)
  exact J_4 0 0 _ _ hP hD hS _ (lv_sub hl [2, 3, 1, 0] rfl) hm

abbrev rmX10_blots : Room := { frames := 3, cells := 0, slots := 0, locals := 64 }
set_option maxHeartbeats 4000000 in
set_option maxRecDepth 100000 in
theorem zX10_blots {l : Launch} {D : va_G} {cI cJ cC cG : ClassId} {sz : Nat} {ad : Nat → Nat} {c_s : Nat → Int32} {c_before : Nat → Int32} {c_known : Int32} {c_kept : Nat → Int32} {c_isKept : Bool} {c_aside : Nat → Int32} {c_buffer : Nat → Int32} {c_length : Int32} {c_thrown : Int32} {c_laid : Nat → Int32} {c_spot : Int32} {c_isWrong : Bool} {c_isHalted : Bool} {c_mine : Nat → Int64} {c_theirs : Nat → Int64} {c_many : Int32} {c_from0 : Nat → Int64} {c_from1 : Nat → Int64} {c_dice : Nat → Int32} {c_hash : Int64} {a1 : Int32} {r : Int32} {c_thrown' : Int32} (hm : mX10_blots c_s c_thrown a1 = some (r, c_thrown')) : k_Mi l yX10_blots wsX10_blots rmX10_blots D (kT cI cJ cC cG) sz ([.ref (ad 0), .int a1] : List Value) (wM cI cJ ad c_s c_before c_known c_kept c_isKept c_aside c_buffer c_length c_thrown c_laid c_spot c_isWrong c_isHalted c_mine c_theirs c_many c_from0 c_from1 c_dice c_hash) (wM cI cJ ad c_s c_before c_known c_kept c_isKept c_aside c_buffer c_length c_thrown' c_laid c_spot c_isWrong c_isHalted c_mine c_theirs c_many c_from0 c_from1 c_dice c_hash) r := by
  refine k_st_i (cc := cX10_blots) (maxL := 2) (by decide) rfl (Nat.le_of_ble_eq_true rfl) ?_
  intro p e z m below meth c A hx hb hr hml hts hown hlocks hsz hN hA hK hP hD hS ls hl
  have hown : z.vm.findClass RX10 = some m.cls := hown
  have hl : lv_has ls 2 [(0, .ref (ad 0)), (1, .int a1)] := hl
  unfold mX10_blots at hm
  refine lv_aload_n hx hb dX10_blots_0 rfl (lv_at hl 0 rfl) ?_
  refine lv_iload_n hx hb dX10_blots_1 rfl (lv_at hl 1 rfl) ?_
  refine lv_iconst (v := 0) hx hb dX10_blots_2 (by decide) ?_
  obtain ⟨r1, w2, hc3, hm⟩ := k_bd2s hm
  refine k_i_s (k_rV (As := [.int a1, .int 0]) (rest := []) ⟨hx, hb, hml, hown, hts⟩ hK hN hP hD (zX10_isThere hc3) (cwV 2 hts gX10_blots_X10_isThere rfl rfl rfl (by decide +kernel) ⟨Nat.le_of_ble_eq_true rfl, Nat.le_of_ble_eq_true rfl⟩) rfl rfl rfl hl.1 rfl (Nat.le_of_ble_eq_true rfl) dX10_blots_3 ⟨Nat.zero_le _, Nat.zero_le _⟩) hD hS hA (fun H locs hP hD hS => ?_)
  refine lv_if_eq (tgt := 17) hx hb dX10_blots_6 (by decide) (fun cc6 => ?_) (fun cc6 => ?_)
  · have hm := k_ip cc6 hm
    refine lv_iconst (v := 0) hx hb dX10_blots_17 (by decide) ?_
    cases hm
    exact k_end_i hx hb hr hlocks hK hP hD hS dX10_blots_18
  · have hm := k_in cc6 hm
    refine lv_aload_n hx hb dX10_blots_9 rfl (lv_at hl 0 rfl) ?_
    refine lv_iload_n hx hb dX10_blots_10 rfl (lv_at hl 1 rfl) ?_
    obtain ⟨r3, hc11, hm⟩ := k_bds hm
    refine k_i_s (k_rV (As := [.int a1]) (rest := []) ⟨hx, hb, hml, hown, hts⟩ hK hN hP hD (zX10_blot hc11) (cwV 1 hts gX10_blots_X10_blot rfl rfl rfl (by decide +kernel) ⟨Nat.le_of_ble_eq_true rfl, Nat.le_of_ble_eq_true rfl⟩) rfl rfl rfl hl.1 rfl (Nat.le_of_ble_eq_true rfl) dX10_blots_11 ⟨Nat.zero_le _, Nat.zero_le _⟩) hD hS hA (fun H locs hP hD hS => ?_)
    refine lv_goto (tgt := 18) hx hb dX10_blots_14 (by decide) ?_
    cases hm
    exact k_end_i hx hb hr hlocks hK hP hD hS dX10_blots_18

abbrev rmX10_wall : Room := { frames := 2, cells := 0, slots := 0, locals := 44 }
set_option maxHeartbeats 4000000 in
set_option maxRecDepth 100000 in
theorem zX10_wall {l : Launch} {D : va_G} {cI cJ cC cG : ClassId} {sz : Nat} {ad : Nat → Nat} {c_s : Nat → Int32} {c_before : Nat → Int32} {c_known : Int32} {c_kept : Nat → Int32} {c_isKept : Bool} {c_aside : Nat → Int32} {c_buffer : Nat → Int32} {c_length : Int32} {c_thrown : Int32} {c_laid : Nat → Int32} {c_spot : Int32} {c_isWrong : Bool} {c_isHalted : Bool} {c_mine : Nat → Int64} {c_theirs : Nat → Int64} {c_many : Int32} {c_from0 : Nat → Int64} {c_from1 : Nat → Int64} {c_dice : Nat → Int32} {c_hash : Int64} {a1 : Int32} {r : Int32} (hm : mX10_wall c_s a1 = some (r)) : k_Mi l yX10_wall wsX10_wall rmX10_wall D (kT cI cJ cC cG) sz ([.ref (ad 0), .int a1] : List Value) (wM cI cJ ad c_s c_before c_known c_kept c_isKept c_aside c_buffer c_length c_thrown c_laid c_spot c_isWrong c_isHalted c_mine c_theirs c_many c_from0 c_from1 c_dice c_hash) (wM cI cJ ad c_s c_before c_known c_kept c_isKept c_aside c_buffer c_length c_thrown c_laid c_spot c_isWrong c_isHalted c_mine c_theirs c_many c_from0 c_from1 c_dice c_hash) r := by
  refine k_st_i (cc := cX10_wall) (maxL := 5) (by decide) rfl (Nat.le_of_ble_eq_true rfl) ?_
  intro p e z m below meth c A hx hb hr hml hts hown hlocks hsz hN hA hK hP hD hS ls hl
  have hown : z.vm.findClass RX10 = some m.cls := hown
  have hl : lv_has ls 5 [(0, .ref (ad 0)), (1, .int a1)] := hl
  have J_7 := k_loop (z := fun _ _ _ => none) (st := mX10_wall_7 c_s a1) (fun k7 : (Int32) → (Int32) → (Int32) → Option (Int32) => ∀ (l2 : Int32) (l3 : Int32) (l4 : Int32) (H : Heap) (locs : List Loc), va_P D vwCl (wM cI cJ ad c_s c_before c_known c_kept c_isKept c_aside c_buffer c_length c_thrown c_laid c_spot c_isWrong c_isHalted c_mine c_theirs c_many c_from0 c_from1 c_dice c_hash) H → va_D A (wM cI cJ ad c_s c_before c_known c_kept c_isKept c_aside c_buffer c_length c_thrown c_laid c_spot c_isWrong c_isHalted c_mine c_theirs c_many c_from0 c_from1 c_dice c_hash) → va_S A z.heap H locs → ∀ ls : Array Slot, lv_has ls 5 [(0, .ref (ad 0)), (1, .int a1), (2, .int l2), (3, .int l3), (4, .int l4)] → k7 l2 l3 l4 = some (r) → W p l e rmX10_wall z m ([.ref (ad 0), .int a1] : List Value).toArray below meth c H locs 0 0 (k_Qi below ([.ref (ad 0), .int a1] : List Value) D (kT cI cJ cC cG) z A (wM cI cJ ad c_s c_before c_known c_kept c_isKept c_aside c_buffer c_length c_thrown c_laid c_spot c_isWrong c_isHalted c_mine c_theirs c_many c_from0 c_from1 c_dice c_hash) r) (F0 m 7 ls [])) (by intros; rename_i h; cases h) (by
    intro k7 ih7
    have J_31 : ∀ (t0 : Int32) (l2 : Int32) (l4 : Int32) (H : Heap) (locs : List Loc), va_P D vwCl (wM cI cJ ad c_s c_before c_known c_kept c_isKept c_aside c_buffer c_length c_thrown c_laid c_spot c_isWrong c_isHalted c_mine c_theirs c_many c_from0 c_from1 c_dice c_hash) H → va_D A (wM cI cJ ad c_s c_before c_known c_kept c_isKept c_aside c_buffer c_length c_thrown c_laid c_spot c_isWrong c_isHalted c_mine c_theirs c_many c_from0 c_from1 c_dice c_hash) → va_S A z.heap H locs → ∀ ls : Array Slot, lv_has ls 5 [(0, .ref (ad 0)), (1, .int a1), (2, .int l2), (4, .int l4)] → mX10_wall_31 c_s a1 k7 t0 l2 l4 = some (r) → W p l e rmX10_wall z m ([.ref (ad 0), .int a1] : List Value).toArray below meth c H locs 0 0 (k_Qi below ([.ref (ad 0), .int a1] : List Value) D (kT cI cJ cC cG) z A (wM cI cJ ad c_s c_before c_known c_kept c_isKept c_aside c_buffer c_length c_thrown c_laid c_spot c_isWrong c_isHalted c_mine c_theirs c_many c_from0 c_from1 c_dice c_hash) r) (F0 m 31 ls [.int t0]) := by
      intro t0 l2 l4 H locs hP hD hS ls hl hm
      unfold mX10_wall_31 at hm
      refine lv_istore_n (lv' := [(3, .int t0), (0, .ref (ad 0)), (1, .int a1), (2, .int l2), (4, .int l4)]) hx hb dX10_wall_31 rfl hl (by decide) rfl (fun ls hl => ?_)
      refine lv_iload_n hx hb dX10_wall_32 rfl (lv_at hl 0 rfl) ?_
      refine lv_iload_n hx hb dX10_wall_33 rfl (lv_at hl 3 rfl) ?_
      refine lv_icmp_le (tgt := 41) hx hb dX10_wall_34 (by decide) (fun cc34 => ?_) (fun cc34 => ?_)
      · have hm := k_ip cc34 hm
        refine lv_iload_n hx hb dX10_wall_41 rfl (lv_at hl 3 rfl) ?_
        refine lv_istore_n (lv' := [(2, .int l2), (3, .int t0), (0, .ref (ad 0)), (1, .int a1), (4, .int l4)]) hx hb dX10_wall_42 rfl hl (by decide) rfl (fun ls hl => ?_)
        refine lv_iinc (v := (l4 + 1)) (lv' := [(4, .int (l4 + 1)), (2, .int l2), (3, .int t0), (0, .ref (ad 0)), (1, .int a1)]) hx hb dX10_wall_43 hl (k := 4) rfl rfl (by decide) rfl (fun ls hl => ?_)
        refine lv_goto (tgt := 7) hx hb dX10_wall_46 (by decide) ?_
        exact ih7 l2 t0 (l4 + 1) _ _ hP hD hS _ (lv_sub hl [3, 4, 1, 2, 0] rfl) hm
      · have hm := k_in cc34 hm
        refine lv_iload_n hx hb dX10_wall_37 rfl (lv_at hl 0 rfl) ?_
        refine lv_goto (tgt := 42) hx hb dX10_wall_38 (by decide) ?_
        refine lv_istore_n (lv' := [(2, .int t0), (3, .int t0), (0, .ref (ad 0)), (1, .int a1), (4, .int l4)]) hx hb dX10_wall_42 rfl hl (by decide) rfl (fun ls hl => ?_)
        refine lv_iinc (v := (l4 + 1)) (lv' := [(4, .int (l4 + 1)), (2, .int t0), (3, .int t0), (0, .ref (ad 0)), (1, .int a1)]) hx hb dX10_wall_43 hl (k := 4) rfl rfl (by decide) rfl (fun ls hl => ?_)
        refine lv_goto (tgt := 7) hx hb dX10_wall_46 (by decide) ?_
        exact ih7 t0 t0 (l4 + 1) _ _ hP hD hS _ (lv_sub hl [3, 4, 1, 2, 0] rfl) hm
    intro l2 l3 l4 H locs hP hD hS ls hl hm
    unfold mX10_wall_7 at hm
    refine lv_iload hx hb dX10_wall_7 (lv_at hl 4 rfl) ?_
    refine lv_bipush (v := 16) hx hb dX10_wall_9 (by decide) ?_
    refine lv_icmp_ge (tgt := 49) hx hb dX10_wall_11 (by decide) (fun cc11 => ?_) (fun cc11 => ?_)
    · have hm := k_ip cc11 hm
      refine lv_iload_n hx hb dX10_wall_49 rfl (lv_at hl 2 rfl) ?_
      cases hm
      exact k_end_i hx hb hr hlocks hK hP hD hS dX10_wall_50
    · have hm := k_in cc11 hm
      refine lv_aload_n hx hb dX10_wall_14 rfl (lv_at hl 0 rfl) ?_
      refine lv_iload_n hx hb dX10_wall_15 rfl (lv_at hl 1 rfl) ?_
      refine lv_iload hx hb dX10_wall_16 (lv_at hl 4 rfl) ?_
      obtain ⟨r1, hc18, hm⟩ := k_bds hm
      refine k_i_s (k_rV (As := [.int a1, .int l4]) (rest := []) ⟨hx, hb, hml, hown, hts⟩ hK hN hP hD (zX10_isBlock hc18) (cwV 2 hts gX10_wall_X10_isBlock rfl rfl rfl (by decide +kernel) ⟨Nat.le_of_ble_eq_true rfl, Nat.le_of_ble_eq_true rfl⟩) rfl rfl rfl hl.1 rfl (Nat.le_of_ble_eq_true rfl) dX10_wall_18 ⟨Nat.zero_le _, Nat.zero_le _⟩) hD hS hA (fun H locs hP hD hS => ?_)
      refine lv_if_eq (tgt := 30) hx hb dX10_wall_21 (by decide) (fun cc21 => ?_) (fun cc21 => ?_)
      · have hm := k_ip cc21 hm
        refine lv_iconst (v := 0) hx hb dX10_wall_30 (by decide) ?_
        exact J_31 0 l2 l4 _ _ hP hD hS _ (lv_sub hl [0, 1, 2, 4] rfl) hm
      · have hm := k_in cc21 hm
        refine lv_iload_n hx hb dX10_wall_24 rfl (lv_at hl 3 rfl) ?_
        refine lv_iconst (v := 1) hx hb dX10_wall_25 (by decide) ?_
        refine lv_iadd hx hb dX10_wall_26 ?_
        refine lv_goto (tgt := 31) hx hb dX10_wall_27 (by decide) ?_
        exact J_31 (l3 + 1) l2 l4 _ _ hP hD hS _ (lv_sub hl [0, 1, 2, 4] rfl) hm) k_F
  unfold mX10_wall at hm
  refine lv_iconst (v := 0) hx hb dX10_wall_0 (by decide) ?_
  refine lv_istore_n (lv' := [(2, .int 0), (0, .ref (ad 0)), (1, .int a1)]) hx hb dX10_wall_1 rfl hl (by decide) rfl (fun ls hl => ?_)
  refine lv_iconst (v := 0) hx hb dX10_wall_2 (by decide) ?_
  refine lv_istore_n (lv' := [(3, .int 0), (2, .int 0), (0, .ref (ad 0)), (1, .int a1)]) hx hb dX10_wall_3 rfl hl (by decide) rfl (fun ls hl => ?_)
  refine lv_iconst (v := 0) hx hb dX10_wall_4 (by decide) ?_
  refine lv_istore (lv' := [(4, .int 0), (3, .int 0), (2, .int 0), (0, .ref (ad 0)), (1, .int a1)]) hx hb dX10_wall_5 hl (by decide) rfl (fun ls hl => ?_)
  exact J_7 0 0 0 _ _ hP hD hS _ (lv_sub hl [3, 4, 2, 1, 0] rfl) hm

abbrev rmX10_blockade : Room := { frames := 3, cells := 0, slots := 0, locals := 68 }
set_option maxHeartbeats 4000000 in
set_option maxRecDepth 100000 in
theorem zX10_blockade {l : Launch} {D : va_G} {cI cJ cC cG : ClassId} {sz : Nat} {ad : Nat → Nat} {c_s : Nat → Int32} {c_before : Nat → Int32} {c_known : Int32} {c_kept : Nat → Int32} {c_isKept : Bool} {c_aside : Nat → Int32} {c_buffer : Nat → Int32} {c_length : Int32} {c_thrown : Int32} {c_laid : Nat → Int32} {c_spot : Int32} {c_isWrong : Bool} {c_isHalted : Bool} {c_mine : Nat → Int64} {c_theirs : Nat → Int64} {c_many : Int32} {c_from0 : Nat → Int64} {c_from1 : Nat → Int64} {c_dice : Nat → Int32} {c_hash : Int64} {a1 : Int32} {r : Int32} {c_thrown' : Int32} (hm : mX10_blockade c_s c_thrown a1 = some (r, c_thrown')) : k_Mi l yX10_blockade wsX10_blockade rmX10_blockade D (kT cI cJ cC cG) sz ([.ref (ad 0), .int a1] : List Value) (wM cI cJ ad c_s c_before c_known c_kept c_isKept c_aside c_buffer c_length c_thrown c_laid c_spot c_isWrong c_isHalted c_mine c_theirs c_many c_from0 c_from1 c_dice c_hash) (wM cI cJ ad c_s c_before c_known c_kept c_isKept c_aside c_buffer c_length c_thrown' c_laid c_spot c_isWrong c_isHalted c_mine c_theirs c_many c_from0 c_from1 c_dice c_hash) r := by
  refine k_st_i (cc := cX10_blockade) (maxL := 2) (by decide) rfl (Nat.le_of_ble_eq_true rfl) ?_
  intro p e z m below meth c A hx hb hr hml hts hown hlocks hsz hN hA hK hP hD hS ls hl
  have hown : z.vm.findClass RX10 = some m.cls := hown
  have hl : lv_has ls 2 [(0, .ref (ad 0)), (1, .int a1)] := hl
  unfold mX10_blockade at hm
  refine lv_aload_n hx hb dX10_blockade_0 rfl (lv_at hl 0 rfl) ?_
  refine lv_iload_n hx hb dX10_blockade_1 rfl (lv_at hl 1 rfl) ?_
  refine lv_iconst (v := 0) hx hb dX10_blockade_2 (by decide) ?_
  obtain ⟨r1, w2, hc3, hm⟩ := k_bd2s hm
  refine k_i_s (k_rV (As := [.int a1, .int 0]) (rest := []) ⟨hx, hb, hml, hown, hts⟩ hK hN hP hD (zX10_isThere hc3) (cwV 2 hts gX10_blockade_X10_isThere rfl rfl rfl (by decide +kernel) ⟨Nat.le_of_ble_eq_true rfl, Nat.le_of_ble_eq_true rfl⟩) rfl rfl rfl hl.1 rfl (Nat.le_of_ble_eq_true rfl) dX10_blockade_3 ⟨Nat.zero_le _, Nat.zero_le _⟩) hD hS hA (fun H locs hP hD hS => ?_)
  refine lv_if_eq (tgt := 17) hx hb dX10_blockade_6 (by decide) (fun cc6 => ?_) (fun cc6 => ?_)
  · have hm := k_ip cc6 hm
    refine lv_iconst (v := 0) hx hb dX10_blockade_17 (by decide) ?_
    cases hm
    exact k_end_i hx hb hr hlocks hK hP hD hS dX10_blockade_18
  · have hm := k_in cc6 hm
    refine lv_aload_n hx hb dX10_blockade_9 rfl (lv_at hl 0 rfl) ?_
    refine lv_iload_n hx hb dX10_blockade_10 rfl (lv_at hl 1 rfl) ?_
    obtain ⟨r3, hc11, hm⟩ := k_bds hm
    refine k_i_s (k_rV (As := [.int a1]) (rest := []) ⟨hx, hb, hml, hown, hts⟩ hK hN hP hD (zX10_wall hc11) (cwV 1 hts gX10_blockade_X10_wall rfl rfl rfl (by decide +kernel) ⟨Nat.le_of_ble_eq_true rfl, Nat.le_of_ble_eq_true rfl⟩) rfl rfl rfl hl.1 rfl (Nat.le_of_ble_eq_true rfl) dX10_blockade_11 ⟨Nat.zero_le _, Nat.zero_le _⟩) hD hS hA (fun H locs hP hD hS => ?_)
    refine lv_goto (tgt := 18) hx hb dX10_blockade_14 (by decide) ?_
    cases hm
    exact k_end_i hx hb hr hlocks hK hP hD hS dX10_blockade_18

abbrev rmX10_stake : Room := { frames := 0, cells := 0, slots := 0, locals := 0 }
set_option maxHeartbeats 4000000 in
set_option maxRecDepth 100000 in
theorem zX10_stake {l : Launch} {D : va_G} {cI cJ cC cG : ClassId} {sz : Nat} {ad : Nat → Nat} {c_s : Nat → Int32} {c_before : Nat → Int32} {c_known : Int32} {c_kept : Nat → Int32} {c_isKept : Bool} {c_aside : Nat → Int32} {c_buffer : Nat → Int32} {c_length : Int32} {c_thrown : Int32} {c_laid : Nat → Int32} {c_spot : Int32} {c_isWrong : Bool} {c_isHalted : Bool} {c_mine : Nat → Int64} {c_theirs : Nat → Int64} {c_many : Int32} {c_from0 : Nat → Int64} {c_from1 : Nat → Int64} {c_dice : Nat → Int32} {c_hash : Int64} {r : Int32} {c_thrown' : Int32} (hm : mX10_stake c_s c_thrown = some (r, c_thrown')) : k_Mi l yX10_stake wsX10_stake rmX10_stake D (kT cI cJ cC cG) sz ([.ref (ad 0)] : List Value) (wM cI cJ ad c_s c_before c_known c_kept c_isKept c_aside c_buffer c_length c_thrown c_laid c_spot c_isWrong c_isHalted c_mine c_theirs c_many c_from0 c_from1 c_dice c_hash) (wM cI cJ ad c_s c_before c_known c_kept c_isKept c_aside c_buffer c_length c_thrown' c_laid c_spot c_isWrong c_isHalted c_mine c_theirs c_many c_from0 c_from1 c_dice c_hash) r := by
  refine k_st_i (cc := cX10_stake) (maxL := 1) (by decide) rfl (Nat.le_of_ble_eq_true rfl) ?_
  intro p e z m below meth c A hx hb hr hml hts hown hlocks hsz hN hA hK hP hD hS ls hl
  have hown : z.vm.findClass RX10 = some m.cls := hown
  have hinX10 : ∀ w ∈ wsX100, w ∈ wsX10_stake := by decide +kernel
  have fl7 := hts (.fieldLink RX10 7 "MagpieRunsModel" "s" "[I") (by decide +kernel)
  have fl48 := hts (.fieldLink RX10 48 "MagpieRunsModel" "thrown" "I") (by decide +kernel)
  have hl : lv_has ls 1 [(0, .ref (ad 0))] := hl
  unfold mX10_stake at hm
  refine lv_aload_n hx hb dX10_stake_0 rfl (lv_at hl 0 rfl) ?_
  refine lv_iconst (v := 0) hx hb dX10_stake_1 (by decide) ?_
  refine va_put (D := D) (ci := 6) (v := .int 0) (ty := .int) (C := RX10) (T := TX10) (N := 20) hx hb hts hinX10 tyX10 tyX10_ok nmX10 hown hK hP hD hS 0 rfl rfl 8 (by decide) fl48 (fun _ h9 => h9) rfl (by decide +kernel) rfl rfl (Nat.le_of_ble_eq_true rfl) dX10_stake_2 (fun H locs hP hD hS => ?_)
  have hP : va_P D vwCl (wM cI cJ ad c_s c_before c_known c_kept c_isKept c_aside c_buffer c_length 0 c_laid c_spot c_isWrong c_isHalted c_mine c_theirs c_many c_from0 c_from1 c_dice c_hash) H := hP
  have hD : va_D A (wM cI cJ ad c_s c_before c_known c_kept c_isKept c_aside c_buffer c_length 0 c_laid c_spot c_isWrong c_isHalted c_mine c_theirs c_many c_from0 c_from1 c_dice c_hash) := hD
  refine lv_aload_n hx hb dX10_stake_5 rfl (lv_at hl 0 rfl) ?_
  refine va_get (D := D) (ci := 6) (v := .ref (ad 1)) (C := RX10) (T := TX10) (N := 20) hx hb hts hinX10 hown hK hP 0 rfl rfl 0 (by decide) fl7 (fun _ h9 => h9) rfl dX10_stake_6 ?_
  refine lv_bipush (v := 43) hx hb dX10_stake_9 (by decide) ?_
  refine k_iaC hx hb hK hP 1 0 rfl rfl kl_43 ki_43_51 dX10_stake_11 ?_
  cases hm
  exact k_end_i hx hb hr hlocks hK hP hD hS dX10_stake_12

abbrev rmX10_cubeOf : Room := { frames := 0, cells := 0, slots := 0, locals := 0 }
set_option maxHeartbeats 4000000 in
set_option maxRecDepth 100000 in
theorem zX10_cubeOf {l : Launch} {D : va_G} {cI cJ cC cG : ClassId} {sz : Nat} {ad : Nat → Nat} {c_s : Nat → Int32} {c_before : Nat → Int32} {c_known : Int32} {c_kept : Nat → Int32} {c_isKept : Bool} {c_aside : Nat → Int32} {c_buffer : Nat → Int32} {c_length : Int32} {c_thrown : Int32} {c_laid : Nat → Int32} {c_spot : Int32} {c_isWrong : Bool} {c_isHalted : Bool} {c_mine : Nat → Int64} {c_theirs : Nat → Int64} {c_many : Int32} {c_from0 : Nat → Int64} {c_from1 : Nat → Int64} {c_dice : Nat → Int32} {c_hash : Int64} {r : Int32} {c_thrown' : Int32} (hm : mX10_cubeOf c_s c_thrown = some (r, c_thrown')) : k_Mi l yX10_cubeOf wsX10_cubeOf rmX10_cubeOf D (kT cI cJ cC cG) sz ([.ref (ad 0)] : List Value) (wM cI cJ ad c_s c_before c_known c_kept c_isKept c_aside c_buffer c_length c_thrown c_laid c_spot c_isWrong c_isHalted c_mine c_theirs c_many c_from0 c_from1 c_dice c_hash) (wM cI cJ ad c_s c_before c_known c_kept c_isKept c_aside c_buffer c_length c_thrown' c_laid c_spot c_isWrong c_isHalted c_mine c_theirs c_many c_from0 c_from1 c_dice c_hash) r := by
  refine k_st_i (cc := cX10_cubeOf) (maxL := 1) (by decide) rfl (Nat.le_of_ble_eq_true rfl) ?_
  intro p e z m below meth c A hx hb hr hml hts hown hlocks hsz hN hA hK hP hD hS ls hl
  have hown : z.vm.findClass RX10 = some m.cls := hown
  have hinX10 : ∀ w ∈ wsX100, w ∈ wsX10_cubeOf := by decide +kernel
  have fl7 := hts (.fieldLink RX10 7 "MagpieRunsModel" "s" "[I") (by decide +kernel)
  have fl48 := hts (.fieldLink RX10 48 "MagpieRunsModel" "thrown" "I") (by decide +kernel)
  have hl : lv_has ls 1 [(0, .ref (ad 0))] := hl
  unfold mX10_cubeOf at hm
  refine lv_aload_n hx hb dX10_cubeOf_0 rfl (lv_at hl 0 rfl) ?_
  refine lv_iconst (v := 0) hx hb dX10_cubeOf_1 (by decide) ?_
  refine va_put (D := D) (ci := 6) (v := .int 0) (ty := .int) (C := RX10) (T := TX10) (N := 20) hx hb hts hinX10 tyX10 tyX10_ok nmX10 hown hK hP hD hS 0 rfl rfl 8 (by decide) fl48 (fun _ h9 => h9) rfl (by decide +kernel) rfl rfl (Nat.le_of_ble_eq_true rfl) dX10_cubeOf_2 (fun H locs hP hD hS => ?_)
  have hP : va_P D vwCl (wM cI cJ ad c_s c_before c_known c_kept c_isKept c_aside c_buffer c_length 0 c_laid c_spot c_isWrong c_isHalted c_mine c_theirs c_many c_from0 c_from1 c_dice c_hash) H := hP
  have hD : va_D A (wM cI cJ ad c_s c_before c_known c_kept c_isKept c_aside c_buffer c_length 0 c_laid c_spot c_isWrong c_isHalted c_mine c_theirs c_many c_from0 c_from1 c_dice c_hash) := hD
  refine lv_aload_n hx hb dX10_cubeOf_5 rfl (lv_at hl 0 rfl) ?_
  refine va_get (D := D) (ci := 6) (v := .ref (ad 1)) (C := RX10) (T := TX10) (N := 20) hx hb hts hinX10 hown hK hP 0 rfl rfl 0 (by decide) fl7 (fun _ h9 => h9) rfl dX10_cubeOf_6 ?_
  refine lv_bipush (v := 44) hx hb dX10_cubeOf_9 (by decide) ?_
  refine k_iaC hx hb hK hP 1 0 rfl rfl kl_44 ki_44_51 dX10_cubeOf_11 ?_
  cases hm
  exact k_end_i hx hb hr hlocks hK hP hD hS dX10_cubeOf_12

abbrev rmX10_score : Room := { frames := 3, cells := 0, slots := 0, locals := 64 }
set_option maxHeartbeats 4000000 in
set_option maxRecDepth 100000 in
theorem zX10_score {l : Launch} {D : va_G} {cI cJ cC cG : ClassId} {sz : Nat} {ad : Nat → Nat} {c_s : Nat → Int32} {c_before : Nat → Int32} {c_known : Int32} {c_kept : Nat → Int32} {c_isKept : Bool} {c_aside : Nat → Int32} {c_buffer : Nat → Int32} {c_length : Int32} {c_thrown : Int32} {c_laid : Nat → Int32} {c_spot : Int32} {c_isWrong : Bool} {c_isHalted : Bool} {c_mine : Nat → Int64} {c_theirs : Nat → Int64} {c_many : Int32} {c_from0 : Nat → Int64} {c_from1 : Nat → Int64} {c_dice : Nat → Int32} {c_hash : Int64} {a1 : Int32} {r : Int32} {c_thrown' : Int32} (hm : mX10_score c_s c_thrown a1 = some (r, c_thrown')) : k_Mi l yX10_score wsX10_score rmX10_score D (kT cI cJ cC cG) sz ([.ref (ad 0), .int a1] : List Value) (wM cI cJ ad c_s c_before c_known c_kept c_isKept c_aside c_buffer c_length c_thrown c_laid c_spot c_isWrong c_isHalted c_mine c_theirs c_many c_from0 c_from1 c_dice c_hash) (wM cI cJ ad c_s c_before c_known c_kept c_isKept c_aside c_buffer c_length c_thrown' c_laid c_spot c_isWrong c_isHalted c_mine c_theirs c_many c_from0 c_from1 c_dice c_hash) r := by
  refine k_st_i (cc := cX10_score) (maxL := 2) (by decide) rfl (Nat.le_of_ble_eq_true rfl) ?_
  intro p e z m below meth c A hx hb hr hml hts hown hlocks hsz hN hA hK hP hD hS ls hl
  have hown : z.vm.findClass RX10 = some m.cls := hown
  have hinX10 : ∀ w ∈ wsX100, w ∈ wsX10_score := by decide +kernel
  have fl7 := hts (.fieldLink RX10 7 "MagpieRunsModel" "s" "[I") (by decide +kernel)
  have hl : lv_has ls 2 [(0, .ref (ad 0)), (1, .int a1)] := hl
  unfold mX10_score at hm
  refine lv_aload_n hx hb dX10_score_0 rfl (lv_at hl 0 rfl) ?_
  refine lv_iload_n hx hb dX10_score_1 rfl (lv_at hl 1 rfl) ?_
  refine lv_iconst (v := 0) hx hb dX10_score_2 (by decide) ?_
  obtain ⟨r1, w2, hc3, hm⟩ := k_bd2s hm
  refine k_i_s (k_rV (As := [.int a1, .int 0]) (rest := []) ⟨hx, hb, hml, hown, hts⟩ hK hN hP hD (zX10_isThere hc3) (cwV 2 hts gX10_score_X10_isThere rfl rfl rfl (by decide +kernel) ⟨Nat.le_of_ble_eq_true rfl, Nat.le_of_ble_eq_true rfl⟩) rfl rfl rfl hl.1 rfl (Nat.le_of_ble_eq_true rfl) dX10_score_3 ⟨Nat.zero_le _, Nat.zero_le _⟩) hD hS hA (fun H locs hP hD hS => ?_)
  refine lv_if_eq (tgt := 21) hx hb dX10_score_6 (by decide) (fun cc6 => ?_) (fun cc6 => ?_)
  · have hm := k_ip cc6 hm
    refine lv_iconst (v := 0) hx hb dX10_score_21 (by decide) ?_
    cases hm
    exact k_end_i hx hb hr hlocks hK hP hD hS dX10_score_22
  · have hm := k_in cc6 hm
    refine lv_aload_n hx hb dX10_score_9 rfl (lv_at hl 0 rfl) ?_
    refine va_get (D := D) (ci := 6) (v := .ref (ad 1)) (C := RX10) (T := TX10) (N := 20) hx hb hts hinX10 hown hK hP 0 rfl rfl 0 (by decide) fl7 (fun _ h9 => h9) rfl dX10_score_10 ?_
    refine lv_bipush (v := 45) hx hb dX10_score_13 (by decide) ?_
    refine lv_iload_n hx hb dX10_score_15 rfl (lv_at hl 1 rfl) ?_
    refine lv_iadd hx hb dX10_score_16 ?_
    obtain ⟨gi17, hm⟩ := k_gs hm
    refine va_iald hx hb hK hP 1 0 rfl rfl gi17 dX10_score_17 ?_
    refine lv_goto (tgt := 22) hx hb dX10_score_18 (by decide) ?_
    cases hm
    exact k_end_i hx hb hr hlocks hK hP hD hS dX10_score_22

abbrev rmX10_hits : Room := { frames := 3, cells := 0, slots := 0, locals := 64 }
set_option maxHeartbeats 4000000 in
set_option maxRecDepth 100000 in
theorem zX10_hits {l : Launch} {D : va_G} {cI cJ cC cG : ClassId} {sz : Nat} {ad : Nat → Nat} {c_s : Nat → Int32} {c_before : Nat → Int32} {c_known : Int32} {c_kept : Nat → Int32} {c_isKept : Bool} {c_aside : Nat → Int32} {c_buffer : Nat → Int32} {c_length : Int32} {c_thrown : Int32} {c_laid : Nat → Int32} {c_spot : Int32} {c_isWrong : Bool} {c_isHalted : Bool} {c_mine : Nat → Int64} {c_theirs : Nat → Int64} {c_many : Int32} {c_from0 : Nat → Int64} {c_from1 : Nat → Int64} {c_dice : Nat → Int32} {c_hash : Int64} {a1 : Int32} {r : Int32} {c_thrown' : Int32} (hm : mX10_hits c_s c_thrown a1 = some (r, c_thrown')) : k_Mi l yX10_hits wsX10_hits rmX10_hits D (kT cI cJ cC cG) sz ([.ref (ad 0), .int a1] : List Value) (wM cI cJ ad c_s c_before c_known c_kept c_isKept c_aside c_buffer c_length c_thrown c_laid c_spot c_isWrong c_isHalted c_mine c_theirs c_many c_from0 c_from1 c_dice c_hash) (wM cI cJ ad c_s c_before c_known c_kept c_isKept c_aside c_buffer c_length c_thrown' c_laid c_spot c_isWrong c_isHalted c_mine c_theirs c_many c_from0 c_from1 c_dice c_hash) r := by
  refine k_st_i (cc := cX10_hits) (maxL := 2) (by decide) rfl (Nat.le_of_ble_eq_true rfl) ?_
  intro p e z m below meth c A hx hb hr hml hts hown hlocks hsz hN hA hK hP hD hS ls hl
  have hown : z.vm.findClass RX10 = some m.cls := hown
  have hinX10 : ∀ w ∈ wsX100, w ∈ wsX10_hits := by decide +kernel
  have fl7 := hts (.fieldLink RX10 7 "MagpieRunsModel" "s" "[I") (by decide +kernel)
  have hl : lv_has ls 2 [(0, .ref (ad 0)), (1, .int a1)] := hl
  unfold mX10_hits at hm
  refine lv_aload_n hx hb dX10_hits_0 rfl (lv_at hl 0 rfl) ?_
  refine lv_iload_n hx hb dX10_hits_1 rfl (lv_at hl 1 rfl) ?_
  refine lv_iconst (v := 0) hx hb dX10_hits_2 (by decide) ?_
  obtain ⟨r1, w2, hc3, hm⟩ := k_bd2s hm
  refine k_i_s (k_rV (As := [.int a1, .int 0]) (rest := []) ⟨hx, hb, hml, hown, hts⟩ hK hN hP hD (zX10_isThere hc3) (cwV 2 hts gX10_hits_X10_isThere rfl rfl rfl (by decide +kernel) ⟨Nat.le_of_ble_eq_true rfl, Nat.le_of_ble_eq_true rfl⟩) rfl rfl rfl hl.1 rfl (Nat.le_of_ble_eq_true rfl) dX10_hits_3 ⟨Nat.zero_le _, Nat.zero_le _⟩) hD hS hA (fun H locs hP hD hS => ?_)
  refine lv_if_eq (tgt := 21) hx hb dX10_hits_6 (by decide) (fun cc6 => ?_) (fun cc6 => ?_)
  · have hm := k_ip cc6 hm
    refine lv_iconst (v := 0) hx hb dX10_hits_21 (by decide) ?_
    cases hm
    exact k_end_i hx hb hr hlocks hK hP hD hS dX10_hits_22
  · have hm := k_in cc6 hm
    refine lv_aload_n hx hb dX10_hits_9 rfl (lv_at hl 0 rfl) ?_
    refine va_get (D := D) (ci := 6) (v := .ref (ad 1)) (C := RX10) (T := TX10) (N := 20) hx hb hts hinX10 hown hK hP 0 rfl rfl 0 (by decide) fl7 (fun _ h9 => h9) rfl dX10_hits_10 ?_
    refine lv_bipush (v := 47) hx hb dX10_hits_13 (by decide) ?_
    refine lv_iload_n hx hb dX10_hits_15 rfl (lv_at hl 1 rfl) ?_
    refine lv_iadd hx hb dX10_hits_16 ?_
    obtain ⟨gi17, hm⟩ := k_gs hm
    refine va_iald hx hb hK hP 1 0 rfl rfl gi17 dX10_hits_17 ?_
    refine lv_goto (tgt := 22) hx hb dX10_hits_18 (by decide) ?_
    cases hm
    exact k_end_i hx hb hr hlocks hK hP hD hS dX10_hits_22

abbrev rmX10_whyNoStep : Room := { frames := 8, cells := 0, slots := 0, locals := 191 }
set_option maxHeartbeats 4000000 in
set_option maxRecDepth 100000 in
theorem zX10_whyNoStep {l : Launch} {D : va_G} {cI cJ cC cG : ClassId} {sz : Nat} {ad : Nat → Nat} {c_s : Nat → Int32} {c_before : Nat → Int32} {c_known : Int32} {c_kept : Nat → Int32} {c_isKept : Bool} {c_aside : Nat → Int32} {c_buffer : Nat → Int32} {c_length : Int32} {c_thrown : Int32} {c_laid : Nat → Int32} {c_spot : Int32} {c_isWrong : Bool} {c_isHalted : Bool} {c_mine : Nat → Int64} {c_theirs : Nat → Int64} {c_many : Int32} {c_from0 : Nat → Int64} {c_from1 : Nat → Int64} {c_dice : Nat → Int32} {c_hash : Int64} {a1 : Int32} {a2 : Int32} {r : Int32} {c_s' : Nat → Int32} {c_thrown' : Int32} {c_laid' : Nat → Int32} (hm : mX10_whyNoStep c_s c_thrown c_laid a1 a2 = some (r, c_s', c_thrown', c_laid')) : k_Mi l yX10_whyNoStep wsX10_whyNoStep rmX10_whyNoStep D (kT cI cJ cC cG) sz ([.ref (ad 0), .int a1, .int a2] : List Value) (wM cI cJ ad c_s c_before c_known c_kept c_isKept c_aside c_buffer c_length c_thrown c_laid c_spot c_isWrong c_isHalted c_mine c_theirs c_many c_from0 c_from1 c_dice c_hash) (wM cI cJ ad c_s' c_before c_known c_kept c_isKept c_aside c_buffer c_length c_thrown' c_laid' c_spot c_isWrong c_isHalted c_mine c_theirs c_many c_from0 c_from1 c_dice c_hash) r := by
  refine k_st_i (cc := cX10_whyNoStep) (maxL := 3) (by decide) rfl (Nat.le_of_ble_eq_true rfl) ?_
  intro p e z m below meth c A hx hb hr hml hts hown hlocks hsz hN hA hK hP hD hS ls hl
  have hown : z.vm.findClass RX10 = some m.cls := hown
  have hinX10 : ∀ w ∈ wsX100, w ∈ wsX10_whyNoStep := by decide +kernel
  have fl48 := hts (.fieldLink RX10 48 "MagpieRunsModel" "thrown" "I") (by decide +kernel)
  have hl : lv_has ls 3 [(0, .ref (ad 0)), (1, .int a1), (2, .int a2)] := hl
  unfold mX10_whyNoStep at hm
  refine lv_aload_n hx hb dX10_whyNoStep_0 rfl (lv_at hl 0 rfl) ?_
  refine lv_iload_n hx hb dX10_whyNoStep_1 rfl (lv_at hl 1 rfl) ?_
  refine lv_iload_n hx hb dX10_whyNoStep_2 rfl (lv_at hl 2 rfl) ?_
  obtain ⟨r1, hc3, hm⟩ := k_bds hm
  refine k_i_0 (k_rS (As := [.int a1, .int a2]) (rest := [.ref (ad 0)]) ⟨hx, hb, hml, hown, hts⟩ hK hN k_P0 (k_D0 (A := A)) (zX10_fault hc3) (va_cwS 2 hts gX10_whyNoStep_X10_fault rfl rfl rfl (by decide +kernel) ⟨Nat.le_of_ble_eq_true rfl, Nat.le_of_ble_eq_true rfl⟩) rfl hl.1 rfl (Nat.le_of_ble_eq_true rfl) dX10_whyNoStep_3 ⟨Nat.zero_le _, Nat.zero_le _⟩) hP hS hA (fun H locs hP hS => ?_)
  refine va_put (D := D) (ci := 6) (v := .int r1) (ty := .int) (C := RX10) (T := TX10) (N := 20) hx hb hts hinX10 tyX10 tyX10_ok nmX10 hown hK hP hD hS 0 rfl rfl 8 (by decide) fl48 (fun _ h9 => h9) rfl (by decide +kernel) rfl rfl (Nat.le_of_ble_eq_true rfl) dX10_whyNoStep_6 (fun H locs hP hD hS => ?_)
  have hP : va_P D vwCl (wM cI cJ ad c_s c_before c_known c_kept c_isKept c_aside c_buffer c_length r1 c_laid c_spot c_isWrong c_isHalted c_mine c_theirs c_many c_from0 c_from1 c_dice c_hash) H := hP
  have hD : va_D A (wM cI cJ ad c_s c_before c_known c_kept c_isKept c_aside c_buffer c_length r1 c_laid c_spot c_isWrong c_isHalted c_mine c_theirs c_many c_from0 c_from1 c_dice c_hash) := hD
  refine lv_aload_n hx hb dX10_whyNoStep_9 rfl (lv_at hl 0 rfl) ?_
  refine va_get (D := D) (ci := 6) (v := .int r1) (C := RX10) (T := TX10) (N := 20) hx hb hts hinX10 hown hK hP 0 rfl rfl 8 (by decide) fl48 (fun _ h9 => h9) rfl dX10_whyNoStep_10 ?_
  refine lv_if_ne (tgt := 25) hx hb dX10_whyNoStep_13 (by decide) (fun cc13 => ?_) (fun cc13 => ?_)
  · have hm := k_in cc13 hm
    refine lv_iconst (v := 0) hx hb dX10_whyNoStep_25 (by decide) ?_
    cases hm
    exact k_end_i hx hb hr hlocks hK hP hD hS dX10_whyNoStep_26
  · have hm := k_ip cc13 hm
    refine lv_aload_n hx hb dX10_whyNoStep_16 rfl (lv_at hl 0 rfl) ?_
    refine lv_iload_n hx hb dX10_whyNoStep_17 rfl (lv_at hl 1 rfl) ?_
    refine lv_iload_n hx hb dX10_whyNoStep_18 rfl (lv_at hl 2 rfl) ?_
    obtain ⟨r2, w3, w4, hc19, hm⟩ := k_bd3s hm
    refine k_i_s (k_rV (As := [.int a1, .int a2]) (rest := []) ⟨hx, hb, hml, hown, hts⟩ hK hN hP hD (zX10_why hc19) (cwV 2 hts gX10_whyNoStep_X10_why rfl rfl rfl (by decide +kernel) ⟨Nat.le_of_ble_eq_true rfl, Nat.le_of_ble_eq_true rfl⟩) rfl rfl rfl hl.1 rfl (Nat.le_of_ble_eq_true rfl) dX10_whyNoStep_19 ⟨Nat.zero_le _, Nat.zero_le _⟩) hD hS hA (fun H locs hP hD hS => ?_)
    refine lv_goto (tgt := 26) hx hb dX10_whyNoStep_22 (by decide) ?_
    cases hm
    exact k_end_i hx hb hr hlocks hK hP hD hS dX10_whyNoStep_26

abbrev rmX10_possible : Room := { frames := 8, cells := 0, slots := 0, locals := 191 }
set_option maxHeartbeats 4000000 in
set_option maxRecDepth 100000 in
theorem zX10_possible {l : Launch} {D : va_G} {cI cJ cC cG : ClassId} {sz : Nat} {ad : Nat → Nat} {c_s : Nat → Int32} {c_before : Nat → Int32} {c_known : Int32} {c_kept : Nat → Int32} {c_isKept : Bool} {c_aside : Nat → Int32} {c_buffer : Nat → Int32} {c_length : Int32} {c_thrown : Int32} {c_laid : Nat → Int32} {c_spot : Int32} {c_isWrong : Bool} {c_isHalted : Bool} {c_mine : Nat → Int64} {c_theirs : Nat → Int64} {c_many : Int32} {c_from0 : Nat → Int64} {c_from1 : Nat → Int64} {c_dice : Nat → Int32} {c_hash : Int64} {r : Int32} {c_s' : Nat → Int32} {c_laid' : Nat → Int32} (hm : mX10_possible c_s c_laid = some (r, c_s', c_laid')) : k_Mi l yX10_possible wsX10_possible rmX10_possible D (kT cI cJ cC cG) sz ([.ref (ad 0)] : List Value) (wM cI cJ ad c_s c_before c_known c_kept c_isKept c_aside c_buffer c_length c_thrown c_laid c_spot c_isWrong c_isHalted c_mine c_theirs c_many c_from0 c_from1 c_dice c_hash) (wM cI cJ ad c_s' c_before c_known c_kept c_isKept c_aside c_buffer c_length c_thrown c_laid' c_spot c_isWrong c_isHalted c_mine c_theirs c_many c_from0 c_from1 c_dice c_hash) r := by
  refine k_st_i (cc := cX10_possible) (maxL := 4) (by decide) rfl (Nat.le_of_ble_eq_true rfl) ?_
  intro p e z m below meth c A hx hb hr hml hts hown hlocks hsz hN hA hK hP hD hS ls hl
  have hown : z.vm.findClass RX10 = some m.cls := hown
  have hl : lv_has ls 4 [(0, .ref (ad 0))] := hl
  have J_4 := k_loop (z := fun _ _ _ _ => none) (st := mX10_possible_4) (fun k4 : (Int32) → (Int32) → (Nat → Int32) → (Nat → Int32) → Option (Int32 × (Nat → Int32) × (Nat → Int32)) => ∀ (l1 : Int32) (l2 : Int32) (c_s : Nat → Int32) (c_laid : Nat → Int32) (H : Heap) (locs : List Loc), va_P D vwCl (wM cI cJ ad c_s c_before c_known c_kept c_isKept c_aside c_buffer c_length c_thrown c_laid c_spot c_isWrong c_isHalted c_mine c_theirs c_many c_from0 c_from1 c_dice c_hash) H → va_D A (wM cI cJ ad c_s c_before c_known c_kept c_isKept c_aside c_buffer c_length c_thrown c_laid c_spot c_isWrong c_isHalted c_mine c_theirs c_many c_from0 c_from1 c_dice c_hash) → va_S A z.heap H locs → ∀ ls : Array Slot, lv_has ls 4 [(0, .ref (ad 0)), (1, .int l1), (2, .int l2)] → k4 l1 l2 c_s c_laid = some (r, c_s', c_laid') → W p l e rmX10_possible z m ([.ref (ad 0)] : List Value).toArray below meth c H locs 0 0 (k_Qi below ([.ref (ad 0)] : List Value) D (kT cI cJ cC cG) z A (wM cI cJ ad c_s' c_before c_known c_kept c_isKept c_aside c_buffer c_length c_thrown c_laid' c_spot c_isWrong c_isHalted c_mine c_theirs c_many c_from0 c_from1 c_dice c_hash) r) (F0 m 4 ls [])) (by intros; rename_i h; cases h) (by
    intro k4 ih4
    have J_12 := k_loop (z := fun _ _ _ _ _ => none) (st := mX10_possible_12 k4) (fun k12 : (Int32) → (Int32) → (Int32) → (Nat → Int32) → (Nat → Int32) → Option (Int32 × (Nat → Int32) × (Nat → Int32)) => ∀ (l1 : Int32) (l2 : Int32) (l3 : Int32) (c_s : Nat → Int32) (c_laid : Nat → Int32) (H : Heap) (locs : List Loc), va_P D vwCl (wM cI cJ ad c_s c_before c_known c_kept c_isKept c_aside c_buffer c_length c_thrown c_laid c_spot c_isWrong c_isHalted c_mine c_theirs c_many c_from0 c_from1 c_dice c_hash) H → va_D A (wM cI cJ ad c_s c_before c_known c_kept c_isKept c_aside c_buffer c_length c_thrown c_laid c_spot c_isWrong c_isHalted c_mine c_theirs c_many c_from0 c_from1 c_dice c_hash) → va_S A z.heap H locs → ∀ ls : Array Slot, lv_has ls 4 [(0, .ref (ad 0)), (1, .int l1), (2, .int l2), (3, .int l3)] → k12 l1 l2 l3 c_s c_laid = some (r, c_s', c_laid') → W p l e rmX10_possible z m ([.ref (ad 0)] : List Value).toArray below meth c H locs 0 0 (k_Qi below ([.ref (ad 0)] : List Value) D (kT cI cJ cC cG) z A (wM cI cJ ad c_s' c_before c_known c_kept c_isKept c_aside c_buffer c_length c_thrown c_laid' c_spot c_isWrong c_isHalted c_mine c_theirs c_many c_from0 c_from1 c_dice c_hash) r) (F0 m 12 ls [])) (by intros; rename_i h; cases h) (by
      intro k12 ih12
      intro l1 l2 l3 c_s c_laid H locs hP hD hS ls hl hm
      unfold mX10_possible_12 at hm
      refine lv_iload_n hx hb dX10_possible_12 rfl (lv_at hl 3 rfl) ?_
      refine lv_bipush (v := 16) hx hb dX10_possible_13 (by decide) ?_
      refine lv_icmp_ge (tgt := 41) hx hb dX10_possible_15 (by decide) (fun cc15 => ?_) (fun cc15 => ?_)
      · have hm := k_ip cc15 hm
        refine lv_iinc (v := (l2 + 1)) (lv' := [(2, .int (l2 + 1)), (0, .ref (ad 0)), (1, .int l1), (3, .int l3)]) hx hb dX10_possible_41 hl (k := 2) rfl rfl (by decide) rfl (fun ls hl => ?_)
        refine lv_goto (tgt := 4) hx hb dX10_possible_44 (by decide) ?_
        exact ih4 l1 (l2 + 1) c_s c_laid _ _ hP hD hS _ (lv_sub hl [1, 2, 0] rfl) hm
      · have hm := k_in cc15 hm
        refine lv_iload_n hx hb dX10_possible_18 rfl (lv_at hl 1 rfl) ?_
        refine lv_aload_n hx hb dX10_possible_19 rfl (lv_at hl 0 rfl) ?_
        refine lv_iload_n hx hb dX10_possible_20 rfl (lv_at hl 3 rfl) ?_
        refine lv_iload_n hx hb dX10_possible_21 rfl (lv_at hl 2 rfl) ?_
        obtain ⟨r1, w2, w3, hc22, hm⟩ := k_bd3s hm
        refine k_i_s (k_rV (As := [.int l3, .int l2]) (rest := [.int l1]) ⟨hx, hb, hml, hown, hts⟩ hK hN hP hD (zX10_why hc22) (cwV 2 hts gX10_possible_X10_why rfl rfl rfl (by decide +kernel) ⟨Nat.le_of_ble_eq_true rfl, Nat.le_of_ble_eq_true rfl⟩) rfl rfl rfl hl.1 rfl (Nat.le_of_ble_eq_true rfl) dX10_possible_22 ⟨Nat.zero_le _, Nat.zero_le _⟩) hD hS hA (fun H locs hP hD hS => ?_)
        refine lv_if_ne (tgt := 32) hx hb dX10_possible_25 (by decide) (fun cc25 => ?_) (fun cc25 => ?_)
        · have hm := k_in cc25 hm
          refine lv_iconst (v := 0) hx hb dX10_possible_32 (by decide) ?_
          refine lv_iadd hx hb dX10_possible_33 ?_
          refine lv_istore_n (lv' := [(1, .int (l1 + 0)), (0, .ref (ad 0)), (2, .int l2), (3, .int l3)]) hx hb dX10_possible_34 rfl hl (by decide) rfl (fun ls hl => ?_)
          refine lv_iinc (v := (l3 + 1)) (lv' := [(3, .int (l3 + 1)), (1, .int (l1 + 0)), (0, .ref (ad 0)), (2, .int l2)]) hx hb dX10_possible_35 hl (k := 3) rfl rfl (by decide) rfl (fun ls hl => ?_)
          refine lv_goto (tgt := 12) hx hb dX10_possible_38 (by decide) ?_
          exact ih12 (l1 + 0) l2 (l3 + 1) w2 w3 _ _ hP hD hS _ (lv_sub hl [2, 1, 3, 0] rfl) hm
        · have hm := k_ip cc25 hm
          refine lv_iconst (v := 1) hx hb dX10_possible_28 (by decide) ?_
          refine lv_goto (tgt := 33) hx hb dX10_possible_29 (by decide) ?_
          refine lv_iadd hx hb dX10_possible_33 ?_
          refine lv_istore_n (lv' := [(1, .int (l1 + 1)), (0, .ref (ad 0)), (2, .int l2), (3, .int l3)]) hx hb dX10_possible_34 rfl hl (by decide) rfl (fun ls hl => ?_)
          refine lv_iinc (v := (l3 + 1)) (lv' := [(3, .int (l3 + 1)), (1, .int (l1 + 1)), (0, .ref (ad 0)), (2, .int l2)]) hx hb dX10_possible_35 hl (k := 3) rfl rfl (by decide) rfl (fun ls hl => ?_)
          refine lv_goto (tgt := 12) hx hb dX10_possible_38 (by decide) ?_
          exact ih12 (l1 + 1) l2 (l3 + 1) w2 w3 _ _ hP hD hS _ (lv_sub hl [2, 1, 3, 0] rfl) hm) k_F
    intro l1 l2 c_s c_laid H locs hP hD hS ls hl hm
    unfold mX10_possible_4 at hm
    refine lv_iload_n hx hb dX10_possible_4 rfl (lv_at hl 2 rfl) ?_
    refine lv_bipush (v := 6) hx hb dX10_possible_5 (by decide) ?_
    refine lv_icmp_gt (tgt := 47) hx hb dX10_possible_7 (by decide) (fun cc7 => ?_) (fun cc7 => ?_)
    · have hm := k_ip cc7 hm
      refine lv_iload_n hx hb dX10_possible_47 rfl (lv_at hl 1 rfl) ?_
      cases hm
      exact k_end_i hx hb hr hlocks hK hP hD hS dX10_possible_48
    · have hm := k_in cc7 hm
      refine lv_iconst (v := (-1)) hx hb dX10_possible_10 (by decide) ?_
      refine lv_istore_n (lv' := [(3, .int (-1)), (0, .ref (ad 0)), (1, .int l1), (2, .int l2)]) hx hb dX10_possible_11 rfl hl (by decide) rfl (fun ls hl => ?_)
      exact J_12 l1 l2 (-1) c_s c_laid _ _ hP hD hS _ (lv_sub hl [1, 2, 3, 0] rfl) hm) k_F
  unfold mX10_possible at hm
  refine lv_iconst (v := 0) hx hb dX10_possible_0 (by decide) ?_
  refine lv_istore_n (lv' := [(1, .int 0), (0, .ref (ad 0))]) hx hb dX10_possible_1 rfl hl (by decide) rfl (fun ls hl => ?_)
  refine lv_iconst (v := 1) hx hb dX10_possible_2 (by decide) ?_
  refine lv_istore_n (lv' := [(2, .int 1), (1, .int 0), (0, .ref (ad 0))]) hx hb dX10_possible_3 rfl hl (by decide) rfl (fun ls hl => ?_)
  exact J_4 0 1 c_s c_laid _ _ hP hD hS _ (lv_sub hl [2, 1, 0] rfl) hm

abbrev rmX10_possibleSteps : Room := { frames := 9, cells := 0, slots := 0, locals := 214 }
set_option maxHeartbeats 4000000 in
set_option maxRecDepth 100000 in
theorem zX10_possibleSteps {l : Launch} {D : va_G} {cI cJ cC cG : ClassId} {sz : Nat} {ad : Nat → Nat} {c_s : Nat → Int32} {c_before : Nat → Int32} {c_known : Int32} {c_kept : Nat → Int32} {c_isKept : Bool} {c_aside : Nat → Int32} {c_buffer : Nat → Int32} {c_length : Int32} {c_thrown : Int32} {c_laid : Nat → Int32} {c_spot : Int32} {c_isWrong : Bool} {c_isHalted : Bool} {c_mine : Nat → Int64} {c_theirs : Nat → Int64} {c_many : Int32} {c_from0 : Nat → Int64} {c_from1 : Nat → Int64} {c_dice : Nat → Int32} {c_hash : Int64} {r : Int32} {c_s' : Nat → Int32} {c_thrown' : Int32} {c_laid' : Nat → Int32} (hm : mX10_possibleSteps c_s c_thrown c_laid = some (r, c_s', c_thrown', c_laid')) : k_Mi l yX10_possibleSteps wsX10_possibleSteps rmX10_possibleSteps D (kT cI cJ cC cG) sz ([.ref (ad 0)] : List Value) (wM cI cJ ad c_s c_before c_known c_kept c_isKept c_aside c_buffer c_length c_thrown c_laid c_spot c_isWrong c_isHalted c_mine c_theirs c_many c_from0 c_from1 c_dice c_hash) (wM cI cJ ad c_s' c_before c_known c_kept c_isKept c_aside c_buffer c_length c_thrown' c_laid' c_spot c_isWrong c_isHalted c_mine c_theirs c_many c_from0 c_from1 c_dice c_hash) r := by
  refine k_st_i (cc := cX10_possibleSteps) (maxL := 1) (by decide) rfl (Nat.le_of_ble_eq_true rfl) ?_
  intro p e z m below meth c A hx hb hr hml hts hown hlocks hsz hN hA hK hP hD hS ls hl
  have hown : z.vm.findClass RX10 = some m.cls := hown
  have hinX10 : ∀ w ∈ wsX100, w ∈ wsX10_possibleSteps := by decide +kernel
  have fl48 := hts (.fieldLink RX10 48 "MagpieRunsModel" "thrown" "I") (by decide +kernel)
  have hl : lv_has ls 1 [(0, .ref (ad 0))] := hl
  unfold mX10_possibleSteps at hm
  refine lv_aload_n hx hb dX10_possibleSteps_0 rfl (lv_at hl 0 rfl) ?_
  refine lv_iconst (v := 0) hx hb dX10_possibleSteps_1 (by decide) ?_
  refine va_put (D := D) (ci := 6) (v := .int 0) (ty := .int) (C := RX10) (T := TX10) (N := 20) hx hb hts hinX10 tyX10 tyX10_ok nmX10 hown hK hP hD hS 0 rfl rfl 8 (by decide) fl48 (fun _ h9 => h9) rfl (by decide +kernel) rfl rfl (Nat.le_of_ble_eq_true rfl) dX10_possibleSteps_2 (fun H locs hP hD hS => ?_)
  have hP : va_P D vwCl (wM cI cJ ad c_s c_before c_known c_kept c_isKept c_aside c_buffer c_length 0 c_laid c_spot c_isWrong c_isHalted c_mine c_theirs c_many c_from0 c_from1 c_dice c_hash) H := hP
  have hD : va_D A (wM cI cJ ad c_s c_before c_known c_kept c_isKept c_aside c_buffer c_length 0 c_laid c_spot c_isWrong c_isHalted c_mine c_theirs c_many c_from0 c_from1 c_dice c_hash) := hD
  refine lv_aload_n hx hb dX10_possibleSteps_5 rfl (lv_at hl 0 rfl) ?_
  obtain ⟨r1, w2, w3, hc6, hm⟩ := k_bd3s hm
  refine k_i_s (k_rV (As := []) (rest := []) ⟨hx, hb, hml, hown, hts⟩ hK hN hP hD (zX10_possible hc6) (cwV 0 hts gX10_possibleSteps_X10_possible rfl rfl rfl (by decide +kernel) ⟨Nat.le_of_ble_eq_true rfl, Nat.le_of_ble_eq_true rfl⟩) rfl rfl rfl hl.1 rfl (Nat.le_of_ble_eq_true rfl) dX10_possibleSteps_6 ⟨Nat.zero_le _, Nat.zero_le _⟩) hD hS hA (fun H locs hP hD hS => ?_)
  cases hm
  exact k_end_i hx hb hr hlocks hK hP hD hS dX10_possibleSteps_9

abbrev rmX10_reach : Room := { frames := 7, cells := 0, slots := 0, locals := 168 }
set_option maxHeartbeats 4000000 in
set_option maxRecDepth 100000 in
theorem zX10_reach {l : Launch} {D : va_G} {cI cJ cC cG : ClassId} {sz : Nat} {ad : Nat → Nat} {c_s : Nat → Int32} {c_before : Nat → Int32} {c_known : Int32} {c_kept : Nat → Int32} {c_isKept : Bool} {c_aside : Nat → Int32} {c_buffer : Nat → Int32} {c_length : Int32} {c_thrown : Int32} {c_laid : Nat → Int32} {c_spot : Int32} {c_isWrong : Bool} {c_isHalted : Bool} {c_mine : Nat → Int64} {c_theirs : Nat → Int64} {c_many : Int32} {c_from0 : Nat → Int64} {c_from1 : Nat → Int64} {c_dice : Nat → Int32} {c_hash : Int64} {r : Int32} {c_s' : Nat → Int32} {c_thrown' : Int32} {c_laid' : Nat → Int32} (hm : mX10_reach c_s c_thrown c_laid = some (r, c_s', c_thrown', c_laid')) : k_Mi l yX10_reach wsX10_reach rmX10_reach D (kT cI cJ cC cG) sz ([.ref (ad 0)] : List Value) (wM cI cJ ad c_s c_before c_known c_kept c_isKept c_aside c_buffer c_length c_thrown c_laid c_spot c_isWrong c_isHalted c_mine c_theirs c_many c_from0 c_from1 c_dice c_hash) (wM cI cJ ad c_s' c_before c_known c_kept c_isKept c_aside c_buffer c_length c_thrown' c_laid' c_spot c_isWrong c_isHalted c_mine c_theirs c_many c_from0 c_from1 c_dice c_hash) r := by
  refine k_st_i (cc := cX10_reach) (maxL := 1) (by decide) rfl (Nat.le_of_ble_eq_true rfl) ?_
  intro p e z m below meth c A hx hb hr hml hts hown hlocks hsz hN hA hK hP hD hS ls hl
  have hown : z.vm.findClass RX10 = some m.cls := hown
  have hinX10 : ∀ w ∈ wsX100, w ∈ wsX10_reach := by decide +kernel
  have fl48 := hts (.fieldLink RX10 48 "MagpieRunsModel" "thrown" "I") (by decide +kernel)
  have hl : lv_has ls 1 [(0, .ref (ad 0))] := hl
  unfold mX10_reach at hm
  refine lv_aload_n hx hb dX10_reach_0 rfl (lv_at hl 0 rfl) ?_
  refine lv_iconst (v := 0) hx hb dX10_reach_1 (by decide) ?_
  refine va_put (D := D) (ci := 6) (v := .int 0) (ty := .int) (C := RX10) (T := TX10) (N := 20) hx hb hts hinX10 tyX10 tyX10_ok nmX10 hown hK hP hD hS 0 rfl rfl 8 (by decide) fl48 (fun _ h9 => h9) rfl (by decide +kernel) rfl rfl (Nat.le_of_ble_eq_true rfl) dX10_reach_2 (fun H locs hP hD hS => ?_)
  have hP : va_P D vwCl (wM cI cJ ad c_s c_before c_known c_kept c_isKept c_aside c_buffer c_length 0 c_laid c_spot c_isWrong c_isHalted c_mine c_theirs c_many c_from0 c_from1 c_dice c_hash) H := hP
  have hD : va_D A (wM cI cJ ad c_s c_before c_known c_kept c_isKept c_aside c_buffer c_length 0 c_laid c_spot c_isWrong c_isHalted c_mine c_theirs c_many c_from0 c_from1 c_dice c_hash) := hD
  refine lv_aload_n hx hb dX10_reach_5 rfl (lv_at hl 0 rfl) ?_
  obtain ⟨r1, w2, w3, hc6, hm⟩ := k_bd3s hm
  refine k_i_s (k_rV (As := []) (rest := []) ⟨hx, hb, hml, hown, hts⟩ hK hN hP hD (zX10_reaches hc6) (cwV 0 hts gX10_reach_X10_reaches rfl rfl rfl (by decide +kernel) ⟨Nat.le_of_ble_eq_true rfl, Nat.le_of_ble_eq_true rfl⟩) rfl rfl rfl hl.1 rfl (Nat.le_of_ble_eq_true rfl) dX10_reach_6 ⟨Nat.zero_le _, Nat.zero_le _⟩) hD hS hA (fun H locs hP hD hS => ?_)
  cases hm
  exact k_end_i hx hb hr hlocks hK hP hD hS dX10_reach_9

abbrev rmX10_told : Room := { frames := 0, cells := 0, slots := 0, locals := 0 }
set_option maxHeartbeats 4000000 in
set_option maxRecDepth 100000 in
theorem zX10_told {l : Launch} {D : va_G} {cI cJ cC cG : ClassId} {sz : Nat} {ad : Nat → Nat} {c_s : Nat → Int32} {c_before : Nat → Int32} {c_known : Int32} {c_kept : Nat → Int32} {c_isKept : Bool} {c_aside : Nat → Int32} {c_buffer : Nat → Int32} {c_length : Int32} {c_thrown : Int32} {c_laid : Nat → Int32} {c_spot : Int32} {c_isWrong : Bool} {c_isHalted : Bool} {c_mine : Nat → Int64} {c_theirs : Nat → Int64} {c_many : Int32} {c_from0 : Nat → Int64} {c_from1 : Nat → Int64} {c_dice : Nat → Int32} {c_hash : Int64} {a1 : Int32} {r : Int64} (hm : mX10_told c_s a1 = some (r)) : k_Ml l yX10_told wsX10_told rmX10_told D (kT cI cJ cC cG) sz ([.ref (ad 0), .int a1] : List Value) (wM cI cJ ad c_s c_before c_known c_kept c_isKept c_aside c_buffer c_length c_thrown c_laid c_spot c_isWrong c_isHalted c_mine c_theirs c_many c_from0 c_from1 c_dice c_hash) (wM cI cJ ad c_s c_before c_known c_kept c_isKept c_aside c_buffer c_length c_thrown c_laid c_spot c_isWrong c_isHalted c_mine c_theirs c_many c_from0 c_from1 c_dice c_hash) r := by
  refine k_st_l (cc := cX10_told) (maxL := 5) (by decide) rfl (Nat.le_of_ble_eq_true rfl) ?_
  intro p e z m below meth c A hx hb hr hml hts hown hlocks hsz hN hA hK hP hD hS ls hl
  have hown : z.vm.findClass RX10 = some m.cls := hown
  have hinX10 : ∀ w ∈ wsX100, w ∈ wsX10_told := by decide +kernel
  have fl7 := hts (.fieldLink RX10 7 "MagpieRunsModel" "s" "[I") (by decide +kernel)
  have hl : lv_has ls 5 [(0, .ref (ad 0)), (1, .int a1)] := hl
  have J_5 := k_loop (z := fun _ _ => none) (st := mX10_told_5 c_s a1) (fun k5 : (Int64) → (Int32) → Option (Int64) => ∀ (l2 : Int64) (l4 : Int32) (H : Heap) (locs : List Loc), va_P D vwCl (wM cI cJ ad c_s c_before c_known c_kept c_isKept c_aside c_buffer c_length c_thrown c_laid c_spot c_isWrong c_isHalted c_mine c_theirs c_many c_from0 c_from1 c_dice c_hash) H → va_D A (wM cI cJ ad c_s c_before c_known c_kept c_isKept c_aside c_buffer c_length c_thrown c_laid c_spot c_isWrong c_isHalted c_mine c_theirs c_many c_from0 c_from1 c_dice c_hash) → va_S A z.heap H locs → ∀ ls : Array Slot, lv_has ls 5 [(0, .ref (ad 0)), (1, .int a1), (2, .long l2), (4, .int l4)] → k5 l2 l4 = some (r) → W p l e rmX10_told z m ([.ref (ad 0), .int a1] : List Value).toArray below meth c H locs 0 0 (k_Ql below ([.ref (ad 0), .int a1] : List Value) D (kT cI cJ cC cG) z A (wM cI cJ ad c_s c_before c_known c_kept c_isKept c_aside c_buffer c_length c_thrown c_laid c_spot c_isWrong c_isHalted c_mine c_theirs c_many c_from0 c_from1 c_dice c_hash) r) (F0 m 5 ls [])) (by intros; rename_i h; cases h) (by
    intro k5 ih5
    intro l2 l4 H locs hP hD hS ls hl hm
    unfold mX10_told_5 at hm
    refine lv_iload hx hb dX10_told_5 (lv_at hl 3 rfl) ?_
    refine lv_bipush (v := 18) hx hb dX10_told_7 (by decide) ?_
    refine lv_icmp_ge (tgt := 39) hx hb dX10_told_9 (by decide) (fun cc9 => ?_) (fun cc9 => ?_)
    · have hm := k_ip cc9 hm
      refine lv_lload_n hx hb dX10_told_39 rfl (lv_at hl 2 rfl) ?_
      cases hm
      exact k_end_l hx hb hr hlocks hK hP hD hS dX10_told_40
    · have hm := k_in cc9 hm
      refine lv_lload_n hx hb dX10_told_12 rfl (lv_at hl 2 rfl) ?_
      refine lv_aload_n hx hb dX10_told_13 rfl (lv_at hl 0 rfl) ?_
      refine va_get (D := D) (ci := 6) (v := .ref (ad 1)) (C := RX10) (T := TX10) (N := 20) hx hb hts hinX10 hown hK hP 0 rfl rfl 0 (by decide) fl7 (fun _ h9 => h9) rfl dX10_told_14 ?_
      refine lv_bipush (v := 18) hx hb dX10_told_17 (by decide) ?_
      refine lv_iload_n hx hb dX10_told_19 rfl (lv_at hl 1 rfl) ?_
      refine lv_imul hx hb dX10_told_20 ?_
      refine lv_iload hx hb dX10_told_21 (lv_at hl 3 rfl) ?_
      refine lv_iadd hx hb dX10_told_23 ?_
      obtain ⟨gi24, hm⟩ := k_gs hm
      refine va_iald hx hb hK hP 1 0 rfl rfl gi24 dX10_told_24 ?_
      refine lv_i2l (v := (Int32.toInt64 (c_s (Int32.toNatClampNeg ((18 * a1) + l4))))) hx hb dX10_told_25 rfl ?_
      refine lv_iconst (v := 3) hx hb dX10_told_26 (by decide) ?_
      refine lv_iload hx hb dX10_told_27 (lv_at hl 3 rfl) ?_
      refine lv_imul hx hb dX10_told_29 ?_
      refine lv_lshl (v := (k_lshl (Int32.toInt64 (c_s (Int32.toNatClampNeg ((18 * a1) + l4)))) (3 * l4))) hx hb dX10_told_30 rfl ?_
      refine lv_lor hx hb dX10_told_31 ?_
      refine lv_lstore_n (lv' := [(2, .long (l2 ||| (k_lshl (Int32.toInt64 (c_s (Int32.toNatClampNeg ((18 * a1) + l4)))) (3 * l4)))), (0, .ref (ad 0)), (1, .int a1), (4, .int l4)]) hx hb dX10_told_32 rfl hl (by decide) rfl (fun ls hl => ?_)
      refine lv_iinc (v := (l4 + 1)) (lv' := [(4, .int (l4 + 1)), (2, .long (l2 ||| (k_lshl (Int32.toInt64 (c_s (Int32.toNatClampNeg ((18 * a1) + l4)))) (3 * l4)))), (0, .ref (ad 0)), (1, .int a1)]) hx hb dX10_told_33 hl (k := 3) rfl rfl (by decide) rfl (fun ls hl => ?_)
      refine lv_goto (tgt := 5) hx hb dX10_told_36 (by decide) ?_
      exact ih5 (l2 ||| (k_lshl (Int32.toInt64 (c_s (Int32.toNatClampNeg ((18 * a1) + l4)))) (3 * l4))) (l4 + 1) _ _ hP hD hS _ (lv_sub hl [2, 3, 1, 0] rfl) hm) k_F
  unfold mX10_told at hm
  refine lv_lconst (v := 0) hx hb dX10_told_0 (by decide) ?_
  refine lv_lstore_n (lv' := [(2, .long 0), (0, .ref (ad 0)), (1, .int a1)]) hx hb dX10_told_1 rfl hl (by decide) rfl (fun ls hl => ?_)
  refine lv_iconst (v := 0) hx hb dX10_told_2 (by decide) ?_
  refine lv_istore (lv' := [(4, .int 0), (2, .long 0), (0, .ref (ad 0)), (1, .int a1)]) hx hb dX10_told_3 hl (by decide) rfl (fun ls hl => ?_)
  exact J_5 0 0 _ _ hP hD hS _ (lv_sub hl [2, 3, 1, 0] rfl) hm

abbrev rmX10_stands : Room := { frames := 0, cells := 0, slots := 0, locals := 0 }
set_option maxHeartbeats 4000000 in
set_option maxRecDepth 100000 in
theorem zX10_stands {l : Launch} {D : va_G} {cI cJ cC cG : ClassId} {sz : Nat} {ad : Nat → Nat} {c_s : Nat → Int32} {c_before : Nat → Int32} {c_known : Int32} {c_kept : Nat → Int32} {c_isKept : Bool} {c_aside : Nat → Int32} {c_buffer : Nat → Int32} {c_length : Int32} {c_thrown : Int32} {c_laid : Nat → Int32} {c_spot : Int32} {c_isWrong : Bool} {c_isHalted : Bool} {c_mine : Nat → Int64} {c_theirs : Nat → Int64} {c_many : Int32} {c_from0 : Nat → Int64} {c_from1 : Nat → Int64} {c_dice : Nat → Int32} {c_hash : Int64} {a1 : Int32} {a2 : Int64} {c_s' : Nat → Int32} (hm : mX10_stands c_s a1 a2 = some (c_s')) : k_Mv l yX10_stands wsX10_stands rmX10_stands D (kT cI cJ cC cG) sz ([.ref (ad 0), .int a1, .long a2] : List Value) (wM cI cJ ad c_s c_before c_known c_kept c_isKept c_aside c_buffer c_length c_thrown c_laid c_spot c_isWrong c_isHalted c_mine c_theirs c_many c_from0 c_from1 c_dice c_hash) (wM cI cJ ad c_s' c_before c_known c_kept c_isKept c_aside c_buffer c_length c_thrown c_laid c_spot c_isWrong c_isHalted c_mine c_theirs c_many c_from0 c_from1 c_dice c_hash) := by
  refine k_st_v (cc := cX10_stands) (maxL := 5) (by decide) rfl (Nat.le_of_ble_eq_true rfl) ?_
  intro p e z m below meth c A hx hb hr hml hts hown hlocks hsz hN hA hK hP hD hS ls hl
  have hown : z.vm.findClass RX10 = some m.cls := hown
  have hinX10 : ∀ w ∈ wsX100, w ∈ wsX10_stands := by decide +kernel
  have fl7 := hts (.fieldLink RX10 7 "MagpieRunsModel" "s" "[I") (by decide +kernel)
  have hl : lv_has ls 5 [(0, .ref (ad 0)), (1, .int a1), (2, .long a2)] := hl
  have J_3 := k_loop (z := fun _ _ => none) (st := mX10_stands_3 a1 a2) (fun k3 : (Int32) → (Nat → Int32) → Option ((Nat → Int32)) => ∀ (l4 : Int32) (c_s : Nat → Int32) (H : Heap) (locs : List Loc), va_P D vwCl (wM cI cJ ad c_s c_before c_known c_kept c_isKept c_aside c_buffer c_length c_thrown c_laid c_spot c_isWrong c_isHalted c_mine c_theirs c_many c_from0 c_from1 c_dice c_hash) H → va_D A (wM cI cJ ad c_s c_before c_known c_kept c_isKept c_aside c_buffer c_length c_thrown c_laid c_spot c_isWrong c_isHalted c_mine c_theirs c_many c_from0 c_from1 c_dice c_hash) → va_S A z.heap H locs → ∀ ls : Array Slot, lv_has ls 5 [(0, .ref (ad 0)), (1, .int a1), (2, .long a2), (4, .int l4)] → k3 l4 c_s = some (c_s') → W p l e rmX10_stands z m ([.ref (ad 0), .int a1, .long a2] : List Value).toArray below meth c H locs 0 0 (k_Qv below ([.ref (ad 0), .int a1, .long a2] : List Value) D (kT cI cJ cC cG) z A (wM cI cJ ad c_s' c_before c_known c_kept c_isKept c_aside c_buffer c_length c_thrown c_laid c_spot c_isWrong c_isHalted c_mine c_theirs c_many c_from0 c_from1 c_dice c_hash)) (F0 m 3 ls [])) (by intros; rename_i h; cases h) (by
    intro k3 ih3
    intro l4 c_s H locs hP hD hS ls hl hm
    unfold mX10_stands_3 at hm
    refine lv_iload hx hb dX10_stands_3 (lv_at hl 3 rfl) ?_
    refine lv_bipush (v := 18) hx hb dX10_stands_5 (by decide) ?_
    refine lv_icmp_ge (tgt := 39) hx hb dX10_stands_7 (by decide) (fun cc7 => ?_) (fun cc7 => ?_)
    · have hm := k_ip cc7 hm
      cases hm
      exact k_end_v hx hb hr hlocks hK hP hD hS dX10_stands_39
    · have hm := k_in cc7 hm
      refine lv_aload_n hx hb dX10_stands_10 rfl (lv_at hl 0 rfl) ?_
      refine va_get (D := D) (ci := 6) (v := .ref (ad 1)) (C := RX10) (T := TX10) (N := 20) hx hb hts hinX10 hown hK hP 0 rfl rfl 0 (by decide) fl7 (fun _ h9 => h9) rfl dX10_stands_11 ?_
      refine lv_bipush (v := 18) hx hb dX10_stands_14 (by decide) ?_
      refine lv_iload_n hx hb dX10_stands_16 rfl (lv_at hl 1 rfl) ?_
      refine lv_imul hx hb dX10_stands_17 ?_
      refine lv_iload hx hb dX10_stands_18 (lv_at hl 3 rfl) ?_
      refine lv_iadd hx hb dX10_stands_20 ?_
      refine lv_lload_n hx hb dX10_stands_21 rfl (lv_at hl 2 rfl) ?_
      refine lv_iconst (v := 3) hx hb dX10_stands_22 (by decide) ?_
      refine lv_iload hx hb dX10_stands_23 (lv_at hl 3 rfl) ?_
      refine lv_imul hx hb dX10_stands_25 ?_
      refine lv_lshr (v := (k_lshr a2 (3 * l4))) hx hb dX10_stands_26 rfl ?_
      refine lv_ldc2 hx hb hown (hts (.constantLong RX10 215 7) (by decide +kernel)) dX10_stands_27 ?_
      refine lv_land hx hb dX10_stands_30 ?_
      refine lv_l2i (v := (Int64.toInt32 ((k_lshr a2 (3 * l4)) &&& (7)))) hx hb dX10_stands_31 rfl ?_
      obtain ⟨gi32, hm⟩ := k_gs hm
      refine va_iast hx hb hK hP hD hS 1 0 rfl rfl gi32 dX10_stands_32 (fun H locs hP hD hS => ?_)
      have hP : va_P D vwCl (wM cI cJ ad (upd c_s (Int32.toNatClampNeg ((18 * a1) + l4)) (Int64.toInt32 ((k_lshr a2 (3 * l4)) &&& (7)))) c_before c_known c_kept c_isKept c_aside c_buffer c_length c_thrown c_laid c_spot c_isWrong c_isHalted c_mine c_theirs c_many c_from0 c_from1 c_dice c_hash) H := hP
      have hD : va_D A (wM cI cJ ad (upd c_s (Int32.toNatClampNeg ((18 * a1) + l4)) (Int64.toInt32 ((k_lshr a2 (3 * l4)) &&& (7)))) c_before c_known c_kept c_isKept c_aside c_buffer c_length c_thrown c_laid c_spot c_isWrong c_isHalted c_mine c_theirs c_many c_from0 c_from1 c_dice c_hash) := hD
      refine lv_iinc (v := (l4 + 1)) (lv' := [(4, .int (l4 + 1)), (0, .ref (ad 0)), (1, .int a1), (2, .long a2)]) hx hb dX10_stands_33 hl (k := 3) rfl rfl (by decide) rfl (fun ls hl => ?_)
      refine lv_goto (tgt := 3) hx hb dX10_stands_36 (by decide) ?_
      exact ih3 (l4 + 1) (upd c_s (Int32.toNatClampNeg ((18 * a1) + l4)) (Int64.toInt32 ((k_lshr a2 (3 * l4)) &&& (7)))) _ _ hP hD hS _ (lv_sub hl [1, 2, 3, 0] rfl) hm) k_F
  unfold mX10_stands at hm
  refine lv_iconst (v := 0) hx hb dX10_stands_0 (by decide) ?_
  refine lv_istore (lv' := [(4, .int 0), (0, .ref (ad 0)), (1, .int a1), (2, .long a2)]) hx hb dX10_stands_1 hl (by decide) rfl (fun ls hl => ?_)
  exact J_3 0 c_s _ _ hP hD hS _ (lv_sub hl [1, 2, 3, 0] rfl) hm

abbrev rmX10_adds : Room := { frames := 1, cells := 0, slots := 0, locals := 24 }
set_option maxHeartbeats 4000000 in
set_option maxRecDepth 100000 in
theorem zX10_adds {l : Launch} {D : va_G} {cI cJ cC cG : ClassId} {sz : Nat} {ad : Nat → Nat} {c_s : Nat → Int32} {c_before : Nat → Int32} {c_known : Int32} {c_kept : Nat → Int32} {c_isKept : Bool} {c_aside : Nat → Int32} {c_buffer : Nat → Int32} {c_length : Int32} {c_thrown : Int32} {c_laid : Nat → Int32} {c_spot : Int32} {c_isWrong : Bool} {c_isHalted : Bool} {c_mine : Nat → Int64} {c_theirs : Nat → Int64} {c_many : Int32} {c_from0 : Nat → Int64} {c_from1 : Nat → Int64} {c_dice : Nat → Int32} {c_hash : Int64} {c_mine' : Nat → Int64} {c_theirs' : Nat → Int64} {c_many' : Int32} (hm : mX10_adds c_s c_mine c_theirs c_many = some (c_mine', c_theirs', c_many')) : k_Mv l yX10_adds wsX10_adds rmX10_adds D (kT cI cJ cC cG) sz ([.ref (ad 0)] : List Value) (wM cI cJ ad c_s c_before c_known c_kept c_isKept c_aside c_buffer c_length c_thrown c_laid c_spot c_isWrong c_isHalted c_mine c_theirs c_many c_from0 c_from1 c_dice c_hash) (wM cI cJ ad c_s c_before c_known c_kept c_isKept c_aside c_buffer c_length c_thrown c_laid c_spot c_isWrong c_isHalted c_mine' c_theirs' c_many' c_from0 c_from1 c_dice c_hash) := by
  refine k_st_v (cc := cX10_adds) (maxL := 7) (by decide) rfl (Nat.le_of_ble_eq_true rfl) ?_
  intro p e z m below meth c A hx hb hr hml hts hown hlocks hsz hN hA hK hP hD hS ls hl
  have hown : z.vm.findClass RX10 = some m.cls := hown
  have hinX10 : ∀ w ∈ wsX100, w ∈ wsX10_adds := by decide +kernel
  have fl28 := hts (.fieldLink RX10 28 "MagpieRunsModel" "mine" "[J") (by decide +kernel)
  have fl32 := hts (.fieldLink RX10 32 "MagpieRunsModel" "theirs" "[J") (by decide +kernel)
  have fl221 := hts (.fieldLink RX10 221 "MagpieRunsModel" "many" "I") (by decide +kernel)
  have hl : lv_has ls 7 [(0, .ref (ad 0))] := hl
  have J_18 := k_loop (z := fun _ _ _ _ _ _ _ => none) (st := mX10_adds_18 c_s) (fun k18 : (Int64) → (Int64) → (Bool) → (Int32) → (Nat → Int64) → (Nat → Int64) → (Int32) → Option ((Nat → Int64) × (Nat → Int64) × (Int32)) => ∀ (l1 : Int64) (l3 : Int64) (l5 : Bool) (l6 : Int32) (c_mine : Nat → Int64) (c_theirs : Nat → Int64) (c_many : Int32) (H : Heap) (locs : List Loc), va_P D vwCl (wM cI cJ ad c_s c_before c_known c_kept c_isKept c_aside c_buffer c_length c_thrown c_laid c_spot c_isWrong c_isHalted c_mine c_theirs c_many c_from0 c_from1 c_dice c_hash) H → va_D A (wM cI cJ ad c_s c_before c_known c_kept c_isKept c_aside c_buffer c_length c_thrown c_laid c_spot c_isWrong c_isHalted c_mine c_theirs c_many c_from0 c_from1 c_dice c_hash) → va_S A z.heap H locs → ∀ ls : Array Slot, lv_has ls 7 [(0, .ref (ad 0)), (1, .long l1), (3, .long l3), (5, .int (k_b l5)), (6, .int l6)] → k18 l1 l3 l5 l6 c_mine c_theirs c_many = some (c_mine', c_theirs', c_many') → W p l e rmX10_adds z m ([.ref (ad 0)] : List Value).toArray below meth c H locs 0 0 (k_Qv below ([.ref (ad 0)] : List Value) D (kT cI cJ cC cG) z A (wM cI cJ ad c_s c_before c_known c_kept c_isKept c_aside c_buffer c_length c_thrown c_laid c_spot c_isWrong c_isHalted c_mine' c_theirs' c_many' c_from0 c_from1 c_dice c_hash)) (F0 m 18 ls [])) (by intros; rename_i h; cases h) (by
    intro k18 ih18
    intro l1 l3 l5 l6 c_mine c_theirs c_many H locs hP hD hS ls hl hm
    unfold mX10_adds_18 at hm
    refine lv_iload hx hb dX10_adds_18 (lv_at hl 4 rfl) ?_
    refine lv_aload_n hx hb dX10_adds_20 rfl (lv_at hl 0 rfl) ?_
    refine va_get (D := D) (ci := 6) (v := .int c_many) (C := RX10) (T := TX10) (N := 20) hx hb hts hinX10 hown hK hP 0 rfl rfl 15 (by decide) fl221 (fun _ h9 => h9) rfl dX10_adds_21 ?_
    refine lv_icmp_ge (tgt := 69) hx hb dX10_adds_24 (by decide) (fun cc24 => ?_) (fun cc24 => ?_)
    · have hm := k_ip cc24 hm
      refine lv_iload hx hb dX10_adds_69 (lv_at hl 3 rfl) ?_
      refine lv_if_eq (tgt := 104) hx hb dX10_adds_71 (by decide) (fun cc71 => ?_) (fun cc71 => ?_)
      · have hm := k_ip cc71 hm
        cases hm
        exact k_end_v hx hb hr hlocks hK hP hD hS dX10_adds_104
      · have hm := k_in cc71 hm
        refine lv_aload_n hx hb dX10_adds_74 rfl (lv_at hl 0 rfl) ?_
        refine va_get (D := D) (ci := 6) (v := .ref (ad 7)) (C := RX10) (T := TX10) (N := 20) hx hb hts hinX10 hown hK hP 0 rfl rfl 13 (by decide) fl28 (fun _ h9 => h9) rfl dX10_adds_75 ?_
        refine lv_aload_n hx hb dX10_adds_78 rfl (lv_at hl 0 rfl) ?_
        refine va_get (D := D) (ci := 6) (v := .int c_many) (C := RX10) (T := TX10) (N := 20) hx hb hts hinX10 hown hK hP 0 rfl rfl 15 (by decide) fl221 (fun _ h9 => h9) rfl dX10_adds_79 ?_
        refine lv_lload_n hx hb dX10_adds_82 rfl (lv_at hl 1 rfl) ?_
        obtain ⟨gi83, hm⟩ := k_gs hm
        refine va_last hx hb hK hP hD hS 7 1 rfl rfl gi83 dX10_adds_83 (fun H locs hP hD hS => ?_)
        have hP : va_P D vwCl (wM cI cJ ad c_s c_before c_known c_kept c_isKept c_aside c_buffer c_length c_thrown c_laid c_spot c_isWrong c_isHalted (vp_updL c_mine (Int32.toNatClampNeg c_many) l1) c_theirs c_many c_from0 c_from1 c_dice c_hash) H := hP
        have hD : va_D A (wM cI cJ ad c_s c_before c_known c_kept c_isKept c_aside c_buffer c_length c_thrown c_laid c_spot c_isWrong c_isHalted (vp_updL c_mine (Int32.toNatClampNeg c_many) l1) c_theirs c_many c_from0 c_from1 c_dice c_hash) := hD
        refine lv_aload_n hx hb dX10_adds_84 rfl (lv_at hl 0 rfl) ?_
        refine va_get (D := D) (ci := 6) (v := .ref (ad 8)) (C := RX10) (T := TX10) (N := 20) hx hb hts hinX10 hown hK hP 0 rfl rfl 14 (by decide) fl32 (fun _ h9 => h9) rfl dX10_adds_85 ?_
        refine lv_aload_n hx hb dX10_adds_88 rfl (lv_at hl 0 rfl) ?_
        refine va_get (D := D) (ci := 6) (v := .int c_many) (C := RX10) (T := TX10) (N := 20) hx hb hts hinX10 hown hK hP 0 rfl rfl 15 (by decide) fl221 (fun _ h9 => h9) rfl dX10_adds_89 ?_
        refine lv_lload_n hx hb dX10_adds_92 rfl (lv_at hl 2 rfl) ?_
        obtain ⟨gi93, hm⟩ := k_gs hm
        refine va_last hx hb hK hP hD hS 8 1 rfl rfl gi93 dX10_adds_93 (fun H locs hP hD hS => ?_)
        have hP : va_P D vwCl (wM cI cJ ad c_s c_before c_known c_kept c_isKept c_aside c_buffer c_length c_thrown c_laid c_spot c_isWrong c_isHalted (vp_updL c_mine (Int32.toNatClampNeg c_many) l1) (vp_updL c_theirs (Int32.toNatClampNeg c_many) l3) c_many c_from0 c_from1 c_dice c_hash) H := hP
        have hD : va_D A (wM cI cJ ad c_s c_before c_known c_kept c_isKept c_aside c_buffer c_length c_thrown c_laid c_spot c_isWrong c_isHalted (vp_updL c_mine (Int32.toNatClampNeg c_many) l1) (vp_updL c_theirs (Int32.toNatClampNeg c_many) l3) c_many c_from0 c_from1 c_dice c_hash) := hD
        refine lv_aload_n hx hb dX10_adds_94 rfl (lv_at hl 0 rfl) ?_
        refine lv_dup hx hb dX10_adds_95 rfl ?_
        refine va_get (D := D) (ci := 6) (v := .int c_many) (C := RX10) (T := TX10) (N := 20) hx hb hts hinX10 hown hK hP 0 rfl rfl 15 (by decide) fl221 (fun _ h9 => h9) rfl dX10_adds_96 ?_
        refine lv_iconst (v := 1) hx hb dX10_adds_99 (by decide) ?_
        refine lv_iadd hx hb dX10_adds_100 ?_
        refine va_put (D := D) (ci := 6) (v := .int (c_many + 1)) (ty := .int) (C := RX10) (T := TX10) (N := 20) hx hb hts hinX10 tyX10 tyX10_ok nmX10 hown hK hP hD hS 0 rfl rfl 15 (by decide) fl221 (fun _ h9 => h9) rfl (by decide +kernel) rfl rfl (Nat.le_of_ble_eq_true rfl) dX10_adds_101 (fun H locs hP hD hS => ?_)
        have hP : va_P D vwCl (wM cI cJ ad c_s c_before c_known c_kept c_isKept c_aside c_buffer c_length c_thrown c_laid c_spot c_isWrong c_isHalted (vp_updL c_mine (Int32.toNatClampNeg c_many) l1) (vp_updL c_theirs (Int32.toNatClampNeg c_many) l3) (c_many + 1) c_from0 c_from1 c_dice c_hash) H := hP
        have hD : va_D A (wM cI cJ ad c_s c_before c_known c_kept c_isKept c_aside c_buffer c_length c_thrown c_laid c_spot c_isWrong c_isHalted (vp_updL c_mine (Int32.toNatClampNeg c_many) l1) (vp_updL c_theirs (Int32.toNatClampNeg c_many) l3) (c_many + 1) c_from0 c_from1 c_dice c_hash) := hD
        cases hm
        exact k_end_v hx hb hr hlocks hK hP hD hS dX10_adds_104
    · have hm := k_in cc24 hm
      refine lv_iload hx hb dX10_adds_27 (lv_at hl 3 rfl) ?_
      refine lv_if_eq (tgt := 60) hx hb dX10_adds_29 (by decide) (fun cc29 => ?_) (fun cc29 => ?_)
      · have hm := k_ip cc29 hm
        refine lv_iconst (v := 0) hx hb dX10_adds_60 (by decide) ?_
        refine lv_istore (lv' := [(5, .int 0), (0, .ref (ad 0)), (1, .long l1), (3, .long l3), (6, .int l6)]) hx hb dX10_adds_61 hl (by decide) rfl (fun ls hl => ?_)
        refine lv_iinc (v := (l6 + 1)) (lv' := [(6, .int (l6 + 1)), (5, .int 0), (0, .ref (ad 0)), (1, .long l1), (3, .long l3)]) hx hb dX10_adds_63 hl (k := 4) rfl rfl (by decide) rfl (fun ls hl => ?_)
        refine lv_goto (tgt := 18) hx hb dX10_adds_66 (by decide) ?_
        exact ih18 l1 l3 false (l6 + 1) c_mine c_theirs c_many _ _ hP hD hS _ (lv_sub hl [2, 3, 4, 1, 0] rfl) hm
      · have hm := k_in cc29 hm
        refine lv_aload_n hx hb dX10_adds_32 rfl (lv_at hl 0 rfl) ?_
        refine va_get (D := D) (ci := 6) (v := .ref (ad 7)) (C := RX10) (T := TX10) (N := 20) hx hb hts hinX10 hown hK hP 0 rfl rfl 13 (by decide) fl28 (fun _ h9 => h9) rfl dX10_adds_33 ?_
        refine lv_iload hx hb dX10_adds_36 (lv_at hl 4 rfl) ?_
        obtain ⟨gi38, hm⟩ := k_gs hm
        refine va_lald hx hb hK hP 7 1 rfl rfl gi38 dX10_adds_38 ?_
        refine lv_lload_n hx hb dX10_adds_39 rfl (lv_at hl 1 rfl) ?_
        refine W.lcmp hx hb dX10_adds_40 ?_
        refine lv_if_ne (tgt := 56) hx hb dX10_adds_41 (by decide) (fun cc41 => ?_) (fun cc41 => ?_)
        · have hm := k_in cc41 hm
          refine lv_iconst (v := 1) hx hb dX10_adds_56 (by decide) ?_
          refine lv_goto (tgt := 61) hx hb dX10_adds_57 (by decide) ?_
          refine lv_istore (lv' := [(5, .int 1), (0, .ref (ad 0)), (1, .long l1), (3, .long l3), (6, .int l6)]) hx hb dX10_adds_61 hl (by decide) rfl (fun ls hl => ?_)
          refine lv_iinc (v := (l6 + 1)) (lv' := [(6, .int (l6 + 1)), (5, .int 1), (0, .ref (ad 0)), (1, .long l1), (3, .long l3)]) hx hb dX10_adds_63 hl (k := 4) rfl rfl (by decide) rfl (fun ls hl => ?_)
          refine lv_goto (tgt := 18) hx hb dX10_adds_66 (by decide) ?_
          exact ih18 l1 l3 true (l6 + 1) c_mine c_theirs c_many _ _ hP hD hS _ (lv_sub hl [2, 3, 4, 1, 0] rfl) hm
        · have hm := k_ip cc41 hm
          refine lv_aload_n hx hb dX10_adds_44 rfl (lv_at hl 0 rfl) ?_
          refine va_get (D := D) (ci := 6) (v := .ref (ad 8)) (C := RX10) (T := TX10) (N := 20) hx hb hts hinX10 hown hK hP 0 rfl rfl 14 (by decide) fl32 (fun _ h9 => h9) rfl dX10_adds_45 ?_
          refine lv_iload hx hb dX10_adds_48 (lv_at hl 4 rfl) ?_
          obtain ⟨gi50, hm⟩ := k_gs hm
          refine va_lald hx hb hK hP 8 1 rfl rfl gi50 dX10_adds_50 ?_
          refine lv_lload_n hx hb dX10_adds_51 rfl (lv_at hl 2 rfl) ?_
          refine W.lcmp hx hb dX10_adds_52 ?_
          refine lv_if_eq (tgt := 60) hx hb dX10_adds_53 (by decide) (fun cc53 => ?_) (fun cc53 => ?_)
          · have hm := k_ip cc53 hm
            refine lv_iconst (v := 0) hx hb dX10_adds_60 (by decide) ?_
            refine lv_istore (lv' := [(5, .int 0), (0, .ref (ad 0)), (1, .long l1), (3, .long l3), (6, .int l6)]) hx hb dX10_adds_61 hl (by decide) rfl (fun ls hl => ?_)
            refine lv_iinc (v := (l6 + 1)) (lv' := [(6, .int (l6 + 1)), (5, .int 0), (0, .ref (ad 0)), (1, .long l1), (3, .long l3)]) hx hb dX10_adds_63 hl (k := 4) rfl rfl (by decide) rfl (fun ls hl => ?_)
            refine lv_goto (tgt := 18) hx hb dX10_adds_66 (by decide) ?_
            exact ih18 l1 l3 false (l6 + 1) c_mine c_theirs c_many _ _ hP hD hS _ (lv_sub hl [2, 3, 4, 1, 0] rfl) hm
          · have hm := k_in cc53 hm
            refine lv_iconst (v := 1) hx hb dX10_adds_56 (by decide) ?_
            refine lv_goto (tgt := 61) hx hb dX10_adds_57 (by decide) ?_
            refine lv_istore (lv' := [(5, .int 1), (0, .ref (ad 0)), (1, .long l1), (3, .long l3), (6, .int l6)]) hx hb dX10_adds_61 hl (by decide) rfl (fun ls hl => ?_)
            refine lv_iinc (v := (l6 + 1)) (lv' := [(6, .int (l6 + 1)), (5, .int 1), (0, .ref (ad 0)), (1, .long l1), (3, .long l3)]) hx hb dX10_adds_63 hl (k := 4) rfl rfl (by decide) rfl (fun ls hl => ?_)
            refine lv_goto (tgt := 18) hx hb dX10_adds_66 (by decide) ?_
            exact ih18 l1 l3 true (l6 + 1) c_mine c_theirs c_many _ _ hP hD hS _ (lv_sub hl [2, 3, 4, 1, 0] rfl) hm) k_F
  unfold mX10_adds at hm
  refine lv_aload_n hx hb dX10_adds_0 rfl (lv_at hl 0 rfl) ?_
  refine lv_iconst (v := 0) hx hb dX10_adds_1 (by decide) ?_
  obtain ⟨r1, hc2, hm⟩ := k_bds hm
  refine k_l_s (k_rV (As := [.int 0]) (rest := []) ⟨hx, hb, hml, hown, hts⟩ hK hN hP hD (zX10_told hc2) (cwV 1 hts gX10_adds_X10_told rfl rfl rfl (by decide +kernel) ⟨Nat.le_of_ble_eq_true rfl, Nat.le_of_ble_eq_true rfl⟩) rfl rfl rfl hl.1 rfl (Nat.le_of_ble_eq_true rfl) dX10_adds_2 ⟨Nat.zero_le _, Nat.zero_le _⟩) hD hS hA (fun H locs hP hD hS => ?_)
  refine lv_lstore_n (lv' := [(1, .long r1), (0, .ref (ad 0))]) hx hb dX10_adds_5 rfl hl (by decide) rfl (fun ls hl => ?_)
  refine lv_aload_n hx hb dX10_adds_6 rfl (lv_at hl 1 rfl) ?_
  refine lv_iconst (v := 1) hx hb dX10_adds_7 (by decide) ?_
  obtain ⟨r2, hc8, hm⟩ := k_bds hm
  refine k_l_s (k_rV (As := [.int 1]) (rest := []) ⟨hx, hb, hml, hown, hts⟩ hK hN hP hD (zX10_told hc8) (cwV 1 hts gX10_adds_X10_told rfl rfl rfl (by decide +kernel) ⟨Nat.le_of_ble_eq_true rfl, Nat.le_of_ble_eq_true rfl⟩) rfl rfl rfl hl.1 rfl (Nat.le_of_ble_eq_true rfl) dX10_adds_8 ⟨Nat.zero_le _, Nat.zero_le _⟩) hD hS hA (fun H locs hP hD hS => ?_)
  refine lv_lstore_n (lv' := [(3, .long r2), (1, .long r1), (0, .ref (ad 0))]) hx hb dX10_adds_11 rfl hl (by decide) rfl (fun ls hl => ?_)
  refine lv_iconst (v := 1) hx hb dX10_adds_12 (by decide) ?_
  refine lv_istore (lv' := [(5, .int 1), (3, .long r2), (1, .long r1), (0, .ref (ad 0))]) hx hb dX10_adds_13 hl (by decide) rfl (fun ls hl => ?_)
  refine lv_iconst (v := 0) hx hb dX10_adds_15 (by decide) ?_
  refine lv_istore (lv' := [(6, .int 0), (5, .int 1), (3, .long r2), (1, .long r1), (0, .ref (ad 0))]) hx hb dX10_adds_16 hl (by decide) rfl (fun ls hl => ?_)
  exact J_18 r1 r2 true 0 c_mine c_theirs c_many _ _ hP hD hS _ (lv_sub hl [4, 3, 2, 1, 0] rfl) hm

abbrev rmX10_addsBoth : Room := { frames := 3, cells := 0, slots := 0, locals := 71 }
set_option maxHeartbeats 4000000 in
set_option maxRecDepth 100000 in
theorem zX10_addsBoth {l : Launch} {D : va_G} {cI cJ cC cG : ClassId} {sz : Nat} {ad : Nat → Nat} {c_s : Nat → Int32} {c_before : Nat → Int32} {c_known : Int32} {c_kept : Nat → Int32} {c_isKept : Bool} {c_aside : Nat → Int32} {c_buffer : Nat → Int32} {c_length : Int32} {c_thrown : Int32} {c_laid : Nat → Int32} {c_spot : Int32} {c_isWrong : Bool} {c_isHalted : Bool} {c_mine : Nat → Int64} {c_theirs : Nat → Int64} {c_many : Int32} {c_from0 : Nat → Int64} {c_from1 : Nat → Int64} {c_dice : Nat → Int32} {c_hash : Int64} {a1 : Int32} {a2 : Int32} {c_s' : Nat → Int32} {c_laid' : Nat → Int32} {c_mine' : Nat → Int64} {c_theirs' : Nat → Int64} {c_many' : Int32} (hm : mX10_addsBoth c_s c_laid c_mine c_theirs c_many a1 a2 = some (c_s', c_laid', c_mine', c_theirs', c_many')) : k_Mv l yX10_addsBoth wsX10_addsBoth rmX10_addsBoth D (kT cI cJ cC cG) sz ([.ref (ad 0), .int a1, .int a2] : List Value) (wM cI cJ ad c_s c_before c_known c_kept c_isKept c_aside c_buffer c_length c_thrown c_laid c_spot c_isWrong c_isHalted c_mine c_theirs c_many c_from0 c_from1 c_dice c_hash) (wM cI cJ ad c_s' c_before c_known c_kept c_isKept c_aside c_buffer c_length c_thrown c_laid' c_spot c_isWrong c_isHalted c_mine' c_theirs' c_many' c_from0 c_from1 c_dice c_hash) := by
  refine k_st_v (cc := cX10_addsBoth) (maxL := 7) (by decide) rfl (Nat.le_of_ble_eq_true rfl) ?_
  intro p e z m below meth c A hx hb hr hml hts hown hlocks hsz hN hA hK hP hD hS ls hl
  have hown : z.vm.findClass RX10 = some m.cls := hown
  have hinX10 : ∀ w ∈ wsX100, w ∈ wsX10_addsBoth := by decide +kernel
  have fl7 := hts (.fieldLink RX10 7 "MagpieRunsModel" "s" "[I") (by decide +kernel)
  have hl : lv_has ls 7 [(0, .ref (ad 0)), (1, .int a1), (2, .int a2)] := hl
  have J_11 := k_loop (z := fun _ _ _ _ _ _ _ => none) (st := mX10_addsBoth_11 a1 a2) (fun k11 : (Int32) → (Int32) → (Nat → Int32) → (Nat → Int32) → (Nat → Int64) → (Nat → Int64) → (Int32) → Option ((Nat → Int32) × (Nat → Int32) × (Nat → Int64) × (Nat → Int64) × (Int32)) => ∀ (l3 : Int32) (l4 : Int32) (c_s : Nat → Int32) (c_laid : Nat → Int32) (c_mine : Nat → Int64) (c_theirs : Nat → Int64) (c_many : Int32) (H : Heap) (locs : List Loc), va_P D vwCl (wM cI cJ ad c_s c_before c_known c_kept c_isKept c_aside c_buffer c_length c_thrown c_laid c_spot c_isWrong c_isHalted c_mine c_theirs c_many c_from0 c_from1 c_dice c_hash) H → va_D A (wM cI cJ ad c_s c_before c_known c_kept c_isKept c_aside c_buffer c_length c_thrown c_laid c_spot c_isWrong c_isHalted c_mine c_theirs c_many c_from0 c_from1 c_dice c_hash) → va_S A z.heap H locs → ∀ ls : Array Slot, lv_has ls 7 [(0, .ref (ad 0)), (1, .int a1), (2, .int a2), (3, .int l3), (4, .int l4)] → k11 l3 l4 c_s c_laid c_mine c_theirs c_many = some (c_s', c_laid', c_mine', c_theirs', c_many') → W p l e rmX10_addsBoth z m ([.ref (ad 0), .int a1, .int a2] : List Value).toArray below meth c H locs 0 0 (k_Qv below ([.ref (ad 0), .int a1, .int a2] : List Value) D (kT cI cJ cC cG) z A (wM cI cJ ad c_s' c_before c_known c_kept c_isKept c_aside c_buffer c_length c_thrown c_laid' c_spot c_isWrong c_isHalted c_mine' c_theirs' c_many' c_from0 c_from1 c_dice c_hash)) (F0 m 11 ls [])) (by intros; rename_i h; cases h) (by
    intro k11 ih11
    have J_47 := k_loop (z := fun _ _ _ _ _ _ _ _ => none) (st := mX10_addsBoth_47 a1 a2 k11) (fun k47 : (Int32) → (Int32) → (Int32) → (Nat → Int32) → (Nat → Int32) → (Nat → Int64) → (Nat → Int64) → (Int32) → Option ((Nat → Int32) × (Nat → Int32) × (Nat → Int64) × (Nat → Int64) × (Int32)) => ∀ (l3 : Int32) (l4 : Int32) (l6 : Int32) (c_s : Nat → Int32) (c_laid : Nat → Int32) (c_mine : Nat → Int64) (c_theirs : Nat → Int64) (c_many : Int32) (H : Heap) (locs : List Loc), va_P D vwCl (wM cI cJ ad c_s c_before c_known c_kept c_isKept c_aside c_buffer c_length c_thrown c_laid c_spot c_isWrong c_isHalted c_mine c_theirs c_many c_from0 c_from1 c_dice c_hash) H → va_D A (wM cI cJ ad c_s c_before c_known c_kept c_isKept c_aside c_buffer c_length c_thrown c_laid c_spot c_isWrong c_isHalted c_mine c_theirs c_many c_from0 c_from1 c_dice c_hash) → va_S A z.heap H locs → ∀ ls : Array Slot, lv_has ls 7 [(0, .ref (ad 0)), (1, .int a1), (2, .int a2), (3, .int l3), (4, .int l4), (6, .int l6)] → k47 l3 l4 l6 c_s c_laid c_mine c_theirs c_many = some (c_s', c_laid', c_mine', c_theirs', c_many') → W p l e rmX10_addsBoth z m ([.ref (ad 0), .int a1, .int a2] : List Value).toArray below meth c H locs 0 0 (k_Qv below ([.ref (ad 0), .int a1, .int a2] : List Value) D (kT cI cJ cC cG) z A (wM cI cJ ad c_s' c_before c_known c_kept c_isKept c_aside c_buffer c_length c_thrown c_laid' c_spot c_isWrong c_isHalted c_mine' c_theirs' c_many' c_from0 c_from1 c_dice c_hash)) (F0 m 47 ls [])) (by intros; rename_i h; cases h) (by
      intro k47 ih47
      intro l3 l4 l6 c_s c_laid c_mine c_theirs c_many H locs hP hD hS ls hl hm
      unfold mX10_addsBoth_47 at hm
      refine lv_iload hx hb dX10_addsBoth_47 (lv_at hl 5 rfl) ?_
      refine lv_bipush (v := 16) hx hb dX10_addsBoth_49 (by decide) ?_
      refine lv_icmp_ge (tgt := 95) hx hb dX10_addsBoth_51 (by decide) (fun cc51 => ?_) (fun cc51 => ?_)
      · have hm := k_ip cc51 hm
        refine lv_aload_n hx hb dX10_addsBoth_95 rfl (lv_at hl 0 rfl) ?_
        refine lv_iconst (v := 0) hx hb dX10_addsBoth_96 (by decide) ?_
        obtain ⟨w1, hc97, hm⟩ := k_bds hm
        refine k_v_s (k_rV (As := [.int 0]) (rest := []) ⟨hx, hb, hml, hown, hts⟩ hK hN hP hD (zX10_takesUp hc97) (cwV 1 hts gX10_addsBoth_X10_takesUp rfl rfl rfl (by decide +kernel) ⟨Nat.le_of_ble_eq_true rfl, Nat.le_of_ble_eq_true rfl⟩) rfl rfl rfl hl.1 rfl (Nat.le_of_ble_eq_true rfl) dX10_addsBoth_97 ⟨Nat.zero_le _, Nat.zero_le _⟩) hD hS hA (fun H locs hP hD hS => ?_)
        refine lv_iinc (v := (l4 + 1)) (lv' := [(4, .int (l4 + 1)), (0, .ref (ad 0)), (1, .int a1), (2, .int a2), (3, .int l3), (6, .int l6)]) hx hb dX10_addsBoth_100 hl (k := 4) rfl rfl (by decide) rfl (fun ls hl => ?_)
        refine lv_goto (tgt := 11) hx hb dX10_addsBoth_103 (by decide) ?_
        exact ih11 l3 (l4 + 1) w1 c_laid c_mine c_theirs c_many _ _ hP hD hS _ (lv_sub hl [1, 2, 3, 4, 0] rfl) hm
      · have hm := k_in cc51 hm
        refine lv_aload_n hx hb dX10_addsBoth_54 rfl (lv_at hl 0 rfl) ?_
        refine lv_iload_n hx hb dX10_addsBoth_55 rfl (lv_at hl 3 rfl) ?_
        refine lv_iload hx hb dX10_addsBoth_56 (lv_at hl 5 rfl) ?_
        refine lv_iload_n hx hb dX10_addsBoth_58 rfl (lv_at hl 2 rfl) ?_
        obtain ⟨r2, hc59, hm⟩ := k_bds hm
        refine k_i_s (k_rV (As := [.int l3, .int l6, .int a2]) (rest := []) ⟨hx, hb, hml, hown, hts⟩ hK hN hP hD (zX10_refused hc59) (cwV 3 hts gX10_addsBoth_X10_refused rfl rfl rfl (by decide +kernel) ⟨Nat.le_of_ble_eq_true rfl, Nat.le_of_ble_eq_true rfl⟩) rfl rfl rfl hl.1 rfl (Nat.le_of_ble_eq_true rfl) dX10_addsBoth_59 ⟨Nat.zero_le _, Nat.zero_le _⟩) hD hS hA (fun H locs hP hD hS => ?_)
        refine lv_if_ne (tgt := 89) hx hb dX10_addsBoth_62 (by decide) (fun cc62 => ?_) (fun cc62 => ?_)
        · have hm := k_in cc62 hm
          refine lv_iinc (v := (l6 + 1)) (lv' := [(6, .int (l6 + 1)), (0, .ref (ad 0)), (1, .int a1), (2, .int a2), (3, .int l3), (4, .int l4)]) hx hb dX10_addsBoth_89 hl (k := 5) rfl rfl (by decide) rfl (fun ls hl => ?_)
          refine lv_goto (tgt := 47) hx hb dX10_addsBoth_92 (by decide) ?_
          exact ih47 l3 l4 (l6 + 1) c_s c_laid c_mine c_theirs c_many _ _ hP hD hS _ (lv_sub hl [1, 2, 3, 4, 5, 0] rfl) hm
        · have hm := k_ip cc62 hm
          refine lv_aload_n hx hb dX10_addsBoth_65 rfl (lv_at hl 0 rfl) ?_
          refine lv_iconst (v := 1) hx hb dX10_addsBoth_66 (by decide) ?_
          obtain ⟨w3, hc67, hm⟩ := k_bds hm
          refine k_v_s (k_rV (As := [.int 1]) (rest := []) ⟨hx, hb, hml, hown, hts⟩ hK hN hP hD (zX10_lays hc67) (cwV 1 hts gX10_addsBoth_X10_lays rfl rfl rfl (by decide +kernel) ⟨Nat.le_of_ble_eq_true rfl, Nat.le_of_ble_eq_true rfl⟩) rfl rfl rfl hl.1 rfl (Nat.le_of_ble_eq_true rfl) dX10_addsBoth_67 ⟨Nat.zero_le _, Nat.zero_le _⟩) hD hS hA (fun H locs hP hD hS => ?_)
          refine lv_aload_n hx hb dX10_addsBoth_70 rfl (lv_at hl 0 rfl) ?_
          refine lv_iload_n hx hb dX10_addsBoth_71 rfl (lv_at hl 3 rfl) ?_
          refine lv_iload hx hb dX10_addsBoth_72 (lv_at hl 5 rfl) ?_
          refine lv_iload_n hx hb dX10_addsBoth_74 rfl (lv_at hl 2 rfl) ?_
          obtain ⟨r4, w5, hc75, hm⟩ := k_bd2s hm
          refine k_i_s (k_rV (As := [.int l3, .int l6, .int a2]) (rest := []) ⟨hx, hb, hml, hown, hts⟩ hK hN hP hD (zX10_moves hc75) (cwV 3 hts gX10_addsBoth_X10_moves rfl rfl rfl (by decide +kernel) ⟨Nat.le_of_ble_eq_true rfl, Nat.le_of_ble_eq_true rfl⟩) rfl rfl rfl hl.1 rfl (Nat.le_of_ble_eq_true rfl) dX10_addsBoth_75 ⟨Nat.zero_le _, Nat.zero_le _⟩) hD hS hA (fun H locs hP hD hS => ?_)
          refine lv_istore (lv' := [(5, .int (k_b r4)), (0, .ref (ad 0)), (1, .int a1), (2, .int a2), (3, .int l3), (4, .int l4), (6, .int l6)]) hx hb dX10_addsBoth_78 hl (by decide) rfl (fun ls hl => ?_)
          refine lv_aload_n hx hb dX10_addsBoth_80 rfl (lv_at hl 1 rfl) ?_
          obtain ⟨w6, w7, w8, hc81, hm⟩ := k_bd3s hm
          refine k_v_s (k_rV (As := []) (rest := []) ⟨hx, hb, hml, hown, hts⟩ hK hN hP hD (zX10_adds hc81) (cwV 0 hts gX10_addsBoth_X10_adds rfl rfl rfl (by decide +kernel) ⟨Nat.le_of_ble_eq_true rfl, Nat.le_of_ble_eq_true rfl⟩) rfl rfl rfl hl.1 rfl (Nat.le_of_ble_eq_true rfl) dX10_addsBoth_81 ⟨Nat.zero_le _, Nat.zero_le _⟩) hD hS hA (fun H locs hP hD hS => ?_)
          refine lv_aload_n hx hb dX10_addsBoth_84 rfl (lv_at hl 1 rfl) ?_
          refine lv_iconst (v := 1) hx hb dX10_addsBoth_85 (by decide) ?_
          obtain ⟨w9, hc86, hm⟩ := k_bds hm
          refine k_v_s (k_rV (As := [.int 1]) (rest := []) ⟨hx, hb, hml, hown, hts⟩ hK hN hP hD (zX10_takesUp hc86) (cwV 1 hts gX10_addsBoth_X10_takesUp rfl rfl rfl (by decide +kernel) ⟨Nat.le_of_ble_eq_true rfl, Nat.le_of_ble_eq_true rfl⟩) rfl rfl rfl hl.1 rfl (Nat.le_of_ble_eq_true rfl) dX10_addsBoth_86 ⟨Nat.zero_le _, Nat.zero_le _⟩) hD hS hA (fun H locs hP hD hS => ?_)
          refine lv_iinc (v := (l6 + 1)) (lv' := [(6, .int (l6 + 1)), (5, .int (k_b r4)), (0, .ref (ad 0)), (1, .int a1), (2, .int a2), (3, .int l3), (4, .int l4)]) hx hb dX10_addsBoth_89 hl (k := 6) rfl rfl (by decide) rfl (fun ls hl => ?_)
          refine lv_goto (tgt := 47) hx hb dX10_addsBoth_92 (by decide) ?_
          exact ih47 l3 l4 (l6 + 1) w9 w3 w6 w7 w8 _ _ hP hD hS _ (lv_sub hl [2, 3, 4, 5, 6, 0] rfl) hm) k_F
    intro l3 l4 c_s c_laid c_mine c_theirs c_many H locs hP hD hS ls hl hm
    unfold mX10_addsBoth_11 at hm
    refine lv_iload hx hb dX10_addsBoth_11 (lv_at hl 4 rfl) ?_
    refine lv_bipush (v := 16) hx hb dX10_addsBoth_13 (by decide) ?_
    refine lv_icmp_ge (tgt := 106) hx hb dX10_addsBoth_15 (by decide) (fun cc15 => ?_) (fun cc15 => ?_)
    · have hm := k_ip cc15 hm
      cases hm
      exact k_end_v hx hb hr hlocks hK hP hD hS dX10_addsBoth_106
    · have hm := k_in cc15 hm
      refine lv_aload_n hx hb dX10_addsBoth_18 rfl (lv_at hl 0 rfl) ?_
      refine lv_iload_n hx hb dX10_addsBoth_19 rfl (lv_at hl 3 rfl) ?_
      refine lv_iload hx hb dX10_addsBoth_20 (lv_at hl 4 rfl) ?_
      refine lv_iload_n hx hb dX10_addsBoth_22 rfl (lv_at hl 1 rfl) ?_
      obtain ⟨r10, hc23, hm⟩ := k_bds hm
      refine k_i_s (k_rV (As := [.int l3, .int l4, .int a1]) (rest := []) ⟨hx, hb, hml, hown, hts⟩ hK hN hP hD (zX10_refused hc23) (cwV 3 hts gX10_addsBoth_X10_refused rfl rfl rfl (by decide +kernel) ⟨Nat.le_of_ble_eq_true rfl, Nat.le_of_ble_eq_true rfl⟩) rfl rfl rfl hl.1 rfl (Nat.le_of_ble_eq_true rfl) dX10_addsBoth_23 ⟨Nat.zero_le _, Nat.zero_le _⟩) hD hS hA (fun H locs hP hD hS => ?_)
      refine lv_if_ne (tgt := 100) hx hb dX10_addsBoth_26 (by decide) (fun cc26 => ?_) (fun cc26 => ?_)
      · have hm := k_in cc26 hm
        refine lv_iinc (v := (l4 + 1)) (lv' := [(4, .int (l4 + 1)), (0, .ref (ad 0)), (1, .int a1), (2, .int a2), (3, .int l3)]) hx hb dX10_addsBoth_100 hl (k := 4) rfl rfl (by decide) rfl (fun ls hl => ?_)
        refine lv_goto (tgt := 11) hx hb dX10_addsBoth_103 (by decide) ?_
        exact ih11 l3 (l4 + 1) c_s c_laid c_mine c_theirs c_many _ _ hP hD hS _ (lv_sub hl [1, 2, 3, 4, 0] rfl) hm
      · have hm := k_ip cc26 hm
        refine lv_aload_n hx hb dX10_addsBoth_29 rfl (lv_at hl 0 rfl) ?_
        refine lv_iconst (v := 0) hx hb dX10_addsBoth_30 (by decide) ?_
        obtain ⟨w11, hc31, hm⟩ := k_bds hm
        refine k_v_s (k_rV (As := [.int 0]) (rest := []) ⟨hx, hb, hml, hown, hts⟩ hK hN hP hD (zX10_lays hc31) (cwV 1 hts gX10_addsBoth_X10_lays rfl rfl rfl (by decide +kernel) ⟨Nat.le_of_ble_eq_true rfl, Nat.le_of_ble_eq_true rfl⟩) rfl rfl rfl hl.1 rfl (Nat.le_of_ble_eq_true rfl) dX10_addsBoth_31 ⟨Nat.zero_le _, Nat.zero_le _⟩) hD hS hA (fun H locs hP hD hS => ?_)
        refine lv_aload_n hx hb dX10_addsBoth_34 rfl (lv_at hl 0 rfl) ?_
        refine lv_iload_n hx hb dX10_addsBoth_35 rfl (lv_at hl 3 rfl) ?_
        refine lv_iload hx hb dX10_addsBoth_36 (lv_at hl 4 rfl) ?_
        refine lv_iload_n hx hb dX10_addsBoth_38 rfl (lv_at hl 1 rfl) ?_
        obtain ⟨r12, w13, hc39, hm⟩ := k_bd2s hm
        refine k_i_s (k_rV (As := [.int l3, .int l4, .int a1]) (rest := []) ⟨hx, hb, hml, hown, hts⟩ hK hN hP hD (zX10_moves hc39) (cwV 3 hts gX10_addsBoth_X10_moves rfl rfl rfl (by decide +kernel) ⟨Nat.le_of_ble_eq_true rfl, Nat.le_of_ble_eq_true rfl⟩) rfl rfl rfl hl.1 rfl (Nat.le_of_ble_eq_true rfl) dX10_addsBoth_39 ⟨Nat.zero_le _, Nat.zero_le _⟩) hD hS hA (fun H locs hP hD hS => ?_)
        refine lv_istore (lv' := [(5, .int (k_b r12)), (0, .ref (ad 0)), (1, .int a1), (2, .int a2), (3, .int l3), (4, .int l4)]) hx hb dX10_addsBoth_42 hl (by decide) rfl (fun ls hl => ?_)
        refine lv_iconst (v := (-1)) hx hb dX10_addsBoth_44 (by decide) ?_
        refine lv_istore (lv' := [(6, .int (-1)), (5, .int (k_b r12)), (0, .ref (ad 0)), (1, .int a1), (2, .int a2), (3, .int l3), (4, .int l4)]) hx hb dX10_addsBoth_45 hl (by decide) rfl (fun ls hl => ?_)
        exact J_47 l3 l4 (-1) w13 w11 c_mine c_theirs c_many _ _ hP hD hS _ (lv_sub hl [2, 3, 4, 5, 6, 0] rfl) hm) k_F
  unfold mX10_addsBoth at hm
  refine lv_aload_n hx hb dX10_addsBoth_0 rfl (lv_at hl 0 rfl) ?_
  refine va_get (D := D) (ci := 6) (v := .ref (ad 1)) (C := RX10) (T := TX10) (N := 20) hx hb hts hinX10 hown hK hP 0 rfl rfl 0 (by decide) fl7 (fun _ h9 => h9) rfl dX10_addsBoth_1 ?_
  refine lv_bipush (v := 36) hx hb dX10_addsBoth_4 (by decide) ?_
  refine k_iaC hx hb hK hP 1 0 rfl rfl kl_36 ki_36_51 dX10_addsBoth_6 ?_
  refine lv_istore_n (lv' := [(3, .int (c_s 36)), (0, .ref (ad 0)), (1, .int a1), (2, .int a2)]) hx hb dX10_addsBoth_7 rfl hl (by decide) rfl (fun ls hl => ?_)
  refine lv_iconst (v := (-1)) hx hb dX10_addsBoth_8 (by decide) ?_
  refine lv_istore (lv' := [(4, .int (-1)), (3, .int (c_s 36)), (0, .ref (ad 0)), (1, .int a1), (2, .int a2)]) hx hb dX10_addsBoth_9 hl (by decide) rfl (fun ls hl => ?_)
  exact J_11 (c_s 36) (-1) c_s c_laid c_mine c_theirs c_many _ _ hP hD hS _ (lv_sub hl [2, 3, 4, 1, 0] rfl) hm

