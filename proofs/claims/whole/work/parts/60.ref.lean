abbrev rmX10_thrown : Room := { frames := 0, cells := 0, slots := 0, locals := 0 }
set_option maxHeartbeats 4000000 in
set_option maxRecDepth 100000 in
theorem zX10_thrown {l : Launch} {D : va_G} {cI cJ cC cG : ClassId} {sz : Nat} {ad : Nat → Nat} {c_s : Nat → Int32} {c_before : Nat → Int32} {c_known : Int32} {c_kept : Nat → Int32} {c_isKept : Bool} {c_aside : Nat → Int32} {c_buffer : Nat → Int32} {c_length : Int32} {c_thrown : Int32} {c_laid : Nat → Int32} {c_spot : Int32} {c_isWrong : Bool} {c_isHalted : Bool} {c_mine : Nat → Int64} {c_theirs : Nat → Int64} {c_many : Int32} {c_from0 : Nat → Int64} {c_from1 : Nat → Int64} {c_dice : Nat → Int32} {c_hash : Int64} {r : Int32} (hm : mX10_thrown c_thrown = some (r)) : k_Mi l yX10_thrown wsX10_thrown rmX10_thrown D (kT cI cJ cC cG) sz ([.ref (ad 0)] : List Value) (wM cI cJ ad c_s c_before c_known c_kept c_isKept c_aside c_buffer c_length c_thrown c_laid c_spot c_isWrong c_isHalted c_mine c_theirs c_many c_from0 c_from1 c_dice c_hash) (wM cI cJ ad c_s c_before c_known c_kept c_isKept c_aside c_buffer c_length c_thrown c_laid c_spot c_isWrong c_isHalted c_mine c_theirs c_many c_from0 c_from1 c_dice c_hash) r := by
  refine k_st_i (cc := cX10_thrown) (maxL := 1) (by decide) rfl (Nat.le_of_ble_eq_true rfl) ?_
  intro p e z m below meth c A hx hb hr hml hts hown hlocks hsz hN hA hK hP hD hS ls hl
  have hown : z.vm.findClass RX10 = some m.cls := hown
  have hinX10 : ∀ w ∈ wsX100, w ∈ wsX10_thrown := by decide +kernel
  have fl48 := hts (.fieldLink RX10 48 "MagpieRunsModel" "thrown" "I") (by decide +kernel)
  have hl : lv_has ls 1 [(0, .ref (ad 0))] := hl
  unfold mX10_thrown at hm
  refine lv_aload_n hx hb dX10_thrown_0 rfl (lv_at hl 0 rfl) ?_
  refine va_get (D := D) (ci := 6) (v := .int c_thrown) (C := RX10) (T := TX10) (N := 20) hx hb hts hinX10 hown hK hP 0 rfl rfl 8 (by decide) fl48 (fun _ h9 => h9) rfl dX10_thrown_1 ?_
  cases hm
  exact k_end_i hx hb hr hlocks hK hP hD hS dX10_thrown_4

abbrev rmX10_throwing : Room := { frames := 0, cells := 0, slots := 0, locals := 0 }
set_option maxHeartbeats 4000000 in
set_option maxRecDepth 100000 in
theorem zX10_throwing {l : Launch} {D : va_G} {cI cJ cC cG : ClassId} {sz : Nat} {ad : Nat → Nat} {c_s : Nat → Int32} {c_before : Nat → Int32} {c_known : Int32} {c_kept : Nat → Int32} {c_isKept : Bool} {c_aside : Nat → Int32} {c_buffer : Nat → Int32} {c_length : Int32} {c_thrown : Int32} {c_laid : Nat → Int32} {c_spot : Int32} {c_isWrong : Bool} {c_isHalted : Bool} {c_mine : Nat → Int64} {c_theirs : Nat → Int64} {c_many : Int32} {c_from0 : Nat → Int64} {c_from1 : Nat → Int64} {c_dice : Nat → Int32} {c_hash : Int64} {a1 : Int32} {r : Int32} {c_thrown' : Int32} (hm : mX10_throwing c_thrown a1 = some (r, c_thrown')) : k_Mi l yX10_throwing wsX10_throwing rmX10_throwing D (kT cI cJ cC cG) sz ([.ref (ad 0), .int a1] : List Value) (wM cI cJ ad c_s c_before c_known c_kept c_isKept c_aside c_buffer c_length c_thrown c_laid c_spot c_isWrong c_isHalted c_mine c_theirs c_many c_from0 c_from1 c_dice c_hash) (wM cI cJ ad c_s c_before c_known c_kept c_isKept c_aside c_buffer c_length c_thrown' c_laid c_spot c_isWrong c_isHalted c_mine c_theirs c_many c_from0 c_from1 c_dice c_hash) r := by
  refine k_st_i (cc := cX10_throwing) (maxL := 2) (by decide) rfl (Nat.le_of_ble_eq_true rfl) ?_
  intro p e z m below meth c A hx hb hr hml hts hown hlocks hsz hN hA hK hP hD hS ls hl
  have hown : z.vm.findClass RX10 = some m.cls := hown
  have hinX10 : ∀ w ∈ wsX100, w ∈ wsX10_throwing := by decide +kernel
  have fl48 := hts (.fieldLink RX10 48 "MagpieRunsModel" "thrown" "I") (by decide +kernel)
  have hl : lv_has ls 2 [(0, .ref (ad 0)), (1, .int a1)] := hl
  unfold mX10_throwing at hm
  refine lv_aload_n hx hb dX10_throwing_0 rfl (lv_at hl 0 rfl) ?_
  refine lv_iload_n hx hb dX10_throwing_1 rfl (lv_at hl 1 rfl) ?_
  refine va_put (D := D) (ci := 6) (v := .int a1) (ty := .int) (C := RX10) (T := TX10) (N := 20) hx hb hts hinX10 tyX10 tyX10_ok nmX10 hown hK hP hD hS 0 rfl rfl 8 (by decide) fl48 (fun _ h9 => h9) rfl (by decide +kernel) rfl rfl (Nat.le_of_ble_eq_true rfl) dX10_throwing_2 (fun H locs hP hD hS => ?_)
  have hP : va_P D vwCl (wM cI cJ ad c_s c_before c_known c_kept c_isKept c_aside c_buffer c_length a1 c_laid c_spot c_isWrong c_isHalted c_mine c_theirs c_many c_from0 c_from1 c_dice c_hash) H := hP
  have hD : va_D A (wM cI cJ ad c_s c_before c_known c_kept c_isKept c_aside c_buffer c_length a1 c_laid c_spot c_isWrong c_isHalted c_mine c_theirs c_many c_from0 c_from1 c_dice c_hash) := hD
  refine lv_iconst (v := 0) hx hb dX10_throwing_5 (by decide) ?_
  cases hm
  exact k_end_i hx hb hr hlocks hK hP hD hS dX10_throwing_6

abbrev rmX10_in : Room := { frames := 0, cells := 0, slots := 0, locals := 0 }
set_option maxHeartbeats 4000000 in
set_option maxRecDepth 100000 in
theorem zX10_in {l : Launch} {D : va_G} {cI cJ cC cG : ClassId} {sz : Nat}  {a0 : Int32} {a1 : Int32} {a2 : Int32} {r : Bool} (hm : mX10_in a0 a1 a2 = some (r)) : k_Mi l yX10_in wsX10_in rmX10_in D (kT cI cJ cC cG) sz ([.int a0, .int a1, .int a2] : List Value) [] [] (k_b r) := by
  refine k_st_i (cc := cX10_in) (maxL := 3) (by decide) rfl (Nat.le_of_ble_eq_true rfl) ?_
  intro p e z m below meth c A hx hb hr hml hts hown hlocks hsz hN hA hK hP hD hS ls hl
  have hown : z.vm.findClass RX10 = some m.cls := hown
  have hl : lv_has ls 3 [(0, .int a0), (1, .int a1), (2, .int a2)] := hl
  unfold mX10_in at hm
  refine lv_iload_n hx hb dX10_in_0 rfl (lv_at hl 0 rfl) ?_
  refine lv_iload_n hx hb dX10_in_1 rfl (lv_at hl 1 rfl) ?_
  refine lv_icmp_lt (tgt := 14) hx hb dX10_in_2 (by decide) (fun cc2 => ?_) (fun cc2 => ?_)
  · have hm := k_ip cc2 hm
    refine lv_iconst (v := 0) hx hb dX10_in_14 (by decide) ?_
    cases hm
    exact k_end_z false hx hb hr hlocks hK hP hD hS dX10_in_15
  · have hm := k_in cc2 hm
    refine lv_iload_n hx hb dX10_in_5 rfl (lv_at hl 0 rfl) ?_
    refine lv_iload_n hx hb dX10_in_6 rfl (lv_at hl 2 rfl) ?_
    refine lv_icmp_gt (tgt := 14) hx hb dX10_in_7 (by decide) (fun cc7 => ?_) (fun cc7 => ?_)
    · have hm := k_ip cc7 hm
      refine lv_iconst (v := 0) hx hb dX10_in_14 (by decide) ?_
      cases hm
      exact k_end_z false hx hb hr hlocks hK hP hD hS dX10_in_15
    · have hm := k_in cc7 hm
      refine lv_iconst (v := 1) hx hb dX10_in_10 (by decide) ?_
      refine lv_goto (tgt := 15) hx hb dX10_in_11 (by decide) ?_
      cases hm
      exact k_end_z true hx hb hr hlocks hK hP hD hS dX10_in_15

abbrev rmX10_isPlayer : Room := { frames := 1, cells := 0, slots := 0, locals := 22 }
set_option maxHeartbeats 4000000 in
set_option maxRecDepth 100000 in
theorem zX10_isPlayer {l : Launch} {D : va_G} {cI cJ cC cG : ClassId} {sz : Nat}  {a0 : Int32} {r : Bool} (hm : mX10_isPlayer a0 = some (r)) : k_Mi l yX10_isPlayer wsX10_isPlayer rmX10_isPlayer D (kT cI cJ cC cG) sz ([.int a0] : List Value) [] [] (k_b r) := by
  refine k_st_i (cc := cX10_isPlayer) (maxL := 1) (by decide) rfl (Nat.le_of_ble_eq_true rfl) ?_
  intro p e z m below meth c A hx hb hr hml hts hown hlocks hsz hN hA hK hP hD hS ls hl
  have hown : z.vm.findClass RX10 = some m.cls := hown
  have hl : lv_has ls 1 [(0, .int a0)] := hl
  unfold mX10_isPlayer at hm
  refine lv_iload_n hx hb dX10_isPlayer_0 rfl (lv_at hl 0 rfl) ?_
  refine lv_iconst (v := 0) hx hb dX10_isPlayer_1 (by decide) ?_
  refine lv_iconst (v := 1) hx hb dX10_isPlayer_2 (by decide) ?_
  obtain ⟨r1, hc3, hm⟩ := k_bds hm
  refine k_i_0 (k_rS (As := [.int a0, .int 0, .int 1]) (rest := []) ⟨hx, hb, hml, hown, hts⟩ hK hN k_P0 (k_D0 (A := A)) (zX10_in hc3) (va_cwS 3 hts gX10_isPlayer_X10_in rfl rfl rfl (by decide +kernel) ⟨Nat.le_of_ble_eq_true rfl, Nat.le_of_ble_eq_true rfl⟩) rfl hl.1 rfl (Nat.le_of_ble_eq_true rfl) dX10_isPlayer_3 ⟨Nat.zero_le _, Nat.zero_le _⟩) hP hS hA (fun H locs hP hS => ?_)
  cases hm
  exact k_end_z _ hx hb hr hlocks hK hP hD hS dX10_isPlayer_6

abbrev rmX10_isPoint : Room := { frames := 1, cells := 0, slots := 0, locals := 22 }
set_option maxHeartbeats 4000000 in
set_option maxRecDepth 100000 in
theorem zX10_isPoint {l : Launch} {D : va_G} {cI cJ cC cG : ClassId} {sz : Nat}  {a0 : Int32} {r : Bool} (hm : mX10_isPoint a0 = some (r)) : k_Mi l yX10_isPoint wsX10_isPoint rmX10_isPoint D (kT cI cJ cC cG) sz ([.int a0] : List Value) [] [] (k_b r) := by
  refine k_st_i (cc := cX10_isPoint) (maxL := 1) (by decide) rfl (Nat.le_of_ble_eq_true rfl) ?_
  intro p e z m below meth c A hx hb hr hml hts hown hlocks hsz hN hA hK hP hD hS ls hl
  have hown : z.vm.findClass RX10 = some m.cls := hown
  have hl : lv_has ls 1 [(0, .int a0)] := hl
  unfold mX10_isPoint at hm
  refine lv_iload_n hx hb dX10_isPoint_0 rfl (lv_at hl 0 rfl) ?_
  refine lv_iconst (v := 0) hx hb dX10_isPoint_1 (by decide) ?_
  refine lv_bipush (v := 15) hx hb dX10_isPoint_2 (by decide) ?_
  obtain ⟨r1, hc4, hm⟩ := k_bds hm
  refine k_i_0 (k_rS (As := [.int a0, .int 0, .int 15]) (rest := []) ⟨hx, hb, hml, hown, hts⟩ hK hN k_P0 (k_D0 (A := A)) (zX10_in hc4) (va_cwS 3 hts gX10_isPoint_X10_in rfl rfl rfl (by decide +kernel) ⟨Nat.le_of_ble_eq_true rfl, Nat.le_of_ble_eq_true rfl⟩) rfl hl.1 rfl (Nat.le_of_ble_eq_true rfl) dX10_isPoint_4 ⟨Nat.zero_le _, Nat.zero_le _⟩) hP hS hA (fun H locs hP hS => ?_)
  cases hm
  exact k_end_z _ hx hb hr hlocks hK hP hD hS dX10_isPoint_7

abbrev rmX10_save : Room := { frames := 0, cells := 0, slots := 0, locals := 0 }
set_option maxHeartbeats 4000000 in
set_option maxRecDepth 100000 in
theorem zX10_save {l : Launch} {D : va_G} {cI cJ cC cG : ClassId} {sz : Nat} {ad : Nat → Nat} {c_s : Nat → Int32} {c_before : Nat → Int32} {c_known : Int32} {c_kept : Nat → Int32} {c_isKept : Bool} {c_aside : Nat → Int32} {c_buffer : Nat → Int32} {c_length : Int32} {c_thrown : Int32} {c_laid : Nat → Int32} {c_spot : Int32} {c_isWrong : Bool} {c_isHalted : Bool} {c_mine : Nat → Int64} {c_theirs : Nat → Int64} {c_many : Int32} {c_from0 : Nat → Int64} {c_from1 : Nat → Int64} {c_dice : Nat → Int32} {c_hash : Int64} {c_before' : Nat → Int32} {c_known' : Int32} (hm : mX10_save c_s c_before c_known = some (c_before', c_known')) : k_Mv l yX10_save wsX10_save rmX10_save D (kT cI cJ cC cG) sz ([.ref (ad 0)] : List Value) (wM cI cJ ad c_s c_before c_known c_kept c_isKept c_aside c_buffer c_length c_thrown c_laid c_spot c_isWrong c_isHalted c_mine c_theirs c_many c_from0 c_from1 c_dice c_hash) (wM cI cJ ad c_s c_before' c_known' c_kept c_isKept c_aside c_buffer c_length c_thrown c_laid c_spot c_isWrong c_isHalted c_mine c_theirs c_many c_from0 c_from1 c_dice c_hash) := by
  refine k_st_v (cc := cX10_save) (maxL := 2) (by decide) rfl (Nat.le_of_ble_eq_true rfl) ?_
  intro p e z m below meth c A hx hb hr hml hts hown hlocks hsz hN hA hK hP hD hS ls hl
  have hown : z.vm.findClass RX10 = some m.cls := hown
  have hinX10 : ∀ w ∈ wsX100, w ∈ wsX10_save := by decide +kernel
  have fl7 := hts (.fieldLink RX10 7 "MagpieRunsModel" "s" "[I") (by decide +kernel)
  have fl13 := hts (.fieldLink RX10 13 "MagpieRunsModel" "before" "[I") (by decide +kernel)
  have fl56 := hts (.fieldLink RX10 56 "MagpieRunsModel" "known" "I") (by decide +kernel)
  have hl : lv_has ls 2 [(0, .ref (ad 0))] := hl
  have J_50 := k_loop (z := fun _ _ _ => none) (st := mX10_save_50 c_s) (fun k50 : (Int32) → (Nat → Int32) → (Int32) → Option ((Nat → Int32) × (Int32)) => ∀ (l1 : Int32) (c_before : Nat → Int32) (c_known : Int32) (H : Heap) (locs : List Loc), va_P D vwCl (wM cI cJ ad c_s c_before c_known c_kept c_isKept c_aside c_buffer c_length c_thrown c_laid c_spot c_isWrong c_isHalted c_mine c_theirs c_many c_from0 c_from1 c_dice c_hash) H → va_D A (wM cI cJ ad c_s c_before c_known c_kept c_isKept c_aside c_buffer c_length c_thrown c_laid c_spot c_isWrong c_isHalted c_mine c_theirs c_many c_from0 c_from1 c_dice c_hash) → va_S A z.heap H locs → ∀ ls : Array Slot, lv_has ls 2 [(0, .ref (ad 0)), (1, .int l1)] → k50 l1 c_before c_known = some (c_before', c_known') → W p l e rmX10_save z m ([.ref (ad 0)] : List Value).toArray below meth c H locs 0 0 (k_Qv below ([.ref (ad 0)] : List Value) D (kT cI cJ cC cG) z A (wM cI cJ ad c_s c_before' c_known' c_kept c_isKept c_aside c_buffer c_length c_thrown c_laid c_spot c_isWrong c_isHalted c_mine c_theirs c_many c_from0 c_from1 c_dice c_hash)) (F0 m 50 ls [])) (by intros; rename_i h; cases h) (by
    intro k50 ih50
    intro l1 c_before c_known H locs hP hD hS ls hl hm
    unfold mX10_save_50 at hm
    refine lv_iload_n hx hb dX10_save_50 rfl (lv_at hl 1 rfl) ?_
    refine lv_bipush (v := 51) hx hb dX10_save_51 (by decide) ?_
    refine lv_icmp_ge (tgt := 82) hx hb dX10_save_53 (by decide) (fun cc53 => ?_) (fun cc53 => ?_)
    · have hm := k_ip cc53 hm
      refine lv_aload_n hx hb dX10_save_82 rfl (lv_at hl 0 rfl) ?_
      refine lv_dup hx hb dX10_save_83 rfl ?_
      refine va_get (D := D) (ci := 6) (v := .int c_known) (C := RX10) (T := TX10) (N := 20) hx hb hts hinX10 hown hK hP 0 rfl rfl 2 (by decide) fl56 (fun _ h9 => h9) rfl dX10_save_84 ?_
      refine lv_iconst (v := 1) hx hb dX10_save_87 (by decide) ?_
      refine lv_iadd hx hb dX10_save_88 ?_
      refine va_put (D := D) (ci := 6) (v := .int (c_known + 1)) (ty := .int) (C := RX10) (T := TX10) (N := 20) hx hb hts hinX10 tyX10 tyX10_ok nmX10 hown hK hP hD hS 0 rfl rfl 2 (by decide) fl56 (fun _ h9 => h9) rfl (by decide +kernel) rfl rfl (Nat.le_of_ble_eq_true rfl) dX10_save_89 (fun H locs hP hD hS => ?_)
      have hP : va_P D vwCl (wM cI cJ ad c_s c_before (c_known + 1) c_kept c_isKept c_aside c_buffer c_length c_thrown c_laid c_spot c_isWrong c_isHalted c_mine c_theirs c_many c_from0 c_from1 c_dice c_hash) H := hP
      have hD : va_D A (wM cI cJ ad c_s c_before (c_known + 1) c_kept c_isKept c_aside c_buffer c_length c_thrown c_laid c_spot c_isWrong c_isHalted c_mine c_theirs c_many c_from0 c_from1 c_dice c_hash) := hD
      cases hm
      exact k_end_v hx hb hr hlocks hK hP hD hS dX10_save_92
    · have hm := k_in cc53 hm
      refine lv_aload_n hx hb dX10_save_56 rfl (lv_at hl 0 rfl) ?_
      refine va_get (D := D) (ci := 6) (v := .ref (ad 2)) (C := RX10) (T := TX10) (N := 20) hx hb hts hinX10 hown hK hP 0 rfl rfl 1 (by decide) fl13 (fun _ h9 => h9) rfl dX10_save_57 ?_
      refine lv_bipush (v := 51) hx hb dX10_save_60 (by decide) ?_
      refine lv_aload_n hx hb dX10_save_62 rfl (lv_at hl 0 rfl) ?_
      refine va_get (D := D) (ci := 6) (v := .int c_known) (C := RX10) (T := TX10) (N := 20) hx hb hts hinX10 hown hK hP 0 rfl rfl 2 (by decide) fl56 (fun _ h9 => h9) rfl dX10_save_63 ?_
      refine lv_imul hx hb dX10_save_66 ?_
      refine lv_iload_n hx hb dX10_save_67 rfl (lv_at hl 1 rfl) ?_
      refine lv_iadd hx hb dX10_save_68 ?_
      refine lv_aload_n hx hb dX10_save_69 rfl (lv_at hl 0 rfl) ?_
      refine va_get (D := D) (ci := 6) (v := .ref (ad 1)) (C := RX10) (T := TX10) (N := 20) hx hb hts hinX10 hown hK hP 0 rfl rfl 0 (by decide) fl7 (fun _ h9 => h9) rfl dX10_save_70 ?_
      refine lv_iload_n hx hb dX10_save_73 rfl (lv_at hl 1 rfl) ?_
      obtain ⟨gi74, hm⟩ := k_gs hm
      refine va_iald hx hb hK hP 1 0 rfl rfl gi74 dX10_save_74 ?_
      obtain ⟨gi75, hm⟩ := k_gs hm
      refine va_iast hx hb hK hP hD hS 2 0 rfl rfl gi75 dX10_save_75 (fun H locs hP hD hS => ?_)
      have hP : va_P D vwCl (wM cI cJ ad c_s (upd c_before (Int32.toNatClampNeg ((51 * c_known) + l1)) (c_s (Int32.toNatClampNeg l1))) c_known c_kept c_isKept c_aside c_buffer c_length c_thrown c_laid c_spot c_isWrong c_isHalted c_mine c_theirs c_many c_from0 c_from1 c_dice c_hash) H := hP
      have hD : va_D A (wM cI cJ ad c_s (upd c_before (Int32.toNatClampNeg ((51 * c_known) + l1)) (c_s (Int32.toNatClampNeg l1))) c_known c_kept c_isKept c_aside c_buffer c_length c_thrown c_laid c_spot c_isWrong c_isHalted c_mine c_theirs c_many c_from0 c_from1 c_dice c_hash) := hD
      refine lv_iinc (v := (l1 + 1)) (lv' := [(1, .int (l1 + 1)), (0, .ref (ad 0))]) hx hb dX10_save_76 hl (k := 1) rfl rfl (by decide) rfl (fun ls hl => ?_)
      refine lv_goto (tgt := 50) hx hb dX10_save_79 (by decide) ?_
      exact ih50 (l1 + 1) (upd c_before (Int32.toNatClampNeg ((51 * c_known) + l1)) (c_s (Int32.toNatClampNeg l1))) c_known _ _ hP hD hS _ (lv_sub hl [1, 0] rfl) hm) k_F
  have J_48 : ∀ (c_before : Nat → Int32) (c_known : Int32) (H : Heap) (locs : List Loc), va_P D vwCl (wM cI cJ ad c_s c_before c_known c_kept c_isKept c_aside c_buffer c_length c_thrown c_laid c_spot c_isWrong c_isHalted c_mine c_theirs c_many c_from0 c_from1 c_dice c_hash) H → va_D A (wM cI cJ ad c_s c_before c_known c_kept c_isKept c_aside c_buffer c_length c_thrown c_laid c_spot c_isWrong c_isHalted c_mine c_theirs c_many c_from0 c_from1 c_dice c_hash) → va_S A z.heap H locs → ∀ ls : Array Slot, lv_has ls 2 [(0, .ref (ad 0))] → mX10_save_48 c_s c_before c_known = some (c_before', c_known') → W p l e rmX10_save z m ([.ref (ad 0)] : List Value).toArray below meth c H locs 0 0 (k_Qv below ([.ref (ad 0)] : List Value) D (kT cI cJ cC cG) z A (wM cI cJ ad c_s c_before' c_known' c_kept c_isKept c_aside c_buffer c_length c_thrown c_laid c_spot c_isWrong c_isHalted c_mine c_theirs c_many c_from0 c_from1 c_dice c_hash)) (F0 m 48 ls []) := by
    intro c_before c_known H locs hP hD hS ls hl hm
    unfold mX10_save_48 at hm
    refine lv_iconst (v := 0) hx hb dX10_save_48 (by decide) ?_
    refine lv_istore_n (lv' := [(1, .int 0), (0, .ref (ad 0))]) hx hb dX10_save_49 rfl hl (by decide) rfl (fun ls hl => ?_)
    exact J_50 0 c_before c_known _ _ hP hD hS _ (lv_sub hl [1, 0] rfl) hm
  have J_10 := k_loop (z := fun _ _ _ => none) (st := mX10_save_10 c_s) (fun k10 : (Int32) → (Nat → Int32) → (Int32) → Option ((Nat → Int32) × (Int32)) => ∀ (l1 : Int32) (c_before : Nat → Int32) (c_known : Int32) (H : Heap) (locs : List Loc), va_P D vwCl (wM cI cJ ad c_s c_before c_known c_kept c_isKept c_aside c_buffer c_length c_thrown c_laid c_spot c_isWrong c_isHalted c_mine c_theirs c_many c_from0 c_from1 c_dice c_hash) H → va_D A (wM cI cJ ad c_s c_before c_known c_kept c_isKept c_aside c_buffer c_length c_thrown c_laid c_spot c_isWrong c_isHalted c_mine c_theirs c_many c_from0 c_from1 c_dice c_hash) → va_S A z.heap H locs → ∀ ls : Array Slot, lv_has ls 2 [(0, .ref (ad 0)), (1, .int l1)] → k10 l1 c_before c_known = some (c_before', c_known') → W p l e rmX10_save z m ([.ref (ad 0)] : List Value).toArray below meth c H locs 0 0 (k_Qv below ([.ref (ad 0)] : List Value) D (kT cI cJ cC cG) z A (wM cI cJ ad c_s c_before' c_known' c_kept c_isKept c_aside c_buffer c_length c_thrown c_laid c_spot c_isWrong c_isHalted c_mine c_theirs c_many c_from0 c_from1 c_dice c_hash)) (F0 m 10 ls [])) (by intros; rename_i h; cases h) (by
    intro k10 ih10
    intro l1 c_before c_known H locs hP hD hS ls hl hm
    unfold mX10_save_10 at hm
    refine lv_iload_n hx hb dX10_save_10 rfl (lv_at hl 1 rfl) ?_
    refine lv_sipush (v := 204) hx hb dX10_save_11 (by decide) ?_
    refine lv_icmp_ge (tgt := 38) hx hb dX10_save_14 (by decide) (fun cc14 => ?_) (fun cc14 => ?_)
    · have hm := k_ip cc14 hm
      refine lv_aload_n hx hb dX10_save_38 rfl (lv_at hl 0 rfl) ?_
      refine lv_dup hx hb dX10_save_39 rfl ?_
      refine va_get (D := D) (ci := 6) (v := .int c_known) (C := RX10) (T := TX10) (N := 20) hx hb hts hinX10 hown hK hP 0 rfl rfl 2 (by decide) fl56 (fun _ h9 => h9) rfl dX10_save_40 ?_
      refine lv_iconst (v := 1) hx hb dX10_save_43 (by decide) ?_
      refine lv_isub hx hb dX10_save_44 ?_
      refine va_put (D := D) (ci := 6) (v := .int (c_known - 1)) (ty := .int) (C := RX10) (T := TX10) (N := 20) hx hb hts hinX10 tyX10 tyX10_ok nmX10 hown hK hP hD hS 0 rfl rfl 2 (by decide) fl56 (fun _ h9 => h9) rfl (by decide +kernel) rfl rfl (Nat.le_of_ble_eq_true rfl) dX10_save_45 (fun H locs hP hD hS => ?_)
      have hP : va_P D vwCl (wM cI cJ ad c_s c_before (c_known - 1) c_kept c_isKept c_aside c_buffer c_length c_thrown c_laid c_spot c_isWrong c_isHalted c_mine c_theirs c_many c_from0 c_from1 c_dice c_hash) H := hP
      have hD : va_D A (wM cI cJ ad c_s c_before (c_known - 1) c_kept c_isKept c_aside c_buffer c_length c_thrown c_laid c_spot c_isWrong c_isHalted c_mine c_theirs c_many c_from0 c_from1 c_dice c_hash) := hD
      exact J_48 c_before (c_known - 1) _ _ hP hD hS _ (lv_sub hl [0] rfl) hm
    · have hm := k_in cc14 hm
      refine lv_aload_n hx hb dX10_save_17 rfl (lv_at hl 0 rfl) ?_
      refine va_get (D := D) (ci := 6) (v := .ref (ad 2)) (C := RX10) (T := TX10) (N := 20) hx hb hts hinX10 hown hK hP 0 rfl rfl 1 (by decide) fl13 (fun _ h9 => h9) rfl dX10_save_18 ?_
      refine lv_iload_n hx hb dX10_save_21 rfl (lv_at hl 1 rfl) ?_
      refine lv_aload_n hx hb dX10_save_22 rfl (lv_at hl 0 rfl) ?_
      refine va_get (D := D) (ci := 6) (v := .ref (ad 2)) (C := RX10) (T := TX10) (N := 20) hx hb hts hinX10 hown hK hP 0 rfl rfl 1 (by decide) fl13 (fun _ h9 => h9) rfl dX10_save_23 ?_
      refine lv_bipush (v := 51) hx hb dX10_save_26 (by decide) ?_
      refine lv_iload_n hx hb dX10_save_28 rfl (lv_at hl 1 rfl) ?_
      refine lv_iadd hx hb dX10_save_29 ?_
      obtain ⟨gi30, hm⟩ := k_gs hm
      refine va_iald hx hb hK hP 2 0 rfl rfl gi30 dX10_save_30 ?_
      obtain ⟨gi31, hm⟩ := k_gs hm
      refine va_iast hx hb hK hP hD hS 2 0 rfl rfl gi31 dX10_save_31 (fun H locs hP hD hS => ?_)
      have hP : va_P D vwCl (wM cI cJ ad c_s (upd c_before (Int32.toNatClampNeg l1) (c_before (Int32.toNatClampNeg (51 + l1)))) c_known c_kept c_isKept c_aside c_buffer c_length c_thrown c_laid c_spot c_isWrong c_isHalted c_mine c_theirs c_many c_from0 c_from1 c_dice c_hash) H := hP
      have hD : va_D A (wM cI cJ ad c_s (upd c_before (Int32.toNatClampNeg l1) (c_before (Int32.toNatClampNeg (51 + l1)))) c_known c_kept c_isKept c_aside c_buffer c_length c_thrown c_laid c_spot c_isWrong c_isHalted c_mine c_theirs c_many c_from0 c_from1 c_dice c_hash) := hD
      refine lv_iinc (v := (l1 + 1)) (lv' := [(1, .int (l1 + 1)), (0, .ref (ad 0))]) hx hb dX10_save_32 hl (k := 1) rfl rfl (by decide) rfl (fun ls hl => ?_)
      refine lv_goto (tgt := 10) hx hb dX10_save_35 (by decide) ?_
      exact ih10 (l1 + 1) (upd c_before (Int32.toNatClampNeg l1) (c_before (Int32.toNatClampNeg (51 + l1)))) c_known _ _ hP hD hS _ (lv_sub hl [1, 0] rfl) hm) k_F
  unfold mX10_save at hm
  refine lv_aload_n hx hb dX10_save_0 rfl (lv_at hl 0 rfl) ?_
  refine va_get (D := D) (ci := 6) (v := .int c_known) (C := RX10) (T := TX10) (N := 20) hx hb hts hinX10 hown hK hP 0 rfl rfl 2 (by decide) fl56 (fun _ h9 => h9) rfl dX10_save_1 ?_
  refine lv_iconst (v := 5) hx hb dX10_save_4 (by decide) ?_
  refine lv_icmp_ne (tgt := 48) hx hb dX10_save_5 (by decide) (fun cc5 => ?_) (fun cc5 => ?_)
  · have hm := k_in cc5 hm
    exact J_48 c_before c_known _ _ hP hD hS _ (lv_sub hl [0] rfl) hm
  · have hm := k_ip cc5 hm
    refine lv_iconst (v := 0) hx hb dX10_save_8 (by decide) ?_
    refine lv_istore_n (lv' := [(1, .int 0), (0, .ref (ad 0))]) hx hb dX10_save_9 rfl hl (by decide) rfl (fun ls hl => ?_)
    exact J_10 0 c_before c_known _ _ hP hD hS _ (lv_sub hl [1, 0] rfl) hm

abbrev rmX10_at : Room := { frames := 0, cells := 0, slots := 0, locals := 0 }
set_option maxHeartbeats 4000000 in
set_option maxRecDepth 100000 in
theorem zX10_at {l : Launch} {D : va_G} {cI cJ cC cG : ClassId} {sz : Nat} {ad : Nat → Nat} {c_s : Nat → Int32} {c_before : Nat → Int32} {c_known : Int32} {c_kept : Nat → Int32} {c_isKept : Bool} {c_aside : Nat → Int32} {c_buffer : Nat → Int32} {c_length : Int32} {c_thrown : Int32} {c_laid : Nat → Int32} {c_spot : Int32} {c_isWrong : Bool} {c_isHalted : Bool} {c_mine : Nat → Int64} {c_theirs : Nat → Int64} {c_many : Int32} {c_from0 : Nat → Int64} {c_from1 : Nat → Int64} {c_dice : Nat → Int32} {c_hash : Int64} {a1 : Int32} {a2 : Int32} {r : Int32} (hm : mX10_at c_s a1 a2 = some (r)) : k_Mi l yX10_at wsX10_at rmX10_at D (kT cI cJ cC cG) sz ([.ref (ad 0), .int a1, .int a2] : List Value) (wM cI cJ ad c_s c_before c_known c_kept c_isKept c_aside c_buffer c_length c_thrown c_laid c_spot c_isWrong c_isHalted c_mine c_theirs c_many c_from0 c_from1 c_dice c_hash) (wM cI cJ ad c_s c_before c_known c_kept c_isKept c_aside c_buffer c_length c_thrown c_laid c_spot c_isWrong c_isHalted c_mine c_theirs c_many c_from0 c_from1 c_dice c_hash) r := by
  refine k_st_i (cc := cX10_at) (maxL := 3) (by decide) rfl (Nat.le_of_ble_eq_true rfl) ?_
  intro p e z m below meth c A hx hb hr hml hts hown hlocks hsz hN hA hK hP hD hS ls hl
  have hown : z.vm.findClass RX10 = some m.cls := hown
  have hinX10 : ∀ w ∈ wsX100, w ∈ wsX10_at := by decide +kernel
  have fl7 := hts (.fieldLink RX10 7 "MagpieRunsModel" "s" "[I") (by decide +kernel)
  have hl : lv_has ls 3 [(0, .ref (ad 0)), (1, .int a1), (2, .int a2)] := hl
  unfold mX10_at at hm
  refine lv_aload_n hx hb dX10_at_0 rfl (lv_at hl 0 rfl) ?_
  refine va_get (D := D) (ci := 6) (v := .ref (ad 1)) (C := RX10) (T := TX10) (N := 20) hx hb hts hinX10 hown hK hP 0 rfl rfl 0 (by decide) fl7 (fun _ h9 => h9) rfl dX10_at_1 ?_
  refine lv_bipush (v := 18) hx hb dX10_at_4 (by decide) ?_
  refine lv_iload_n hx hb dX10_at_6 rfl (lv_at hl 1 rfl) ?_
  refine lv_imul hx hb dX10_at_7 ?_
  refine lv_iload_n hx hb dX10_at_8 rfl (lv_at hl 2 rfl) ?_
  refine lv_iadd hx hb dX10_at_9 ?_
  refine lv_iconst (v := 1) hx hb dX10_at_10 (by decide) ?_
  refine lv_iadd hx hb dX10_at_11 ?_
  obtain ⟨gi12, hm⟩ := k_gs hm
  refine va_iald hx hb hK hP 1 0 rfl rfl gi12 dX10_at_12 ?_
  cases hm
  exact k_end_i hx hb hr hlocks hK hP hD hS dX10_at_13

abbrev rmX10_grow : Room := { frames := 0, cells := 0, slots := 0, locals := 0 }
set_option maxHeartbeats 4000000 in
set_option maxRecDepth 100000 in
theorem zX10_grow {l : Launch} {D : va_G} {cI cJ cC cG : ClassId} {sz : Nat} {ad : Nat → Nat} {c_s : Nat → Int32} {c_before : Nat → Int32} {c_known : Int32} {c_kept : Nat → Int32} {c_isKept : Bool} {c_aside : Nat → Int32} {c_buffer : Nat → Int32} {c_length : Int32} {c_thrown : Int32} {c_laid : Nat → Int32} {c_spot : Int32} {c_isWrong : Bool} {c_isHalted : Bool} {c_mine : Nat → Int64} {c_theirs : Nat → Int64} {c_many : Int32} {c_from0 : Nat → Int64} {c_from1 : Nat → Int64} {c_dice : Nat → Int32} {c_hash : Int64} {a1 : Int32} {a2 : Int32} {a3 : Int32} {c_s' : Nat → Int32} (hm : mX10_grow c_s a1 a2 a3 = some (c_s')) : k_Mv l yX10_grow wsX10_grow rmX10_grow D (kT cI cJ cC cG) sz ([.ref (ad 0), .int a1, .int a2, .int a3] : List Value) (wM cI cJ ad c_s c_before c_known c_kept c_isKept c_aside c_buffer c_length c_thrown c_laid c_spot c_isWrong c_isHalted c_mine c_theirs c_many c_from0 c_from1 c_dice c_hash) (wM cI cJ ad c_s' c_before c_known c_kept c_isKept c_aside c_buffer c_length c_thrown c_laid c_spot c_isWrong c_isHalted c_mine c_theirs c_many c_from0 c_from1 c_dice c_hash) := by
  refine k_st_v (cc := cX10_grow) (maxL := 4) (by decide) rfl (Nat.le_of_ble_eq_true rfl) ?_
  intro p e z m below meth c A hx hb hr hml hts hown hlocks hsz hN hA hK hP hD hS ls hl
  have hown : z.vm.findClass RX10 = some m.cls := hown
  have hinX10 : ∀ w ∈ wsX100, w ∈ wsX10_grow := by decide +kernel
  have fl7 := hts (.fieldLink RX10 7 "MagpieRunsModel" "s" "[I") (by decide +kernel)
  have hl : lv_has ls 4 [(0, .ref (ad 0)), (1, .int a1), (2, .int a2), (3, .int a3)] := hl
  unfold mX10_grow at hm
  refine lv_aload_n hx hb dX10_grow_0 rfl (lv_at hl 0 rfl) ?_
  refine va_get (D := D) (ci := 6) (v := .ref (ad 1)) (C := RX10) (T := TX10) (N := 20) hx hb hts hinX10 hown hK hP 0 rfl rfl 0 (by decide) fl7 (fun _ h9 => h9) rfl dX10_grow_1 ?_
  refine lv_bipush (v := 18) hx hb dX10_grow_4 (by decide) ?_
  refine lv_iload_n hx hb dX10_grow_6 rfl (lv_at hl 1 rfl) ?_
  refine lv_imul hx hb dX10_grow_7 ?_
  refine lv_iload_n hx hb dX10_grow_8 rfl (lv_at hl 2 rfl) ?_
  refine lv_iadd hx hb dX10_grow_9 ?_
  refine lv_iconst (v := 1) hx hb dX10_grow_10 (by decide) ?_
  refine lv_iadd hx hb dX10_grow_11 ?_
  refine lv_dup2_11 hx hb dX10_grow_12 rfl rfl ?_
  obtain ⟨gi13, hm⟩ := k_gs hm
  refine va_iald hx hb hK hP 1 0 rfl rfl gi13 dX10_grow_13 ?_
  refine lv_iload_n hx hb dX10_grow_14 rfl (lv_at hl 3 rfl) ?_
  refine lv_iadd hx hb dX10_grow_15 ?_
  obtain ⟨gi16, hm⟩ := k_gs hm
  refine va_iast hx hb hK hP hD hS 1 0 rfl rfl gi16 dX10_grow_16 (fun H locs hP hD hS => ?_)
  have hP : va_P D vwCl (wM cI cJ ad (upd c_s (Int32.toNatClampNeg (((18 * a1) + a2) + 1)) ((c_s (Int32.toNatClampNeg (((18 * a1) + a2) + 1))) + a3)) c_before c_known c_kept c_isKept c_aside c_buffer c_length c_thrown c_laid c_spot c_isWrong c_isHalted c_mine c_theirs c_many c_from0 c_from1 c_dice c_hash) H := hP
  have hD : va_D A (wM cI cJ ad (upd c_s (Int32.toNatClampNeg (((18 * a1) + a2) + 1)) ((c_s (Int32.toNatClampNeg (((18 * a1) + a2) + 1))) + a3)) c_before c_known c_kept c_isKept c_aside c_buffer c_length c_thrown c_laid c_spot c_isWrong c_isHalted c_mine c_theirs c_many c_from0 c_from1 c_dice c_hash) := hD
  cases hm
  exact k_end_v hx hb hr hlocks hK hP hD hS dX10_grow_17

abbrev rmX10_clearDice : Room := { frames := 0, cells := 0, slots := 0, locals := 0 }
set_option maxHeartbeats 4000000 in
set_option maxRecDepth 100000 in
theorem zX10_clearDice {l : Launch} {D : va_G} {cI cJ cC cG : ClassId} {sz : Nat} {ad : Nat → Nat} {c_s : Nat → Int32} {c_before : Nat → Int32} {c_known : Int32} {c_kept : Nat → Int32} {c_isKept : Bool} {c_aside : Nat → Int32} {c_buffer : Nat → Int32} {c_length : Int32} {c_thrown : Int32} {c_laid : Nat → Int32} {c_spot : Int32} {c_isWrong : Bool} {c_isHalted : Bool} {c_mine : Nat → Int64} {c_theirs : Nat → Int64} {c_many : Int32} {c_from0 : Nat → Int64} {c_from1 : Nat → Int64} {c_dice : Nat → Int32} {c_hash : Int64} {c_s' : Nat → Int32} (hm : mX10_clearDice c_s = some (c_s')) : k_Mv l yX10_clearDice wsX10_clearDice rmX10_clearDice D (kT cI cJ cC cG) sz ([.ref (ad 0)] : List Value) (wM cI cJ ad c_s c_before c_known c_kept c_isKept c_aside c_buffer c_length c_thrown c_laid c_spot c_isWrong c_isHalted c_mine c_theirs c_many c_from0 c_from1 c_dice c_hash) (wM cI cJ ad c_s' c_before c_known c_kept c_isKept c_aside c_buffer c_length c_thrown c_laid c_spot c_isWrong c_isHalted c_mine c_theirs c_many c_from0 c_from1 c_dice c_hash) := by
  refine k_st_v (cc := cX10_clearDice) (maxL := 2) (by decide) rfl (Nat.le_of_ble_eq_true rfl) ?_
  intro p e z m below meth c A hx hb hr hml hts hown hlocks hsz hN hA hK hP hD hS ls hl
  have hown : z.vm.findClass RX10 = some m.cls := hown
  have hinX10 : ∀ w ∈ wsX100, w ∈ wsX10_clearDice := by decide +kernel
  have fl7 := hts (.fieldLink RX10 7 "MagpieRunsModel" "s" "[I") (by decide +kernel)
  have hl : lv_has ls 2 [(0, .ref (ad 0))] := hl
  have J_10 := k_loop (z := fun _ _ => none) (st := mX10_clearDice_10) (fun k10 : (Int32) → (Nat → Int32) → Option ((Nat → Int32)) => ∀ (l1 : Int32) (c_s : Nat → Int32) (H : Heap) (locs : List Loc), va_P D vwCl (wM cI cJ ad c_s c_before c_known c_kept c_isKept c_aside c_buffer c_length c_thrown c_laid c_spot c_isWrong c_isHalted c_mine c_theirs c_many c_from0 c_from1 c_dice c_hash) H → va_D A (wM cI cJ ad c_s c_before c_known c_kept c_isKept c_aside c_buffer c_length c_thrown c_laid c_spot c_isWrong c_isHalted c_mine c_theirs c_many c_from0 c_from1 c_dice c_hash) → va_S A z.heap H locs → ∀ ls : Array Slot, lv_has ls 2 [(0, .ref (ad 0)), (1, .int l1)] → k10 l1 c_s = some (c_s') → W p l e rmX10_clearDice z m ([.ref (ad 0)] : List Value).toArray below meth c H locs 0 0 (k_Qv below ([.ref (ad 0)] : List Value) D (kT cI cJ cC cG) z A (wM cI cJ ad c_s' c_before c_known c_kept c_isKept c_aside c_buffer c_length c_thrown c_laid c_spot c_isWrong c_isHalted c_mine c_theirs c_many c_from0 c_from1 c_dice c_hash)) (F0 m 10 ls [])) (by intros; rename_i h; cases h) (by
    intro k10 ih10
    intro l1 c_s H locs hP hD hS ls hl hm
    unfold mX10_clearDice_10 at hm
    refine lv_iload_n hx hb dX10_clearDice_10 rfl (lv_at hl 1 rfl) ?_
    refine lv_iconst (v := 4) hx hb dX10_clearDice_11 (by decide) ?_
    refine lv_icmp_ge (tgt := 31) hx hb dX10_clearDice_12 (by decide) (fun cc12 => ?_) (fun cc12 => ?_)
    · have hm := k_ip cc12 hm
      cases hm
      exact k_end_v hx hb hr hlocks hK hP hD hS dX10_clearDice_31
    · have hm := k_in cc12 hm
      refine lv_aload_n hx hb dX10_clearDice_15 rfl (lv_at hl 0 rfl) ?_
      refine va_get (D := D) (ci := 6) (v := .ref (ad 1)) (C := RX10) (T := TX10) (N := 20) hx hb hts hinX10 hown hK hP 0 rfl rfl 0 (by decide) fl7 (fun _ h9 => h9) rfl dX10_clearDice_16 ?_
      refine lv_bipush (v := 39) hx hb dX10_clearDice_19 (by decide) ?_
      refine lv_iload_n hx hb dX10_clearDice_21 rfl (lv_at hl 1 rfl) ?_
      refine lv_iadd hx hb dX10_clearDice_22 ?_
      refine lv_iconst (v := 0) hx hb dX10_clearDice_23 (by decide) ?_
      obtain ⟨gi24, hm⟩ := k_gs hm
      refine va_iast hx hb hK hP hD hS 1 0 rfl rfl gi24 dX10_clearDice_24 (fun H locs hP hD hS => ?_)
      have hP : va_P D vwCl (wM cI cJ ad (upd c_s (Int32.toNatClampNeg (39 + l1)) 0) c_before c_known c_kept c_isKept c_aside c_buffer c_length c_thrown c_laid c_spot c_isWrong c_isHalted c_mine c_theirs c_many c_from0 c_from1 c_dice c_hash) H := hP
      have hD : va_D A (wM cI cJ ad (upd c_s (Int32.toNatClampNeg (39 + l1)) 0) c_before c_known c_kept c_isKept c_aside c_buffer c_length c_thrown c_laid c_spot c_isWrong c_isHalted c_mine c_theirs c_many c_from0 c_from1 c_dice c_hash) := hD
      refine lv_iinc (v := (l1 + 1)) (lv' := [(1, .int (l1 + 1)), (0, .ref (ad 0))]) hx hb dX10_clearDice_25 hl (k := 1) rfl rfl (by decide) rfl (fun ls hl => ?_)
      refine lv_goto (tgt := 10) hx hb dX10_clearDice_28 (by decide) ?_
      exact ih10 (l1 + 1) (upd c_s (Int32.toNatClampNeg (39 + l1)) 0) _ _ hP hD hS _ (lv_sub hl [1, 0] rfl) hm) k_F
  unfold mX10_clearDice at hm
  refine lv_aload_n hx hb dX10_clearDice_0 rfl (lv_at hl 0 rfl) ?_
  refine va_get (D := D) (ci := 6) (v := .ref (ad 1)) (C := RX10) (T := TX10) (N := 20) hx hb hts hinX10 hown hK hP 0 rfl rfl 0 (by decide) fl7 (fun _ h9 => h9) rfl dX10_clearDice_1 ?_
  refine lv_bipush (v := 38) hx hb dX10_clearDice_4 (by decide) ?_
  refine lv_iconst (v := 0) hx hb dX10_clearDice_6 (by decide) ?_
  refine k_isC hx hb hK hP hD hS 1 0 rfl rfl kl_38 ki_38_51 dX10_clearDice_7 (fun H locs hP hD hS => ?_)
  have hP : va_P D vwCl (wM cI cJ ad (upd c_s 38 0) c_before c_known c_kept c_isKept c_aside c_buffer c_length c_thrown c_laid c_spot c_isWrong c_isHalted c_mine c_theirs c_many c_from0 c_from1 c_dice c_hash) H := hP
  have hD : va_D A (wM cI cJ ad (upd c_s 38 0) c_before c_known c_kept c_isKept c_aside c_buffer c_length c_thrown c_laid c_spot c_isWrong c_isHalted c_mine c_theirs c_many c_from0 c_from1 c_dice c_hash) := hD
  refine lv_iconst (v := 0) hx hb dX10_clearDice_8 (by decide) ?_
  refine lv_istore_n (lv' := [(1, .int 0), (0, .ref (ad 0))]) hx hb dX10_clearDice_9 rfl hl (by decide) rfl (fun ls hl => ?_)
  exact J_10 0 (upd c_s 38 0) _ _ hP hD hS _ (lv_sub hl [1, 0] rfl) hm

abbrev rmX10_begins : Room := { frames := 1, cells := 0, slots := 0, locals := 23 }
set_option maxHeartbeats 4000000 in
set_option maxRecDepth 100000 in
theorem zX10_begins {l : Launch} {D : va_G} {cI cJ cC cG : ClassId} {sz : Nat} {ad : Nat → Nat} {c_s : Nat → Int32} {c_before : Nat → Int32} {c_known : Int32} {c_kept : Nat → Int32} {c_isKept : Bool} {c_aside : Nat → Int32} {c_buffer : Nat → Int32} {c_length : Int32} {c_thrown : Int32} {c_laid : Nat → Int32} {c_spot : Int32} {c_isWrong : Bool} {c_isHalted : Bool} {c_mine : Nat → Int64} {c_theirs : Nat → Int64} {c_many : Int32} {c_from0 : Nat → Int64} {c_from1 : Nat → Int64} {c_dice : Nat → Int32} {c_hash : Int64} {a1 : Int32} {c_s' : Nat → Int32} (hm : mX10_begins c_s a1 = some (c_s')) : k_Mv l yX10_begins wsX10_begins rmX10_begins D (kT cI cJ cC cG) sz ([.ref (ad 0), .int a1] : List Value) (wM cI cJ ad c_s c_before c_known c_kept c_isKept c_aside c_buffer c_length c_thrown c_laid c_spot c_isWrong c_isHalted c_mine c_theirs c_many c_from0 c_from1 c_dice c_hash) (wM cI cJ ad c_s' c_before c_known c_kept c_isKept c_aside c_buffer c_length c_thrown c_laid c_spot c_isWrong c_isHalted c_mine c_theirs c_many c_from0 c_from1 c_dice c_hash) := by
  refine k_st_v (cc := cX10_begins) (maxL := 3) (by decide) rfl (Nat.le_of_ble_eq_true rfl) ?_
  intro p e z m below meth c A hx hb hr hml hts hown hlocks hsz hN hA hK hP hD hS ls hl
  have hown : z.vm.findClass RX10 = some m.cls := hown
  have hinX10 : ∀ w ∈ wsX100, w ∈ wsX10_begins := by decide +kernel
  have fl7 := hts (.fieldLink RX10 7 "MagpieRunsModel" "s" "[I") (by decide +kernel)
  have hl : lv_has ls 3 [(0, .ref (ad 0)), (1, .int a1)] := hl
  have J_2 := k_loop (z := fun _ _ => none) (st := mX10_begins_2 a1) (fun k2 : (Int32) → (Nat → Int32) → Option ((Nat → Int32)) => ∀ (l2 : Int32) (c_s : Nat → Int32) (H : Heap) (locs : List Loc), va_P D vwCl (wM cI cJ ad c_s c_before c_known c_kept c_isKept c_aside c_buffer c_length c_thrown c_laid c_spot c_isWrong c_isHalted c_mine c_theirs c_many c_from0 c_from1 c_dice c_hash) H → va_D A (wM cI cJ ad c_s c_before c_known c_kept c_isKept c_aside c_buffer c_length c_thrown c_laid c_spot c_isWrong c_isHalted c_mine c_theirs c_many c_from0 c_from1 c_dice c_hash) → va_S A z.heap H locs → ∀ ls : Array Slot, lv_has ls 3 [(0, .ref (ad 0)), (1, .int a1), (2, .int l2)] → k2 l2 c_s = some (c_s') → W p l e rmX10_begins z m ([.ref (ad 0), .int a1] : List Value).toArray below meth c H locs 0 0 (k_Qv below ([.ref (ad 0), .int a1] : List Value) D (kT cI cJ cC cG) z A (wM cI cJ ad c_s' c_before c_known c_kept c_isKept c_aside c_buffer c_length c_thrown c_laid c_spot c_isWrong c_isHalted c_mine c_theirs c_many c_from0 c_from1 c_dice c_hash)) (F0 m 2 ls [])) (by intros; rename_i h; cases h) (by
    intro k2 ih2
    intro l2 c_s H locs hP hD hS ls hl hm
    unfold mX10_begins_2 at hm
    refine lv_iload_n hx hb dX10_begins_2 rfl (lv_at hl 2 rfl) ?_
    refine lv_bipush (v := 36) hx hb dX10_begins_3 (by decide) ?_
    refine lv_icmp_ge (tgt := 21) hx hb dX10_begins_5 (by decide) (fun cc5 => ?_) (fun cc5 => ?_)
    · have hm := k_ip cc5 hm
      refine lv_aload_n hx hb dX10_begins_21 rfl (lv_at hl 0 rfl) ?_
      refine lv_iconst (v := 0) hx hb dX10_begins_22 (by decide) ?_
      refine lv_iconst (v := 0) hx hb dX10_begins_23 (by decide) ?_
      refine lv_iconst (v := 2) hx hb dX10_begins_24 (by decide) ?_
      obtain ⟨w1, hc25, hm⟩ := k_bds hm
      refine k_v_s (k_rV (As := [.int 0, .int 0, .int 2]) (rest := []) ⟨hx, hb, hml, hown, hts⟩ hK hN hP hD (zX10_grow hc25) (cwV 3 hts gX10_begins_X10_grow rfl rfl rfl (by decide +kernel) ⟨Nat.le_of_ble_eq_true rfl, Nat.le_of_ble_eq_true rfl⟩) rfl rfl rfl hl.1 rfl (Nat.le_of_ble_eq_true rfl) dX10_begins_25 ⟨Nat.zero_le _, Nat.zero_le _⟩) hD hS hA (fun H locs hP hD hS => ?_)
      refine lv_aload_n hx hb dX10_begins_28 rfl (lv_at hl 0 rfl) ?_
      refine lv_iconst (v := 0) hx hb dX10_begins_29 (by decide) ?_
      refine lv_iconst (v := 4) hx hb dX10_begins_30 (by decide) ?_
      refine lv_iconst (v := 2) hx hb dX10_begins_31 (by decide) ?_
      obtain ⟨w2, hc32, hm⟩ := k_bds hm
      refine k_v_s (k_rV (As := [.int 0, .int 4, .int 2]) (rest := []) ⟨hx, hb, hml, hown, hts⟩ hK hN hP hD (zX10_grow hc32) (cwV 3 hts gX10_begins_X10_grow rfl rfl rfl (by decide +kernel) ⟨Nat.le_of_ble_eq_true rfl, Nat.le_of_ble_eq_true rfl⟩) rfl rfl rfl hl.1 rfl (Nat.le_of_ble_eq_true rfl) dX10_begins_32 ⟨Nat.zero_le _, Nat.zero_le _⟩) hD hS hA (fun H locs hP hD hS => ?_)
      refine lv_aload_n hx hb dX10_begins_35 rfl (lv_at hl 0 rfl) ?_
      refine lv_iconst (v := 0) hx hb dX10_begins_36 (by decide) ?_
      refine lv_bipush (v := 7) hx hb dX10_begins_37 (by decide) ?_
      refine lv_iconst (v := 2) hx hb dX10_begins_39 (by decide) ?_
      obtain ⟨w3, hc40, hm⟩ := k_bds hm
      refine k_v_s (k_rV (As := [.int 0, .int 7, .int 2]) (rest := []) ⟨hx, hb, hml, hown, hts⟩ hK hN hP hD (zX10_grow hc40) (cwV 3 hts gX10_begins_X10_grow rfl rfl rfl (by decide +kernel) ⟨Nat.le_of_ble_eq_true rfl, Nat.le_of_ble_eq_true rfl⟩) rfl rfl rfl hl.1 rfl (Nat.le_of_ble_eq_true rfl) dX10_begins_40 ⟨Nat.zero_le _, Nat.zero_le _⟩) hD hS hA (fun H locs hP hD hS => ?_)
      refine lv_aload_n hx hb dX10_begins_43 rfl (lv_at hl 0 rfl) ?_
      refine lv_iconst (v := 1) hx hb dX10_begins_44 (by decide) ?_
      refine lv_bipush (v := 15) hx hb dX10_begins_45 (by decide) ?_
      refine lv_iconst (v := 2) hx hb dX10_begins_47 (by decide) ?_
      obtain ⟨w4, hc48, hm⟩ := k_bds hm
      refine k_v_s (k_rV (As := [.int 1, .int 15, .int 2]) (rest := []) ⟨hx, hb, hml, hown, hts⟩ hK hN hP hD (zX10_grow hc48) (cwV 3 hts gX10_begins_X10_grow rfl rfl rfl (by decide +kernel) ⟨Nat.le_of_ble_eq_true rfl, Nat.le_of_ble_eq_true rfl⟩) rfl rfl rfl hl.1 rfl (Nat.le_of_ble_eq_true rfl) dX10_begins_48 ⟨Nat.zero_le _, Nat.zero_le _⟩) hD hS hA (fun H locs hP hD hS => ?_)
      refine lv_aload_n hx hb dX10_begins_51 rfl (lv_at hl 0 rfl) ?_
      refine lv_iconst (v := 1) hx hb dX10_begins_52 (by decide) ?_
      refine lv_bipush (v := 11) hx hb dX10_begins_53 (by decide) ?_
      refine lv_iconst (v := 2) hx hb dX10_begins_55 (by decide) ?_
      obtain ⟨w5, hc56, hm⟩ := k_bds hm
      refine k_v_s (k_rV (As := [.int 1, .int 11, .int 2]) (rest := []) ⟨hx, hb, hml, hown, hts⟩ hK hN hP hD (zX10_grow hc56) (cwV 3 hts gX10_begins_X10_grow rfl rfl rfl (by decide +kernel) ⟨Nat.le_of_ble_eq_true rfl, Nat.le_of_ble_eq_true rfl⟩) rfl rfl rfl hl.1 rfl (Nat.le_of_ble_eq_true rfl) dX10_begins_56 ⟨Nat.zero_le _, Nat.zero_le _⟩) hD hS hA (fun H locs hP hD hS => ?_)
      refine lv_aload_n hx hb dX10_begins_59 rfl (lv_at hl 0 rfl) ?_
      refine lv_iconst (v := 1) hx hb dX10_begins_60 (by decide) ?_
      refine lv_bipush (v := 8) hx hb dX10_begins_61 (by decide) ?_
      refine lv_iconst (v := 2) hx hb dX10_begins_63 (by decide) ?_
      obtain ⟨w6, hc64, hm⟩ := k_bds hm
      refine k_v_s (k_rV (As := [.int 1, .int 8, .int 2]) (rest := []) ⟨hx, hb, hml, hown, hts⟩ hK hN hP hD (zX10_grow hc64) (cwV 3 hts gX10_begins_X10_grow rfl rfl rfl (by decide +kernel) ⟨Nat.le_of_ble_eq_true rfl, Nat.le_of_ble_eq_true rfl⟩) rfl rfl rfl hl.1 rfl (Nat.le_of_ble_eq_true rfl) dX10_begins_64 ⟨Nat.zero_le _, Nat.zero_le _⟩) hD hS hA (fun H locs hP hD hS => ?_)
      refine lv_aload_n hx hb dX10_begins_67 rfl (lv_at hl 0 rfl) ?_
      refine va_get (D := D) (ci := 6) (v := .ref (ad 1)) (C := RX10) (T := TX10) (N := 20) hx hb hts hinX10 hown hK hP 0 rfl rfl 0 (by decide) fl7 (fun _ h9 => h9) rfl dX10_begins_68 ?_
      refine lv_bipush (v := 36) hx hb dX10_begins_71 (by decide) ?_
      refine lv_iload_n hx hb dX10_begins_73 rfl (lv_at hl 1 rfl) ?_
      refine k_isC hx hb hK hP hD hS 1 0 rfl rfl kl_36 ki_36_51 dX10_begins_74 (fun H locs hP hD hS => ?_)
      have hP : va_P D vwCl (wM cI cJ ad (upd w6 36 a1) c_before c_known c_kept c_isKept c_aside c_buffer c_length c_thrown c_laid c_spot c_isWrong c_isHalted c_mine c_theirs c_many c_from0 c_from1 c_dice c_hash) H := hP
      have hD : va_D A (wM cI cJ ad (upd w6 36 a1) c_before c_known c_kept c_isKept c_aside c_buffer c_length c_thrown c_laid c_spot c_isWrong c_isHalted c_mine c_theirs c_many c_from0 c_from1 c_dice c_hash) := hD
      refine lv_aload_n hx hb dX10_begins_75 rfl (lv_at hl 0 rfl) ?_
      refine va_get (D := D) (ci := 6) (v := .ref (ad 1)) (C := RX10) (T := TX10) (N := 20) hx hb hts hinX10 hown hK hP 0 rfl rfl 0 (by decide) fl7 (fun _ h9 => h9) rfl dX10_begins_76 ?_
      refine lv_bipush (v := 37) hx hb dX10_begins_79 (by decide) ?_
      refine lv_iconst (v := 0) hx hb dX10_begins_81 (by decide) ?_
      refine k_isC hx hb hK hP hD hS 1 0 rfl rfl kl_37 ki_37_51 dX10_begins_82 (fun H locs hP hD hS => ?_)
      have hP : va_P D vwCl (wM cI cJ ad (upd (upd w6 36 a1) 37 0) c_before c_known c_kept c_isKept c_aside c_buffer c_length c_thrown c_laid c_spot c_isWrong c_isHalted c_mine c_theirs c_many c_from0 c_from1 c_dice c_hash) H := hP
      have hD : va_D A (wM cI cJ ad (upd (upd w6 36 a1) 37 0) c_before c_known c_kept c_isKept c_aside c_buffer c_length c_thrown c_laid c_spot c_isWrong c_isHalted c_mine c_theirs c_many c_from0 c_from1 c_dice c_hash) := hD
      refine lv_aload_n hx hb dX10_begins_83 rfl (lv_at hl 0 rfl) ?_
      refine va_get (D := D) (ci := 6) (v := .ref (ad 1)) (C := RX10) (T := TX10) (N := 20) hx hb hts hinX10 hown hK hP 0 rfl rfl 0 (by decide) fl7 (fun _ h9 => h9) rfl dX10_begins_84 ?_
      refine lv_bipush (v := 43) hx hb dX10_begins_87 (by decide) ?_
      refine lv_iconst (v := 1) hx hb dX10_begins_89 (by decide) ?_
      refine k_isC hx hb hK hP hD hS 1 0 rfl rfl kl_43 ki_43_51 dX10_begins_90 (fun H locs hP hD hS => ?_)
      have hP : va_P D vwCl (wM cI cJ ad (upd (upd (upd w6 36 a1) 37 0) 43 1) c_before c_known c_kept c_isKept c_aside c_buffer c_length c_thrown c_laid c_spot c_isWrong c_isHalted c_mine c_theirs c_many c_from0 c_from1 c_dice c_hash) H := hP
      have hD : va_D A (wM cI cJ ad (upd (upd (upd w6 36 a1) 37 0) 43 1) c_before c_known c_kept c_isKept c_aside c_buffer c_length c_thrown c_laid c_spot c_isWrong c_isHalted c_mine c_theirs c_many c_from0 c_from1 c_dice c_hash) := hD
      refine lv_aload_n hx hb dX10_begins_91 rfl (lv_at hl 0 rfl) ?_
      refine va_get (D := D) (ci := 6) (v := .ref (ad 1)) (C := RX10) (T := TX10) (N := 20) hx hb hts hinX10 hown hK hP 0 rfl rfl 0 (by decide) fl7 (fun _ h9 => h9) rfl dX10_begins_92 ?_
      refine lv_bipush (v := 44) hx hb dX10_begins_95 (by decide) ?_
      refine lv_iconst (v := (-1)) hx hb dX10_begins_97 (by decide) ?_
      refine k_isC hx hb hK hP hD hS 1 0 rfl rfl kl_44 ki_44_51 dX10_begins_98 (fun H locs hP hD hS => ?_)
      have hP : va_P D vwCl (wM cI cJ ad (upd (upd (upd (upd w6 36 a1) 37 0) 43 1) 44 (-1)) c_before c_known c_kept c_isKept c_aside c_buffer c_length c_thrown c_laid c_spot c_isWrong c_isHalted c_mine c_theirs c_many c_from0 c_from1 c_dice c_hash) H := hP
      have hD : va_D A (wM cI cJ ad (upd (upd (upd (upd w6 36 a1) 37 0) 43 1) 44 (-1)) c_before c_known c_kept c_isKept c_aside c_buffer c_length c_thrown c_laid c_spot c_isWrong c_isHalted c_mine c_theirs c_many c_from0 c_from1 c_dice c_hash) := hD
      refine lv_aload_n hx hb dX10_begins_99 rfl (lv_at hl 0 rfl) ?_
      obtain ⟨w7, hc100, hm⟩ := k_bds hm
      refine k_v_s (k_rV (As := []) (rest := []) ⟨hx, hb, hml, hown, hts⟩ hK hN hP hD (zX10_clearDice hc100) (cwV 0 hts gX10_begins_X10_clearDice rfl rfl rfl (by decide +kernel) ⟨Nat.le_of_ble_eq_true rfl, Nat.le_of_ble_eq_true rfl⟩) rfl rfl rfl hl.1 rfl (Nat.le_of_ble_eq_true rfl) dX10_begins_100 ⟨Nat.zero_le _, Nat.zero_le _⟩) hD hS hA (fun H locs hP hD hS => ?_)
      cases hm
      exact k_end_v hx hb hr hlocks hK hP hD hS dX10_begins_103
    · have hm := k_in cc5 hm
      refine lv_aload_n hx hb dX10_begins_8 rfl (lv_at hl 0 rfl) ?_
      refine va_get (D := D) (ci := 6) (v := .ref (ad 1)) (C := RX10) (T := TX10) (N := 20) hx hb hts hinX10 hown hK hP 0 rfl rfl 0 (by decide) fl7 (fun _ h9 => h9) rfl dX10_begins_9 ?_
      refine lv_iload_n hx hb dX10_begins_12 rfl (lv_at hl 2 rfl) ?_
      refine lv_iconst (v := 0) hx hb dX10_begins_13 (by decide) ?_
      obtain ⟨gi14, hm⟩ := k_gs hm
      refine va_iast hx hb hK hP hD hS 1 0 rfl rfl gi14 dX10_begins_14 (fun H locs hP hD hS => ?_)
      have hP : va_P D vwCl (wM cI cJ ad (upd c_s (Int32.toNatClampNeg l2) 0) c_before c_known c_kept c_isKept c_aside c_buffer c_length c_thrown c_laid c_spot c_isWrong c_isHalted c_mine c_theirs c_many c_from0 c_from1 c_dice c_hash) H := hP
      have hD : va_D A (wM cI cJ ad (upd c_s (Int32.toNatClampNeg l2) 0) c_before c_known c_kept c_isKept c_aside c_buffer c_length c_thrown c_laid c_spot c_isWrong c_isHalted c_mine c_theirs c_many c_from0 c_from1 c_dice c_hash) := hD
      refine lv_iinc (v := (l2 + 1)) (lv' := [(2, .int (l2 + 1)), (0, .ref (ad 0)), (1, .int a1)]) hx hb dX10_begins_15 hl (k := 2) rfl rfl (by decide) rfl (fun ls hl => ?_)
      refine lv_goto (tgt := 2) hx hb dX10_begins_18 (by decide) ?_
      exact ih2 (l2 + 1) (upd c_s (Int32.toNatClampNeg l2) 0) _ _ hP hD hS _ (lv_sub hl [1, 2, 0] rfl) hm) k_F
  unfold mX10_begins at hm
  refine lv_iconst (v := 0) hx hb dX10_begins_0 (by decide) ?_
  refine lv_istore_n (lv' := [(2, .int 0), (0, .ref (ad 0)), (1, .int a1)]) hx hb dX10_begins_1 rfl hl (by decide) rfl (fun ls hl => ?_)
  exact J_2 0 c_s _ _ hP hD hS _ (lv_sub hl [1, 2, 0] rfl) hm

abbrev rmX10_way : Room := { frames := 0, cells := 0, slots := 0, locals := 0 }
set_option maxHeartbeats 4000000 in
set_option maxRecDepth 100000 in
theorem zX10_way {l : Launch} {D : va_G} {cI cJ cC cG : ClassId} {sz : Nat}  {a0 : Int32} {a1 : Int32} {r : Int32} (hm : mX10_way a0 a1 = some (r)) : k_Mi l yX10_way wsX10_way rmX10_way D (kT cI cJ cC cG) sz ([.int a0, .int a1] : List Value) [] [] r := by
  refine k_st_i (cc := cX10_way) (maxL := 2) (by decide) rfl (Nat.le_of_ble_eq_true rfl) ?_
  intro p e z m below meth c A hx hb hr hml hts hown hlocks hsz hN hA hK hP hD hS ls hl
  have hown : z.vm.findClass RX10 = some m.cls := hown
  have hl : lv_has ls 2 [(0, .int a0), (1, .int a1)] := hl
  unfold mX10_way at hm
  refine lv_iload_n hx hb dX10_way_0 rfl (lv_at hl 1 rfl) ?_
  refine lv_iconst (v := (-1)) hx hb dX10_way_1 (by decide) ?_
  refine lv_icmp_ne (tgt := 10) hx hb dX10_way_2 (by decide) (fun cc2 => ?_) (fun cc2 => ?_)
  · have hm := k_in cc2 hm
    refine lv_iload_n hx hb dX10_way_10 rfl (lv_at hl 1 rfl) ?_
    refine lv_bipush (v := 16) hx hb dX10_way_11 (by decide) ?_
    refine lv_icmp_ne (tgt := 20) hx hb dX10_way_13 (by decide) (fun cc13 => ?_) (fun cc13 => ?_)
    · have hm := k_in cc13 hm
      refine lv_iload_n hx hb dX10_way_20 rfl (lv_at hl 0 rfl) ?_
      refine lv_if_ne (tgt := 31) hx hb dX10_way_21 (by decide) (fun cc21 => ?_) (fun cc21 => ?_)
      · have hm := k_in cc21 hm
        refine lv_iload_n hx hb dX10_way_31 rfl (lv_at hl 1 rfl) ?_
        refine lv_iconst (v := 1) hx hb dX10_way_32 (by decide) ?_
        refine lv_iadd hx hb dX10_way_33 ?_
        cases hm
        exact k_end_i hx hb hr hlocks hK hP hD hS dX10_way_34
      · have hm := k_ip cc21 hm
        refine lv_bipush (v := 16) hx hb dX10_way_24 (by decide) ?_
        refine lv_iload_n hx hb dX10_way_26 rfl (lv_at hl 1 rfl) ?_
        refine lv_isub hx hb dX10_way_27 ?_
        refine lv_goto (tgt := 34) hx hb dX10_way_28 (by decide) ?_
        cases hm
        exact k_end_i hx hb hr hlocks hK hP hD hS dX10_way_34
    · have hm := k_ip cc13 hm
      refine lv_iconst (v := 0) hx hb dX10_way_16 (by decide) ?_
      refine lv_goto (tgt := 34) hx hb dX10_way_17 (by decide) ?_
      cases hm
      exact k_end_i hx hb hr hlocks hK hP hD hS dX10_way_34
  · have hm := k_ip cc2 hm
    refine lv_bipush (v := 17) hx hb dX10_way_5 (by decide) ?_
    refine lv_goto (tgt := 34) hx hb dX10_way_7 (by decide) ?_
    cases hm
    exact k_end_i hx hb hr hlocks hK hP hD hS dX10_way_34

abbrev rmX10_target : Room := { frames := 0, cells := 0, slots := 0, locals := 0 }
set_option maxHeartbeats 4000000 in
set_option maxRecDepth 100000 in
theorem zX10_target {l : Launch} {D : va_G} {cI cJ cC cG : ClassId} {sz : Nat}  {a0 : Int32} {a1 : Int32} {a2 : Int32} {r : Int32} (hm : mX10_target a0 a1 a2 = some (r)) : k_Mi l yX10_target wsX10_target rmX10_target D (kT cI cJ cC cG) sz ([.int a0, .int a1, .int a2] : List Value) [] [] r := by
  refine k_st_i (cc := cX10_target) (maxL := 4) (by decide) rfl (Nat.le_of_ble_eq_true rfl) ?_
  intro p e z m below meth c A hx hb hr hml hts hown hlocks hsz hN hA hK hP hD hS ls hl
  have hown : z.vm.findClass RX10 = some m.cls := hown
  have hl : lv_has ls 4 [(0, .int a0), (1, .int a1), (2, .int a2)] := hl
  have J_25 : ∀ (t0 : Int32) (H : Heap) (locs : List Loc), va_P D vwCl [] H → va_D A [] → va_S A z.heap H locs → ∀ ls : Array Slot, lv_has ls 4 [] → mX10_target_25 a0 a1 a2 t0 = some (r) → W p l e rmX10_target z m ([.int a0, .int a1, .int a2] : List Value).toArray below meth c H locs 0 0 (k_Qi below ([.int a0, .int a1, .int a2] : List Value) D (kT cI cJ cC cG) z A [] r) (F0 m 25 ls [.int t0]) := by
    intro t0 H locs hP hD hS ls hl hm
    unfold mX10_target_25 at hm
    refine lv_istore_n (lv' := [(3, .int t0)]) hx hb dX10_target_25 rfl hl (by decide) rfl (fun ls hl => ?_)
    refine lv_iload_n hx hb dX10_target_26 rfl (lv_at hl 0 rfl) ?_
    refine lv_if_ge (tgt := 35) hx hb dX10_target_27 (by decide) (fun cc27 => ?_) (fun cc27 => ?_)
    · have hm := k_ip cc27 hm
      refine lv_iload_n hx hb dX10_target_35 rfl (lv_at hl 0 rfl) ?_
      refine lv_bipush (v := 16) hx hb dX10_target_36 (by decide) ?_
      refine lv_icmp_le (tgt := 46) hx hb dX10_target_38 (by decide) (fun cc38 => ?_) (fun cc38 => ?_)
      · have hm := k_ip cc38 hm
        refine lv_iload_n hx hb dX10_target_46 rfl (lv_at hl 0 rfl) ?_
        cases hm
        exact k_end_i hx hb hr hlocks hK hP hD hS dX10_target_47
      · have hm := k_in cc38 hm
        refine lv_bipush (v := 16) hx hb dX10_target_41 (by decide) ?_
        refine lv_goto (tgt := 47) hx hb dX10_target_43 (by decide) ?_
        cases hm
        exact k_end_i hx hb hr hlocks hK hP hD hS dX10_target_47
    · have hm := k_in cc27 hm
      refine lv_bipush (v := 16) hx hb dX10_target_30 (by decide) ?_
      refine lv_goto (tgt := 47) hx hb dX10_target_32 (by decide) ?_
      cases hm
      exact k_end_i hx hb hr hlocks hK hP hD hS dX10_target_47
  unfold mX10_target at hm
  refine lv_iload_n hx hb dX10_target_0 rfl (lv_at hl 0 rfl) ?_
  refine lv_if_ne (tgt := 10) hx hb dX10_target_1 (by decide) (fun cc1 => ?_) (fun cc1 => ?_)
  · have hm := k_in cc1 hm
    refine lv_iload_n hx hb dX10_target_10 rfl (lv_at hl 1 rfl) ?_
    refine lv_iconst (v := (-1)) hx hb dX10_target_11 (by decide) ?_
    refine lv_icmp_ne (tgt := 22) hx hb dX10_target_12 (by decide) (fun cc12 => ?_) (fun cc12 => ?_)
    · have hm := k_in cc12 hm
      refine lv_iload_n hx hb dX10_target_22 rfl (lv_at hl 1 rfl) ?_
      refine lv_iload_n hx hb dX10_target_23 rfl (lv_at hl 2 rfl) ?_
      refine lv_isub hx hb dX10_target_24 ?_
      exact J_25 (a1 - a2) _ _ hP hD hS _ (lv_sub hl [] rfl) hm
    · have hm := k_ip cc12 hm
      refine lv_bipush (v := 16) hx hb dX10_target_15 (by decide) ?_
      refine lv_iload_n hx hb dX10_target_17 rfl (lv_at hl 2 rfl) ?_
      refine lv_isub hx hb dX10_target_18 ?_
      refine lv_goto (tgt := 25) hx hb dX10_target_19 (by decide) ?_
      exact J_25 (16 - a2) _ _ hP hD hS _ (lv_sub hl [] rfl) hm
  · have hm := k_ip cc1 hm
    refine lv_iload_n hx hb dX10_target_4 rfl (lv_at hl 1 rfl) ?_
    refine lv_iload_n hx hb dX10_target_5 rfl (lv_at hl 2 rfl) ?_
    refine lv_iadd hx hb dX10_target_6 ?_
    refine lv_goto (tgt := 25) hx hb dX10_target_7 (by decide) ?_
    exact J_25 (a1 + a2) _ _ hP hD hS _ (lv_sub hl [] rfl) hm

abbrev rmX10_isBlock : Room := { frames := 1, cells := 0, slots := 0, locals := 22 }
set_option maxHeartbeats 4000000 in
set_option maxRecDepth 100000 in
theorem zX10_isBlock {l : Launch} {D : va_G} {cI cJ cC cG : ClassId} {sz : Nat} {ad : Nat → Nat} {c_s : Nat → Int32} {c_before : Nat → Int32} {c_known : Int32} {c_kept : Nat → Int32} {c_isKept : Bool} {c_aside : Nat → Int32} {c_buffer : Nat → Int32} {c_length : Int32} {c_thrown : Int32} {c_laid : Nat → Int32} {c_spot : Int32} {c_isWrong : Bool} {c_isHalted : Bool} {c_mine : Nat → Int64} {c_theirs : Nat → Int64} {c_many : Int32} {c_from0 : Nat → Int64} {c_from1 : Nat → Int64} {c_dice : Nat → Int32} {c_hash : Int64} {a1 : Int32} {a2 : Int32} {r : Bool} (hm : mX10_isBlock c_s a1 a2 = some (r)) : k_Mi l yX10_isBlock wsX10_isBlock rmX10_isBlock D (kT cI cJ cC cG) sz ([.ref (ad 0), .int a1, .int a2] : List Value) (wM cI cJ ad c_s c_before c_known c_kept c_isKept c_aside c_buffer c_length c_thrown c_laid c_spot c_isWrong c_isHalted c_mine c_theirs c_many c_from0 c_from1 c_dice c_hash) (wM cI cJ ad c_s c_before c_known c_kept c_isKept c_aside c_buffer c_length c_thrown c_laid c_spot c_isWrong c_isHalted c_mine c_theirs c_many c_from0 c_from1 c_dice c_hash) (k_b r) := by
  refine k_st_i (cc := cX10_isBlock) (maxL := 3) (by decide) rfl (Nat.le_of_ble_eq_true rfl) ?_
  intro p e z m below meth c A hx hb hr hml hts hown hlocks hsz hN hA hK hP hD hS ls hl
  have hown : z.vm.findClass RX10 = some m.cls := hown
  have hl : lv_has ls 3 [(0, .ref (ad 0)), (1, .int a1), (2, .int a2)] := hl
  unfold mX10_isBlock at hm
  refine lv_iload_n hx hb dX10_isBlock_0 rfl (lv_at hl 2 rfl) ?_
  refine lv_bipush (v := 16) hx hb dX10_isBlock_1 (by decide) ?_
  refine lv_icmp_eq (tgt := 20) hx hb dX10_isBlock_3 (by decide) (fun cc3 => ?_) (fun cc3 => ?_)
  · have hm := k_ip cc3 hm
    refine lv_iconst (v := 0) hx hb dX10_isBlock_20 (by decide) ?_
    cases hm
    exact k_end_z false hx hb hr hlocks hK hP hD hS dX10_isBlock_21
  · have hm := k_in cc3 hm
    refine lv_aload_n hx hb dX10_isBlock_6 rfl (lv_at hl 0 rfl) ?_
    refine lv_iload_n hx hb dX10_isBlock_7 rfl (lv_at hl 1 rfl) ?_
    refine lv_iload_n hx hb dX10_isBlock_8 rfl (lv_at hl 2 rfl) ?_
    obtain ⟨r1, hc9, hm⟩ := k_bds hm
    refine k_i_s (k_rV (As := [.int a1, .int a2]) (rest := []) ⟨hx, hb, hml, hown, hts⟩ hK hN hP hD (zX10_at hc9) (cwV 2 hts gX10_isBlock_X10_at rfl rfl rfl (by decide +kernel) ⟨Nat.le_of_ble_eq_true rfl, Nat.le_of_ble_eq_true rfl⟩) rfl rfl rfl hl.1 rfl (Nat.le_of_ble_eq_true rfl) dX10_isBlock_9 ⟨Nat.zero_le _, Nat.zero_le _⟩) hD hS hA (fun H locs hP hD hS => ?_)
    refine lv_iconst (v := 1) hx hb dX10_isBlock_12 (by decide) ?_
    refine lv_icmp_le (tgt := 20) hx hb dX10_isBlock_13 (by decide) (fun cc13 => ?_) (fun cc13 => ?_)
    · have hm := k_ip cc13 hm
      refine lv_iconst (v := 0) hx hb dX10_isBlock_20 (by decide) ?_
      cases hm
      exact k_end_z false hx hb hr hlocks hK hP hD hS dX10_isBlock_21
    · have hm := k_in cc13 hm
      refine lv_iconst (v := 1) hx hb dX10_isBlock_16 (by decide) ?_
      refine lv_goto (tgt := 21) hx hb dX10_isBlock_17 (by decide) ?_
      cases hm
      exact k_end_z true hx hb hr hlocks hK hP hD hS dX10_isBlock_21

abbrev rmX10_longest : Room := { frames := 1, cells := 0, slots := 0, locals := 22 }
set_option maxHeartbeats 4000000 in
set_option maxRecDepth 100000 in
theorem zX10_longest {l : Launch} {D : va_G} {cI cJ cC cG : ClassId} {sz : Nat} {ad : Nat → Nat} {c_s : Nat → Int32} {c_before : Nat → Int32} {c_known : Int32} {c_kept : Nat → Int32} {c_isKept : Bool} {c_aside : Nat → Int32} {c_buffer : Nat → Int32} {c_length : Int32} {c_thrown : Int32} {c_laid : Nat → Int32} {c_spot : Int32} {c_isWrong : Bool} {c_isHalted : Bool} {c_mine : Nat → Int64} {c_theirs : Nat → Int64} {c_many : Int32} {c_from0 : Nat → Int64} {c_from1 : Nat → Int64} {c_dice : Nat → Int32} {c_hash : Int64} {a1 : Int32} {r : Int32} (hm : mX10_longest c_s a1 = some (r)) : k_Mi l yX10_longest wsX10_longest rmX10_longest D (kT cI cJ cC cG) sz ([.ref (ad 0), .int a1] : List Value) (wM cI cJ ad c_s c_before c_known c_kept c_isKept c_aside c_buffer c_length c_thrown c_laid c_spot c_isWrong c_isHalted c_mine c_theirs c_many c_from0 c_from1 c_dice c_hash) (wM cI cJ ad c_s c_before c_known c_kept c_isKept c_aside c_buffer c_length c_thrown c_laid c_spot c_isWrong c_isHalted c_mine c_theirs c_many c_from0 c_from1 c_dice c_hash) r := by
  refine k_st_i (cc := cX10_longest) (maxL := 5) (by decide) rfl (Nat.le_of_ble_eq_true rfl) ?_
  intro p e z m below meth c A hx hb hr hml hts hown hlocks hsz hN hA hK hP hD hS ls hl
  have hown : z.vm.findClass RX10 = some m.cls := hown
  have hl : lv_has ls 5 [(0, .ref (ad 0)), (1, .int a1)] := hl
  have J_4 := k_loop (z := fun _ _ => none) (st := mX10_longest_4 c_s a1) (fun k4 : (Int32) → (Int32) → Option (Int32) => ∀ (l2 : Int32) (l3 : Int32) (H : Heap) (locs : List Loc), va_P D vwCl (wM cI cJ ad c_s c_before c_known c_kept c_isKept c_aside c_buffer c_length c_thrown c_laid c_spot c_isWrong c_isHalted c_mine c_theirs c_many c_from0 c_from1 c_dice c_hash) H → va_D A (wM cI cJ ad c_s c_before c_known c_kept c_isKept c_aside c_buffer c_length c_thrown c_laid c_spot c_isWrong c_isHalted c_mine c_theirs c_many c_from0 c_from1 c_dice c_hash) → va_S A z.heap H locs → ∀ ls : Array Slot, lv_has ls 5 [(0, .ref (ad 0)), (1, .int a1), (2, .int l2), (3, .int l3)] → k4 l2 l3 = some (r) → W p l e rmX10_longest z m ([.ref (ad 0), .int a1] : List Value).toArray below meth c H locs 0 0 (k_Qi below ([.ref (ad 0), .int a1] : List Value) D (kT cI cJ cC cG) z A (wM cI cJ ad c_s c_before c_known c_kept c_isKept c_aside c_buffer c_length c_thrown c_laid c_spot c_isWrong c_isHalted c_mine c_theirs c_many c_from0 c_from1 c_dice c_hash) r) (F0 m 4 ls [])) (by intros; rename_i h; cases h) (by
    intro k4 ih4
    have J_28 : ∀ (t0 : Int32) (l2 : Int32) (l3 : Int32) (H : Heap) (locs : List Loc), va_P D vwCl (wM cI cJ ad c_s c_before c_known c_kept c_isKept c_aside c_buffer c_length c_thrown c_laid c_spot c_isWrong c_isHalted c_mine c_theirs c_many c_from0 c_from1 c_dice c_hash) H → va_D A (wM cI cJ ad c_s c_before c_known c_kept c_isKept c_aside c_buffer c_length c_thrown c_laid c_spot c_isWrong c_isHalted c_mine c_theirs c_many c_from0 c_from1 c_dice c_hash) → va_S A z.heap H locs → ∀ ls : Array Slot, lv_has ls 5 [(0, .ref (ad 0)), (1, .int a1), (2, .int l2), (3, .int l3)] → mX10_longest_28 c_s a1 k4 t0 l2 l3 = some (r) → W p l e rmX10_longest z m ([.ref (ad 0), .int a1] : List Value).toArray below meth c H locs 0 0 (k_Qi below ([.ref (ad 0), .int a1] : List Value) D (kT cI cJ cC cG) z A (wM cI cJ ad c_s c_before c_known c_kept c_isKept c_aside c_buffer c_length c_thrown c_laid c_spot c_isWrong c_isHalted c_mine c_theirs c_many c_from0 c_from1 c_dice c_hash) r) (F0 m 28 ls [.int t0]) := by
      intro t0 l2 l3 H locs hP hD hS ls hl hm
      unfold mX10_longest_28 at hm
      refine lv_istore (lv' := [(4, .int t0), (0, .ref (ad 0)), (1, .int a1), (2, .int l2), (3, .int l3)]) hx hb dX10_longest_28 hl (by decide) rfl (fun ls hl => ?_)
      refine lv_iload hx hb dX10_longest_30 (lv_at hl 0 rfl) ?_
      refine lv_iload_n hx hb dX10_longest_32 rfl (lv_at hl 3 rfl) ?_
      refine lv_icmp_le (tgt := 41) hx hb dX10_longest_33 (by decide) (fun cc33 => ?_) (fun cc33 => ?_)
      · have hm := k_ip cc33 hm
        refine lv_iload_n hx hb dX10_longest_41 rfl (lv_at hl 3 rfl) ?_
        refine lv_istore_n (lv' := [(2, .int l2), (4, .int t0), (0, .ref (ad 0)), (1, .int a1), (3, .int l3)]) hx hb dX10_longest_42 rfl hl (by decide) rfl (fun ls hl => ?_)
        refine lv_iinc (v := (l3 + 1)) (lv' := [(3, .int (l3 + 1)), (2, .int l2), (4, .int t0), (0, .ref (ad 0)), (1, .int a1)]) hx hb dX10_longest_43 hl (k := 4) rfl rfl (by decide) rfl (fun ls hl => ?_)
        refine lv_goto (tgt := 4) hx hb dX10_longest_46 (by decide) ?_
        exact ih4 l2 (l3 + 1) _ _ hP hD hS _ (lv_sub hl [3, 4, 1, 0] rfl) hm
      · have hm := k_in cc33 hm
        refine lv_iload hx hb dX10_longest_36 (lv_at hl 0 rfl) ?_
        refine lv_goto (tgt := 42) hx hb dX10_longest_38 (by decide) ?_
        refine lv_istore_n (lv' := [(2, .int t0), (4, .int t0), (0, .ref (ad 0)), (1, .int a1), (3, .int l3)]) hx hb dX10_longest_42 rfl hl (by decide) rfl (fun ls hl => ?_)
        refine lv_iinc (v := (l3 + 1)) (lv' := [(3, .int (l3 + 1)), (2, .int t0), (4, .int t0), (0, .ref (ad 0)), (1, .int a1)]) hx hb dX10_longest_43 hl (k := 4) rfl rfl (by decide) rfl (fun ls hl => ?_)
        refine lv_goto (tgt := 4) hx hb dX10_longest_46 (by decide) ?_
        exact ih4 t0 (l3 + 1) _ _ hP hD hS _ (lv_sub hl [3, 4, 1, 0] rfl) hm
    intro l2 l3 H locs hP hD hS ls hl hm
    unfold mX10_longest_4 at hm
    refine lv_iload_n hx hb dX10_longest_4 rfl (lv_at hl 3 rfl) ?_
    refine lv_bipush (v := 16) hx hb dX10_longest_5 (by decide) ?_
    refine lv_icmp_ge (tgt := 49) hx hb dX10_longest_7 (by decide) (fun cc7 => ?_) (fun cc7 => ?_)
    · have hm := k_ip cc7 hm
      refine lv_iload_n hx hb dX10_longest_49 rfl (lv_at hl 2 rfl) ?_
      cases hm
      exact k_end_i hx hb hr hlocks hK hP hD hS dX10_longest_50
    · have hm := k_in cc7 hm
      refine lv_aload_n hx hb dX10_longest_10 rfl (lv_at hl 0 rfl) ?_
      refine lv_iload_n hx hb dX10_longest_11 rfl (lv_at hl 1 rfl) ?_
      refine lv_iload_n hx hb dX10_longest_12 rfl (lv_at hl 3 rfl) ?_
      obtain ⟨r1, hc13, hm⟩ := k_bds hm
      refine k_i_s (k_rV (As := [.int a1, .int l3]) (rest := []) ⟨hx, hb, hml, hown, hts⟩ hK hN hP hD (zX10_at hc13) (cwV 2 hts gX10_longest_X10_at rfl rfl rfl (by decide +kernel) ⟨Nat.le_of_ble_eq_true rfl, Nat.le_of_ble_eq_true rfl⟩) rfl rfl rfl hl.1 rfl (Nat.le_of_ble_eq_true rfl) dX10_longest_13 ⟨Nat.zero_le _, Nat.zero_le _⟩) hD hS hA (fun H locs hP hD hS => ?_)
      refine lv_if_le (tgt := 27) hx hb dX10_longest_16 (by decide) (fun cc16 => ?_) (fun cc16 => ?_)
      · have hm := k_ip cc16 hm
        refine lv_iconst (v := 0) hx hb dX10_longest_27 (by decide) ?_
        exact J_28 0 l2 l3 _ _ hP hD hS _ (lv_sub hl [0, 1, 2, 3] rfl) hm
      · have hm := k_in cc16 hm
        refine lv_iload_n hx hb dX10_longest_19 rfl (lv_at hl 1 rfl) ?_
        refine lv_iload_n hx hb dX10_longest_20 rfl (lv_at hl 3 rfl) ?_
        obtain ⟨r2, hc21, hm⟩ := k_bds hm
        refine k_i_0 (k_rS (As := [.int a1, .int l3]) (rest := []) ⟨hx, hb, hml, hown, hts⟩ hK hN k_P0 (k_D0 (A := A)) (zX10_way hc21) (va_cwS 2 hts gX10_longest_X10_way rfl rfl rfl (by decide +kernel) ⟨Nat.le_of_ble_eq_true rfl, Nat.le_of_ble_eq_true rfl⟩) rfl hl.1 rfl (Nat.le_of_ble_eq_true rfl) dX10_longest_21 ⟨Nat.zero_le _, Nat.zero_le _⟩) hP hS hA (fun H locs hP hS => ?_)
        refine lv_goto (tgt := 28) hx hb dX10_longest_24 (by decide) ?_
        exact J_28 r2 l2 l3 _ _ hP hD hS _ (lv_sub hl [0, 1, 2, 3] rfl) hm) k_F
  unfold mX10_longest at hm
  refine lv_iconst (v := 0) hx hb dX10_longest_0 (by decide) ?_
  refine lv_istore_n (lv' := [(2, .int 0), (0, .ref (ad 0)), (1, .int a1)]) hx hb dX10_longest_1 rfl hl (by decide) rfl (fun ls hl => ?_)
  refine lv_iconst (v := (-1)) hx hb dX10_longest_2 (by decide) ?_
  refine lv_istore_n (lv' := [(3, .int (-1)), (2, .int 0), (0, .ref (ad 0)), (1, .int a1)]) hx hb dX10_longest_3 rfl hl (by decide) rfl (fun ls hl => ?_)
  exact J_4 0 (-1) _ _ hP hD hS _ (lv_sub hl [2, 3, 1, 0] rfl) hm

abbrev rmX10_refused : Room := { frames := 2, cells := 0, slots := 0, locals := 46 }
set_option maxHeartbeats 4000000 in
set_option maxRecDepth 100000 in
theorem zX10_refused {l : Launch} {D : va_G} {cI cJ cC cG : ClassId} {sz : Nat} {ad : Nat → Nat} {c_s : Nat → Int32} {c_before : Nat → Int32} {c_known : Int32} {c_kept : Nat → Int32} {c_isKept : Bool} {c_aside : Nat → Int32} {c_buffer : Nat → Int32} {c_length : Int32} {c_thrown : Int32} {c_laid : Nat → Int32} {c_spot : Int32} {c_isWrong : Bool} {c_isHalted : Bool} {c_mine : Nat → Int64} {c_theirs : Nat → Int64} {c_many : Int32} {c_from0 : Nat → Int64} {c_from1 : Nat → Int64} {c_dice : Nat → Int32} {c_hash : Int64} {a1 : Int32} {a2 : Int32} {a3 : Int32} {r : Int32} (hm : mX10_refused c_s a1 a2 a3 = some (r)) : k_Mi l yX10_refused wsX10_refused rmX10_refused D (kT cI cJ cC cG) sz ([.ref (ad 0), .int a1, .int a2, .int a3] : List Value) (wM cI cJ ad c_s c_before c_known c_kept c_isKept c_aside c_buffer c_length c_thrown c_laid c_spot c_isWrong c_isHalted c_mine c_theirs c_many c_from0 c_from1 c_dice c_hash) (wM cI cJ ad c_s c_before c_known c_kept c_isKept c_aside c_buffer c_length c_thrown c_laid c_spot c_isWrong c_isHalted c_mine c_theirs c_many c_from0 c_from1 c_dice c_hash) r := by
  refine k_st_i (cc := cX10_refused) (maxL := 6) (by decide) rfl (Nat.le_of_ble_eq_true rfl) ?_
  intro p e z m below meth c A hx hb hr hml hts hown hlocks hsz hN hA hK hP hD hS ls hl
  have hown : z.vm.findClass RX10 = some m.cls := hown
  have hl : lv_has ls 6 [(0, .ref (ad 0)), (1, .int a1), (2, .int a2), (3, .int a3)] := hl
  have J_85 : ∀ (t0 : Bool) (l4 : Int32) (H : Heap) (locs : List Loc), va_P D vwCl (wM cI cJ ad c_s c_before c_known c_kept c_isKept c_aside c_buffer c_length c_thrown c_laid c_spot c_isWrong c_isHalted c_mine c_theirs c_many c_from0 c_from1 c_dice c_hash) H → va_D A (wM cI cJ ad c_s c_before c_known c_kept c_isKept c_aside c_buffer c_length c_thrown c_laid c_spot c_isWrong c_isHalted c_mine c_theirs c_many c_from0 c_from1 c_dice c_hash) → va_S A z.heap H locs → ∀ ls : Array Slot, lv_has ls 6 [(4, .int l4)] → mX10_refused_85 c_s a1 a2 a3 t0 l4 = some (r) → W p l e rmX10_refused z m ([.ref (ad 0), .int a1, .int a2, .int a3] : List Value).toArray below meth c H locs 0 0 (k_Qi below ([.ref (ad 0), .int a1, .int a2, .int a3] : List Value) D (kT cI cJ cC cG) z A (wM cI cJ ad c_s c_before c_known c_kept c_isKept c_aside c_buffer c_length c_thrown c_laid c_spot c_isWrong c_isHalted c_mine c_theirs c_many c_from0 c_from1 c_dice c_hash) r) (F0 m 85 ls [.int (k_b t0)]) := by
    intro t0 l4 H locs hP hD hS ls hl hm
    unfold mX10_refused_85 at hm
    refine lv_istore (lv' := [(5, .int (k_b t0)), (4, .int l4)]) hx hb dX10_refused_85 hl (by decide) rfl (fun ls hl => ?_)
    refine lv_iload hx hb dX10_refused_87 (lv_at hl 1 rfl) ?_
    refine lv_bipush (v := 16) hx hb dX10_refused_89 (by decide) ?_
    refine lv_icmp_ne (tgt := 103) hx hb dX10_refused_91 (by decide) (fun cc91 => ?_) (fun cc91 => ?_)
    · have hm := k_in cc91 hm
      refine lv_iconst (v := 0) hx hb dX10_refused_103 (by decide) ?_
      cases hm
      exact k_end_i hx hb hr hlocks hK hP hD hS dX10_refused_104
    · have hm := k_ip cc91 hm
      refine lv_iload hx hb dX10_refused_94 (lv_at hl 0 rfl) ?_
      refine lv_if_eq (tgt := 103) hx hb dX10_refused_96 (by decide) (fun cc96 => ?_) (fun cc96 => ?_)
      · have hm := k_ip cc96 hm
        refine lv_iconst (v := 0) hx hb dX10_refused_103 (by decide) ?_
        cases hm
        exact k_end_i hx hb hr hlocks hK hP hD hS dX10_refused_104
      · have hm := k_in cc96 hm
        refine lv_iconst (v := 5) hx hb dX10_refused_99 (by decide) ?_
        refine lv_goto (tgt := 104) hx hb dX10_refused_100 (by decide) ?_
        cases hm
        exact k_end_i hx hb hr hlocks hK hP hD hS dX10_refused_104
  have J_84 : ∀ (l4 : Int32) (H : Heap) (locs : List Loc), va_P D vwCl (wM cI cJ ad c_s c_before c_known c_kept c_isKept c_aside c_buffer c_length c_thrown c_laid c_spot c_isWrong c_isHalted c_mine c_theirs c_many c_from0 c_from1 c_dice c_hash) H → va_D A (wM cI cJ ad c_s c_before c_known c_kept c_isKept c_aside c_buffer c_length c_thrown c_laid c_spot c_isWrong c_isHalted c_mine c_theirs c_many c_from0 c_from1 c_dice c_hash) → va_S A z.heap H locs → ∀ ls : Array Slot, lv_has ls 6 [(4, .int l4)] → mX10_refused_84 c_s a1 a2 a3 l4 = some (r) → W p l e rmX10_refused z m ([.ref (ad 0), .int a1, .int a2, .int a3] : List Value).toArray below meth c H locs 0 0 (k_Qi below ([.ref (ad 0), .int a1, .int a2, .int a3] : List Value) D (kT cI cJ cC cG) z A (wM cI cJ ad c_s c_before c_known c_kept c_isKept c_aside c_buffer c_length c_thrown c_laid c_spot c_isWrong c_isHalted c_mine c_theirs c_many c_from0 c_from1 c_dice c_hash) r) (F0 m 84 ls []) := by
    intro l4 H locs hP hD hS ls hl hm
    unfold mX10_refused_84 at hm
    refine lv_iconst (v := 0) hx hb dX10_refused_84 (by decide) ?_
    exact J_85 false l4 _ _ hP hD hS _ (lv_sub hl [0] rfl) hm
  have J_27 : ∀ (H : Heap) (locs : List Loc), va_P D vwCl (wM cI cJ ad c_s c_before c_known c_kept c_isKept c_aside c_buffer c_length c_thrown c_laid c_spot c_isWrong c_isHalted c_mine c_theirs c_many c_from0 c_from1 c_dice c_hash) H → va_D A (wM cI cJ ad c_s c_before c_known c_kept c_isKept c_aside c_buffer c_length c_thrown c_laid c_spot c_isWrong c_isHalted c_mine c_theirs c_many c_from0 c_from1 c_dice c_hash) → va_S A z.heap H locs → ∀ ls : Array Slot, lv_has ls 6 [(0, .ref (ad 0)), (1, .int a1), (2, .int a2), (3, .int a3)] → mX10_refused_27 c_s a1 a2 a3  = some (r) → W p l e rmX10_refused z m ([.ref (ad 0), .int a1, .int a2, .int a3] : List Value).toArray below meth c H locs 0 0 (k_Qi below ([.ref (ad 0), .int a1, .int a2, .int a3] : List Value) D (kT cI cJ cC cG) z A (wM cI cJ ad c_s c_before c_known c_kept c_isKept c_aside c_buffer c_length c_thrown c_laid c_spot c_isWrong c_isHalted c_mine c_theirs c_many c_from0 c_from1 c_dice c_hash) r) (F0 m 27 ls []) := by
    intro  H locs hP hD hS ls hl hm
    unfold mX10_refused_27 at hm
    refine lv_iload_n hx hb dX10_refused_27 rfl (lv_at hl 1 rfl) ?_
    refine lv_iload_n hx hb dX10_refused_28 rfl (lv_at hl 2 rfl) ?_
    refine lv_iload_n hx hb dX10_refused_29 rfl (lv_at hl 3 rfl) ?_
    obtain ⟨r1, hc30, hm⟩ := k_bds hm
    refine k_i_0 (k_rS (As := [.int a1, .int a2, .int a3]) (rest := []) ⟨hx, hb, hml, hown, hts⟩ hK hN k_P0 (k_D0 (A := A)) (zX10_target hc30) (va_cwS 3 hts gX10_refused_X10_target rfl rfl rfl (by decide +kernel) ⟨Nat.le_of_ble_eq_true rfl, Nat.le_of_ble_eq_true rfl⟩) rfl hl.1 rfl (Nat.le_of_ble_eq_true rfl) dX10_refused_30 ⟨Nat.zero_le _, Nat.zero_le _⟩) hP hS hA (fun H locs hP hS => ?_)
    refine lv_istore (lv' := [(4, .int r1), (0, .ref (ad 0)), (1, .int a1), (2, .int a2), (3, .int a3)]) hx hb dX10_refused_33 hl (by decide) rfl (fun ls hl => ?_)
    refine lv_aload_n hx hb dX10_refused_35 rfl (lv_at hl 1 rfl) ?_
    refine lv_iconst (v := 1) hx hb dX10_refused_36 (by decide) ?_
    refine lv_iload_n hx hb dX10_refused_37 rfl (lv_at hl 2 rfl) ?_
    refine lv_isub hx hb dX10_refused_38 ?_
    refine lv_iload hx hb dX10_refused_39 (lv_at hl 0 rfl) ?_
    obtain ⟨r2, hc41, hm⟩ := k_bds hm
    refine k_i_s (k_rV (As := [.int (1 - a1), .int r1]) (rest := []) ⟨hx, hb, hml, hown, hts⟩ hK hN hP hD (zX10_isBlock hc41) (cwV 2 hts gX10_refused_X10_isBlock rfl rfl rfl (by decide +kernel) ⟨Nat.le_of_ble_eq_true rfl, Nat.le_of_ble_eq_true rfl⟩) rfl rfl rfl hl.1 rfl (Nat.le_of_ble_eq_true rfl) dX10_refused_41 ⟨Nat.zero_le _, Nat.zero_le _⟩) hD hS hA (fun H locs hP hD hS => ?_)
    refine lv_if_eq (tgt := 49) hx hb dX10_refused_44 (by decide) (fun cc44 => ?_) (fun cc44 => ?_)
    · have hm := k_ip cc44 hm
      refine lv_aload_n hx hb dX10_refused_49 rfl (lv_at hl 1 rfl) ?_
      refine lv_iload_n hx hb dX10_refused_50 rfl (lv_at hl 2 rfl) ?_
      obtain ⟨r3, hc51, hm⟩ := k_bds hm
      refine k_i_s (k_rV (As := [.int a1]) (rest := []) ⟨hx, hb, hml, hown, hts⟩ hK hN hP hD (zX10_longest hc51) (cwV 1 hts gX10_refused_X10_longest rfl rfl rfl (by decide +kernel) ⟨Nat.le_of_ble_eq_true rfl, Nat.le_of_ble_eq_true rfl⟩) rfl rfl rfl hl.1 rfl (Nat.le_of_ble_eq_true rfl) dX10_refused_51 ⟨Nat.zero_le _, Nat.zero_le _⟩) hD hS hA (fun H locs hP hD hS => ?_)
      refine lv_iconst (v := 4) hx hb dX10_refused_54 (by decide) ?_
      refine lv_icmp_gt (tgt := 80) hx hb dX10_refused_55 (by decide) (fun cc55 => ?_) (fun cc55 => ?_)
      · have hm := k_ip cc55 hm
        refine lv_iconst (v := 1) hx hb dX10_refused_80 (by decide) ?_
        refine lv_goto (tgt := 85) hx hb dX10_refused_81 (by decide) ?_
        exact J_85 true r1 _ _ hP hD hS _ (lv_sub hl [0] rfl) hm
      · have hm := k_in cc55 hm
        refine lv_iload_n hx hb dX10_refused_58 rfl (lv_at hl 4 rfl) ?_
        refine lv_iload_n hx hb dX10_refused_59 rfl (lv_at hl 2 rfl) ?_
        refine lv_iload_n hx hb dX10_refused_60 rfl (lv_at hl 3 rfl) ?_
        obtain ⟨r4, hc61, hm⟩ := k_bds hm
        refine k_i_0 (k_rS (As := [.int a1, .int a2]) (rest := [.int a3]) ⟨hx, hb, hml, hown, hts⟩ hK hN k_P0 (k_D0 (A := A)) (zX10_way hc61) (va_cwS 2 hts gX10_refused_X10_way rfl rfl rfl (by decide +kernel) ⟨Nat.le_of_ble_eq_true rfl, Nat.le_of_ble_eq_true rfl⟩) rfl hl.1 rfl (Nat.le_of_ble_eq_true rfl) dX10_refused_61 ⟨Nat.zero_le _, Nat.zero_le _⟩) hP hS hA (fun H locs hP hS => ?_)
        refine lv_icmp_le (tgt := 84) hx hb dX10_refused_64 (by decide) (fun cc64 => ?_) (fun cc64 => ?_)
        · have hm := k_ip cc64 hm
          exact J_84 r1 _ _ hP hD hS _ (lv_sub hl [0] rfl) hm
        · have hm := k_in cc64 hm
          refine lv_aload_n hx hb dX10_refused_67 rfl (lv_at hl 1 rfl) ?_
          refine lv_iload_n hx hb dX10_refused_68 rfl (lv_at hl 2 rfl) ?_
          obtain ⟨r5, hc69, hm⟩ := k_bds hm
          refine k_i_s (k_rV (As := [.int a1]) (rest := []) ⟨hx, hb, hml, hown, hts⟩ hK hN hP hD (zX10_longest hc69) (cwV 1 hts gX10_refused_X10_longest rfl rfl rfl (by decide +kernel) ⟨Nat.le_of_ble_eq_true rfl, Nat.le_of_ble_eq_true rfl⟩) rfl rfl rfl hl.1 rfl (Nat.le_of_ble_eq_true rfl) dX10_refused_69 ⟨Nat.zero_le _, Nat.zero_le _⟩) hD hS hA (fun H locs hP hD hS => ?_)
          refine lv_iload_n hx hb dX10_refused_72 rfl (lv_at hl 2 rfl) ?_
          refine lv_iload_n hx hb dX10_refused_73 rfl (lv_at hl 3 rfl) ?_
          obtain ⟨r6, hc74, hm⟩ := k_bds hm
          refine k_i_0 (k_rS (As := [.int a1, .int a2]) (rest := [.int r5]) ⟨hx, hb, hml, hown, hts⟩ hK hN k_P0 (k_D0 (A := A)) (zX10_way hc74) (va_cwS 2 hts gX10_refused_X10_way rfl rfl rfl (by decide +kernel) ⟨Nat.le_of_ble_eq_true rfl, Nat.le_of_ble_eq_true rfl⟩) rfl hl.1 rfl (Nat.le_of_ble_eq_true rfl) dX10_refused_74 ⟨Nat.zero_le _, Nat.zero_le _⟩) hP hS hA (fun H locs hP hS => ?_)
          refine lv_icmp_le (tgt := 84) hx hb dX10_refused_77 (by decide) (fun cc77 => ?_) (fun cc77 => ?_)
          · have hm := k_ip cc77 hm
            exact J_84 r1 _ _ hP hD hS _ (lv_sub hl [0] rfl) hm
          · have hm := k_in cc77 hm
            refine lv_iconst (v := 1) hx hb dX10_refused_80 (by decide) ?_
            refine lv_goto (tgt := 85) hx hb dX10_refused_81 (by decide) ?_
            exact J_85 true r1 _ _ hP hD hS _ (lv_sub hl [0] rfl) hm
    · have hm := k_in cc44 hm
      refine lv_iconst (v := 4) hx hb dX10_refused_47 (by decide) ?_
      cases hm
      exact k_end_i hx hb hr hlocks hK hP hD hS dX10_refused_48
  unfold mX10_refused at hm
  refine lv_aload_n hx hb dX10_refused_0 rfl (lv_at hl 0 rfl) ?_
  refine lv_iload_n hx hb dX10_refused_1 rfl (lv_at hl 1 rfl) ?_
  refine lv_iload_n hx hb dX10_refused_2 rfl (lv_at hl 2 rfl) ?_
  obtain ⟨r7, hc3, hm⟩ := k_bds hm
  refine k_i_s (k_rV (As := [.int a1, .int a2]) (rest := []) ⟨hx, hb, hml, hown, hts⟩ hK hN hP hD (zX10_at hc3) (cwV 2 hts gX10_refused_X10_at rfl rfl rfl (by decide +kernel) ⟨Nat.le_of_ble_eq_true rfl, Nat.le_of_ble_eq_true rfl⟩) rfl rfl rfl hl.1 rfl (Nat.le_of_ble_eq_true rfl) dX10_refused_3 ⟨Nat.zero_le _, Nat.zero_le _⟩) hD hS hA (fun H locs hP hD hS => ?_)
  refine lv_if_ne (tgt := 11) hx hb dX10_refused_6 (by decide) (fun cc6 => ?_) (fun cc6 => ?_)
  · have hm := k_in cc6 hm
    refine lv_iload_n hx hb dX10_refused_11 rfl (lv_at hl 2 rfl) ?_
    refine lv_iconst (v := (-1)) hx hb dX10_refused_12 (by decide) ?_
    refine lv_icmp_eq (tgt := 27) hx hb dX10_refused_13 (by decide) (fun cc13 => ?_) (fun cc13 => ?_)
    · have hm := k_ip cc13 hm
      exact J_27  _ _ hP hD hS _ (lv_sub hl [0, 1, 2, 3] rfl) hm
    · have hm := k_in cc13 hm
      refine lv_aload_n hx hb dX10_refused_16 rfl (lv_at hl 0 rfl) ?_
      refine lv_iload_n hx hb dX10_refused_17 rfl (lv_at hl 1 rfl) ?_
      refine lv_iconst (v := (-1)) hx hb dX10_refused_18 (by decide) ?_
      obtain ⟨r8, hc19, hm⟩ := k_bds hm
      refine k_i_s (k_rV (As := [.int a1, .int (-1)]) (rest := []) ⟨hx, hb, hml, hown, hts⟩ hK hN hP hD (zX10_at hc19) (cwV 2 hts gX10_refused_X10_at rfl rfl rfl (by decide +kernel) ⟨Nat.le_of_ble_eq_true rfl, Nat.le_of_ble_eq_true rfl⟩) rfl rfl rfl hl.1 rfl (Nat.le_of_ble_eq_true rfl) dX10_refused_19 ⟨Nat.zero_le _, Nat.zero_le _⟩) hD hS hA (fun H locs hP hD hS => ?_)
      refine lv_if_le (tgt := 27) hx hb dX10_refused_22 (by decide) (fun cc22 => ?_) (fun cc22 => ?_)
      · have hm := k_ip cc22 hm
        exact J_27  _ _ hP hD hS _ (lv_sub hl [0, 1, 2, 3] rfl) hm
      · have hm := k_in cc22 hm
        refine lv_iconst (v := 3) hx hb dX10_refused_25 (by decide) ?_
        cases hm
        exact k_end_i hx hb hr hlocks hK hP hD hS dX10_refused_26
  · have hm := k_ip cc6 hm
    refine lv_iconst (v := 2) hx hb dX10_refused_9 (by decide) ?_
    cases hm
    exact k_end_i hx hb hr hlocks hK hP hD hS dX10_refused_10

abbrev rmX10_moves : Room := { frames := 1, cells := 0, slots := 0, locals := 23 }
set_option maxHeartbeats 4000000 in
set_option maxRecDepth 100000 in
theorem zX10_moves {l : Launch} {D : va_G} {cI cJ cC cG : ClassId} {sz : Nat} {ad : Nat → Nat} {c_s : Nat → Int32} {c_before : Nat → Int32} {c_known : Int32} {c_kept : Nat → Int32} {c_isKept : Bool} {c_aside : Nat → Int32} {c_buffer : Nat → Int32} {c_length : Int32} {c_thrown : Int32} {c_laid : Nat → Int32} {c_spot : Int32} {c_isWrong : Bool} {c_isHalted : Bool} {c_mine : Nat → Int64} {c_theirs : Nat → Int64} {c_many : Int32} {c_from0 : Nat → Int64} {c_from1 : Nat → Int64} {c_dice : Nat → Int32} {c_hash : Int64} {a1 : Int32} {a2 : Int32} {a3 : Int32} {r : Bool} {c_s' : Nat → Int32} (hm : mX10_moves c_s a1 a2 a3 = some (r, c_s')) : k_Mi l yX10_moves wsX10_moves rmX10_moves D (kT cI cJ cC cG) sz ([.ref (ad 0), .int a1, .int a2, .int a3] : List Value) (wM cI cJ ad c_s c_before c_known c_kept c_isKept c_aside c_buffer c_length c_thrown c_laid c_spot c_isWrong c_isHalted c_mine c_theirs c_many c_from0 c_from1 c_dice c_hash) (wM cI cJ ad c_s' c_before c_known c_kept c_isKept c_aside c_buffer c_length c_thrown c_laid c_spot c_isWrong c_isHalted c_mine c_theirs c_many c_from0 c_from1 c_dice c_hash) (k_b r) := by
  refine k_st_i (cc := cX10_moves) (maxL := 6) (by decide) rfl (Nat.le_of_ble_eq_true rfl) ?_
  intro p e z m below meth c A hx hb hr hml hts hown hlocks hsz hN hA hK hP hD hS ls hl
  have hown : z.vm.findClass RX10 = some m.cls := hown
  have hl : lv_has ls 6 [(0, .ref (ad 0)), (1, .int a1), (2, .int a2), (3, .int a3)] := hl
  have J_59 : ∀ (l4 : Int32) (l5 : Bool) (c_s : Nat → Int32) (H : Heap) (locs : List Loc), va_P D vwCl (wM cI cJ ad c_s c_before c_known c_kept c_isKept c_aside c_buffer c_length c_thrown c_laid c_spot c_isWrong c_isHalted c_mine c_theirs c_many c_from0 c_from1 c_dice c_hash) H → va_D A (wM cI cJ ad c_s c_before c_known c_kept c_isKept c_aside c_buffer c_length c_thrown c_laid c_spot c_isWrong c_isHalted c_mine c_theirs c_many c_from0 c_from1 c_dice c_hash) → va_S A z.heap H locs → ∀ ls : Array Slot, lv_has ls 6 [(0, .ref (ad 0)), (1, .int a1), (2, .int a2), (4, .int l4), (5, .int (k_b l5))] → mX10_moves_59 a1 a2 a3 l4 l5 c_s = some (r, c_s') → W p l e rmX10_moves z m ([.ref (ad 0), .int a1, .int a2, .int a3] : List Value).toArray below meth c H locs 0 0 (k_Qi below ([.ref (ad 0), .int a1, .int a2, .int a3] : List Value) D (kT cI cJ cC cG) z A (wM cI cJ ad c_s' c_before c_known c_kept c_isKept c_aside c_buffer c_length c_thrown c_laid c_spot c_isWrong c_isHalted c_mine c_theirs c_many c_from0 c_from1 c_dice c_hash) (k_b r)) (F0 m 59 ls []) := by
    intro l4 l5 c_s H locs hP hD hS ls hl hm
    unfold mX10_moves_59 at hm
    refine lv_aload_n hx hb dX10_moves_59 rfl (lv_at hl 0 rfl) ?_
    refine lv_iload_n hx hb dX10_moves_60 rfl (lv_at hl 1 rfl) ?_
    refine lv_iload_n hx hb dX10_moves_61 rfl (lv_at hl 2 rfl) ?_
    refine lv_iconst (v := (-1)) hx hb dX10_moves_62 (by decide) ?_
    obtain ⟨w1, hc63, hm⟩ := k_bds hm
    refine k_v_s (k_rV (As := [.int a1, .int a2, .int (-1)]) (rest := []) ⟨hx, hb, hml, hown, hts⟩ hK hN hP hD (zX10_grow hc63) (cwV 3 hts gX10_moves_X10_grow rfl rfl rfl (by decide +kernel) ⟨Nat.le_of_ble_eq_true rfl, Nat.le_of_ble_eq_true rfl⟩) rfl rfl rfl hl.1 rfl (Nat.le_of_ble_eq_true rfl) dX10_moves_63 ⟨Nat.zero_le _, Nat.zero_le _⟩) hD hS hA (fun H locs hP hD hS => ?_)
    refine lv_aload_n hx hb dX10_moves_66 rfl (lv_at hl 0 rfl) ?_
    refine lv_iload_n hx hb dX10_moves_67 rfl (lv_at hl 1 rfl) ?_
    refine lv_iload hx hb dX10_moves_68 (lv_at hl 3 rfl) ?_
    refine lv_iconst (v := 1) hx hb dX10_moves_70 (by decide) ?_
    obtain ⟨w2, hc71, hm⟩ := k_bds hm
    refine k_v_s (k_rV (As := [.int a1, .int l4, .int 1]) (rest := []) ⟨hx, hb, hml, hown, hts⟩ hK hN hP hD (zX10_grow hc71) (cwV 3 hts gX10_moves_X10_grow rfl rfl rfl (by decide +kernel) ⟨Nat.le_of_ble_eq_true rfl, Nat.le_of_ble_eq_true rfl⟩) rfl rfl rfl hl.1 rfl (Nat.le_of_ble_eq_true rfl) dX10_moves_71 ⟨Nat.zero_le _, Nat.zero_le _⟩) hD hS hA (fun H locs hP hD hS => ?_)
    refine lv_iload hx hb dX10_moves_74 (lv_at hl 4 rfl) ?_
    cases hm
    exact k_end_z _ hx hb hr hlocks hK hP hD hS dX10_moves_76
  have J_33 : ∀ (t0 : Bool) (l4 : Int32) (c_s : Nat → Int32) (H : Heap) (locs : List Loc), va_P D vwCl (wM cI cJ ad c_s c_before c_known c_kept c_isKept c_aside c_buffer c_length c_thrown c_laid c_spot c_isWrong c_isHalted c_mine c_theirs c_many c_from0 c_from1 c_dice c_hash) H → va_D A (wM cI cJ ad c_s c_before c_known c_kept c_isKept c_aside c_buffer c_length c_thrown c_laid c_spot c_isWrong c_isHalted c_mine c_theirs c_many c_from0 c_from1 c_dice c_hash) → va_S A z.heap H locs → ∀ ls : Array Slot, lv_has ls 6 [(0, .ref (ad 0)), (1, .int a1), (2, .int a2), (4, .int l4)] → mX10_moves_33 a1 a2 a3 t0 l4 c_s = some (r, c_s') → W p l e rmX10_moves z m ([.ref (ad 0), .int a1, .int a2, .int a3] : List Value).toArray below meth c H locs 0 0 (k_Qi below ([.ref (ad 0), .int a1, .int a2, .int a3] : List Value) D (kT cI cJ cC cG) z A (wM cI cJ ad c_s' c_before c_known c_kept c_isKept c_aside c_buffer c_length c_thrown c_laid c_spot c_isWrong c_isHalted c_mine c_theirs c_many c_from0 c_from1 c_dice c_hash) (k_b r)) (F0 m 33 ls [.int (k_b t0)]) := by
    intro t0 l4 c_s H locs hP hD hS ls hl hm
    unfold mX10_moves_33 at hm
    refine lv_istore (lv' := [(5, .int (k_b t0)), (0, .ref (ad 0)), (1, .int a1), (2, .int a2), (4, .int l4)]) hx hb dX10_moves_33 hl (by decide) rfl (fun ls hl => ?_)
    refine lv_iload hx hb dX10_moves_35 (lv_at hl 0 rfl) ?_
    refine lv_if_eq (tgt := 59) hx hb dX10_moves_37 (by decide) (fun cc37 => ?_) (fun cc37 => ?_)
    · have hm := k_ip cc37 hm
      exact J_59 l4 t0 c_s _ _ hP hD hS _ (lv_sub hl [1, 2, 3, 4, 0] rfl) hm
    · have hm := k_in cc37 hm
      refine lv_aload_n hx hb dX10_moves_40 rfl (lv_at hl 1 rfl) ?_
      refine lv_iconst (v := 1) hx hb dX10_moves_41 (by decide) ?_
      refine lv_iload_n hx hb dX10_moves_42 rfl (lv_at hl 2 rfl) ?_
      refine lv_isub hx hb dX10_moves_43 ?_
      refine lv_iload hx hb dX10_moves_44 (lv_at hl 4 rfl) ?_
      refine lv_iconst (v := (-1)) hx hb dX10_moves_46 (by decide) ?_
      obtain ⟨w3, hc47, hm⟩ := k_bds hm
      refine k_v_s (k_rV (As := [.int (1 - a1), .int l4, .int (-1)]) (rest := []) ⟨hx, hb, hml, hown, hts⟩ hK hN hP hD (zX10_grow hc47) (cwV 3 hts gX10_moves_X10_grow rfl rfl rfl (by decide +kernel) ⟨Nat.le_of_ble_eq_true rfl, Nat.le_of_ble_eq_true rfl⟩) rfl rfl rfl hl.1 rfl (Nat.le_of_ble_eq_true rfl) dX10_moves_47 ⟨Nat.zero_le _, Nat.zero_le _⟩) hD hS hA (fun H locs hP hD hS => ?_)
      refine lv_aload_n hx hb dX10_moves_50 rfl (lv_at hl 1 rfl) ?_
      refine lv_iconst (v := 1) hx hb dX10_moves_51 (by decide) ?_
      refine lv_iload_n hx hb dX10_moves_52 rfl (lv_at hl 2 rfl) ?_
      refine lv_isub hx hb dX10_moves_53 ?_
      refine lv_iconst (v := (-1)) hx hb dX10_moves_54 (by decide) ?_
      refine lv_iconst (v := 1) hx hb dX10_moves_55 (by decide) ?_
      obtain ⟨w4, hc56, hm⟩ := k_bds hm
      refine k_v_s (k_rV (As := [.int (1 - a1), .int (-1), .int 1]) (rest := []) ⟨hx, hb, hml, hown, hts⟩ hK hN hP hD (zX10_grow hc56) (cwV 3 hts gX10_moves_X10_grow rfl rfl rfl (by decide +kernel) ⟨Nat.le_of_ble_eq_true rfl, Nat.le_of_ble_eq_true rfl⟩) rfl rfl rfl hl.1 rfl (Nat.le_of_ble_eq_true rfl) dX10_moves_56 ⟨Nat.zero_le _, Nat.zero_le _⟩) hD hS hA (fun H locs hP hD hS => ?_)
      exact J_59 l4 t0 w4 _ _ hP hD hS _ (lv_sub hl [1, 2, 3, 4, 0] rfl) hm
  have J_32 : ∀ (l4 : Int32) (c_s : Nat → Int32) (H : Heap) (locs : List Loc), va_P D vwCl (wM cI cJ ad c_s c_before c_known c_kept c_isKept c_aside c_buffer c_length c_thrown c_laid c_spot c_isWrong c_isHalted c_mine c_theirs c_many c_from0 c_from1 c_dice c_hash) H → va_D A (wM cI cJ ad c_s c_before c_known c_kept c_isKept c_aside c_buffer c_length c_thrown c_laid c_spot c_isWrong c_isHalted c_mine c_theirs c_many c_from0 c_from1 c_dice c_hash) → va_S A z.heap H locs → ∀ ls : Array Slot, lv_has ls 6 [(0, .ref (ad 0)), (1, .int a1), (2, .int a2), (4, .int l4)] → mX10_moves_32 a1 a2 a3 l4 c_s = some (r, c_s') → W p l e rmX10_moves z m ([.ref (ad 0), .int a1, .int a2, .int a3] : List Value).toArray below meth c H locs 0 0 (k_Qi below ([.ref (ad 0), .int a1, .int a2, .int a3] : List Value) D (kT cI cJ cC cG) z A (wM cI cJ ad c_s' c_before c_known c_kept c_isKept c_aside c_buffer c_length c_thrown c_laid c_spot c_isWrong c_isHalted c_mine c_theirs c_many c_from0 c_from1 c_dice c_hash) (k_b r)) (F0 m 32 ls []) := by
    intro l4 c_s H locs hP hD hS ls hl hm
    unfold mX10_moves_32 at hm
    refine lv_iconst (v := 0) hx hb dX10_moves_32 (by decide) ?_
    exact J_33 false l4 c_s _ _ hP hD hS _ (lv_sub hl [0, 1, 2, 3] rfl) hm
  unfold mX10_moves at hm
  refine lv_iload_n hx hb dX10_moves_0 rfl (lv_at hl 1 rfl) ?_
  refine lv_iload_n hx hb dX10_moves_1 rfl (lv_at hl 2 rfl) ?_
  refine lv_iload_n hx hb dX10_moves_2 rfl (lv_at hl 3 rfl) ?_
  obtain ⟨r5, hc3, hm⟩ := k_bds hm
  refine k_i_0 (k_rS (As := [.int a1, .int a2, .int a3]) (rest := []) ⟨hx, hb, hml, hown, hts⟩ hK hN k_P0 (k_D0 (A := A)) (zX10_target hc3) (va_cwS 3 hts gX10_moves_X10_target rfl rfl rfl (by decide +kernel) ⟨Nat.le_of_ble_eq_true rfl, Nat.le_of_ble_eq_true rfl⟩) rfl hl.1 rfl (Nat.le_of_ble_eq_true rfl) dX10_moves_3 ⟨Nat.zero_le _, Nat.zero_le _⟩) hP hS hA (fun H locs hP hS => ?_)
  refine lv_istore (lv' := [(4, .int r5), (0, .ref (ad 0)), (1, .int a1), (2, .int a2), (3, .int a3)]) hx hb dX10_moves_6 hl (by decide) rfl (fun ls hl => ?_)
  refine lv_iload hx hb dX10_moves_8 (lv_at hl 0 rfl) ?_
  refine lv_bipush (v := 16) hx hb dX10_moves_10 (by decide) ?_
  refine lv_icmp_eq (tgt := 32) hx hb dX10_moves_12 (by decide) (fun cc12 => ?_) (fun cc12 => ?_)
  · have hm := k_ip cc12 hm
    exact J_32 r5 c_s _ _ hP hD hS _ (lv_sub hl [1, 2, 3, 0] rfl) hm
  · have hm := k_in cc12 hm
    refine lv_aload_n hx hb dX10_moves_15 rfl (lv_at hl 1 rfl) ?_
    refine lv_iconst (v := 1) hx hb dX10_moves_16 (by decide) ?_
    refine lv_iload_n hx hb dX10_moves_17 rfl (lv_at hl 2 rfl) ?_
    refine lv_isub hx hb dX10_moves_18 ?_
    refine lv_iload hx hb dX10_moves_19 (lv_at hl 0 rfl) ?_
    obtain ⟨r6, hc21, hm⟩ := k_bds hm
    refine k_i_s (k_rV (As := [.int (1 - a1), .int r5]) (rest := []) ⟨hx, hb, hml, hown, hts⟩ hK hN hP hD (zX10_at hc21) (cwV 2 hts gX10_moves_X10_at rfl rfl rfl (by decide +kernel) ⟨Nat.le_of_ble_eq_true rfl, Nat.le_of_ble_eq_true rfl⟩) rfl rfl rfl hl.1 rfl (Nat.le_of_ble_eq_true rfl) dX10_moves_21 ⟨Nat.zero_le _, Nat.zero_le _⟩) hD hS hA (fun H locs hP hD hS => ?_)
    refine lv_iconst (v := 1) hx hb dX10_moves_24 (by decide) ?_
    refine lv_icmp_ne (tgt := 32) hx hb dX10_moves_25 (by decide) (fun cc25 => ?_) (fun cc25 => ?_)
    · have hm := k_in cc25 hm
      exact J_32 r5 c_s _ _ hP hD hS _ (lv_sub hl [1, 2, 3, 0] rfl) hm
    · have hm := k_ip cc25 hm
      refine lv_iconst (v := 1) hx hb dX10_moves_28 (by decide) ?_
      refine lv_goto (tgt := 33) hx hb dX10_moves_29 (by decide) ?_
      exact J_33 true r5 c_s _ _ hP hD hS _ (lv_sub hl [1, 2, 3, 0] rfl) hm

abbrev rmX10_isAny : Room := { frames := 3, cells := 0, slots := 0, locals := 71 }
set_option maxHeartbeats 4000000 in
set_option maxRecDepth 100000 in
theorem zX10_isAny {l : Launch} {D : va_G} {cI cJ cC cG : ClassId} {sz : Nat} {ad : Nat → Nat} {c_s : Nat → Int32} {c_before : Nat → Int32} {c_known : Int32} {c_kept : Nat → Int32} {c_isKept : Bool} {c_aside : Nat → Int32} {c_buffer : Nat → Int32} {c_length : Int32} {c_thrown : Int32} {c_laid : Nat → Int32} {c_spot : Int32} {c_isWrong : Bool} {c_isHalted : Bool} {c_mine : Nat → Int64} {c_theirs : Nat → Int64} {c_many : Int32} {c_from0 : Nat → Int64} {c_from1 : Nat → Int64} {c_dice : Nat → Int32} {c_hash : Int64} {a1 : Int32} {a2 : Int32} {r : Bool} (hm : mX10_isAny c_s a1 a2 = some (r)) : k_Mi l yX10_isAny wsX10_isAny rmX10_isAny D (kT cI cJ cC cG) sz ([.ref (ad 0), .int a1, .int a2] : List Value) (wM cI cJ ad c_s c_before c_known c_kept c_isKept c_aside c_buffer c_length c_thrown c_laid c_spot c_isWrong c_isHalted c_mine c_theirs c_many c_from0 c_from1 c_dice c_hash) (wM cI cJ ad c_s c_before c_known c_kept c_isKept c_aside c_buffer c_length c_thrown c_laid c_spot c_isWrong c_isHalted c_mine c_theirs c_many c_from0 c_from1 c_dice c_hash) (k_b r) := by
  refine k_st_i (cc := cX10_isAny) (maxL := 4) (by decide) rfl (Nat.le_of_ble_eq_true rfl) ?_
  intro p e z m below meth c A hx hb hr hml hts hown hlocks hsz hN hA hK hP hD hS ls hl
  have hown : z.vm.findClass RX10 = some m.cls := hown
  have hl : lv_has ls 4 [(0, .ref (ad 0)), (1, .int a1), (2, .int a2)] := hl
  have J_2 := k_loop (z := fun _ => none) (st := mX10_isAny_2 c_s a1 a2) (fun k2 : (Int32) → Option (Bool) => ∀ (l3 : Int32) (H : Heap) (locs : List Loc), va_P D vwCl (wM cI cJ ad c_s c_before c_known c_kept c_isKept c_aside c_buffer c_length c_thrown c_laid c_spot c_isWrong c_isHalted c_mine c_theirs c_many c_from0 c_from1 c_dice c_hash) H → va_D A (wM cI cJ ad c_s c_before c_known c_kept c_isKept c_aside c_buffer c_length c_thrown c_laid c_spot c_isWrong c_isHalted c_mine c_theirs c_many c_from0 c_from1 c_dice c_hash) → va_S A z.heap H locs → ∀ ls : Array Slot, lv_has ls 4 [(0, .ref (ad 0)), (1, .int a1), (2, .int a2), (3, .int l3)] → k2 l3 = some (r) → W p l e rmX10_isAny z m ([.ref (ad 0), .int a1, .int a2] : List Value).toArray below meth c H locs 0 0 (k_Qi below ([.ref (ad 0), .int a1, .int a2] : List Value) D (kT cI cJ cC cG) z A (wM cI cJ ad c_s c_before c_known c_kept c_isKept c_aside c_buffer c_length c_thrown c_laid c_spot c_isWrong c_isHalted c_mine c_theirs c_many c_from0 c_from1 c_dice c_hash) (k_b r)) (F0 m 2 ls [])) (by intros; rename_i h; cases h) (by
    intro k2 ih2
    intro l3 H locs hP hD hS ls hl hm
    unfold mX10_isAny_2 at hm
    refine lv_iload_n hx hb dX10_isAny_2 rfl (lv_at hl 3 rfl) ?_
    refine lv_bipush (v := 16) hx hb dX10_isAny_3 (by decide) ?_
    refine lv_icmp_ge (tgt := 26) hx hb dX10_isAny_5 (by decide) (fun cc5 => ?_) (fun cc5 => ?_)
    · have hm := k_ip cc5 hm
      refine lv_iconst (v := 0) hx hb dX10_isAny_26 (by decide) ?_
      cases hm
      exact k_end_z false hx hb hr hlocks hK hP hD hS dX10_isAny_27
    · have hm := k_in cc5 hm
      refine lv_aload_n hx hb dX10_isAny_8 rfl (lv_at hl 0 rfl) ?_
      refine lv_iload_n hx hb dX10_isAny_9 rfl (lv_at hl 1 rfl) ?_
      refine lv_iload_n hx hb dX10_isAny_10 rfl (lv_at hl 3 rfl) ?_
      refine lv_iload_n hx hb dX10_isAny_11 rfl (lv_at hl 2 rfl) ?_
      obtain ⟨r1, hc12, hm⟩ := k_bds hm
      refine k_i_s (k_rV (As := [.int a1, .int l3, .int a2]) (rest := []) ⟨hx, hb, hml, hown, hts⟩ hK hN hP hD (zX10_refused hc12) (cwV 3 hts gX10_isAny_X10_refused rfl rfl rfl (by decide +kernel) ⟨Nat.le_of_ble_eq_true rfl, Nat.le_of_ble_eq_true rfl⟩) rfl rfl rfl hl.1 rfl (Nat.le_of_ble_eq_true rfl) dX10_isAny_12 ⟨Nat.zero_le _, Nat.zero_le _⟩) hD hS hA (fun H locs hP hD hS => ?_)
      refine lv_if_ne (tgt := 20) hx hb dX10_isAny_15 (by decide) (fun cc15 => ?_) (fun cc15 => ?_)
      · have hm := k_in cc15 hm
        refine lv_iinc (v := (l3 + 1)) (lv' := [(3, .int (l3 + 1)), (0, .ref (ad 0)), (1, .int a1), (2, .int a2)]) hx hb dX10_isAny_20 hl (k := 3) rfl rfl (by decide) rfl (fun ls hl => ?_)
        refine lv_goto (tgt := 2) hx hb dX10_isAny_23 (by decide) ?_
        exact ih2 (l3 + 1) _ _ hP hD hS _ (lv_sub hl [1, 2, 3, 0] rfl) hm
      · have hm := k_ip cc15 hm
        refine lv_iconst (v := 1) hx hb dX10_isAny_18 (by decide) ?_
        cases hm
        exact k_end_z true hx hb hr hlocks hK hP hD hS dX10_isAny_19) k_F
  unfold mX10_isAny at hm
  refine lv_iconst (v := (-1)) hx hb dX10_isAny_0 (by decide) ?_
  refine lv_istore_n (lv' := [(3, .int (-1)), (0, .ref (ad 0)), (1, .int a1), (2, .int a2)]) hx hb dX10_isAny_1 rfl hl (by decide) rfl (fun ls hl => ?_)
  exact J_2 (-1) _ _ hP hD hS _ (lv_sub hl [1, 2, 3, 0] rfl) hm

abbrev rmX10_lays : Room := { frames := 0, cells := 0, slots := 0, locals := 0 }
set_option maxHeartbeats 4000000 in
set_option maxRecDepth 100000 in
theorem zX10_lays {l : Launch} {D : va_G} {cI cJ cC cG : ClassId} {sz : Nat} {ad : Nat → Nat} {c_s : Nat → Int32} {c_before : Nat → Int32} {c_known : Int32} {c_kept : Nat → Int32} {c_isKept : Bool} {c_aside : Nat → Int32} {c_buffer : Nat → Int32} {c_length : Int32} {c_thrown : Int32} {c_laid : Nat → Int32} {c_spot : Int32} {c_isWrong : Bool} {c_isHalted : Bool} {c_mine : Nat → Int64} {c_theirs : Nat → Int64} {c_many : Int32} {c_from0 : Nat → Int64} {c_from1 : Nat → Int64} {c_dice : Nat → Int32} {c_hash : Int64} {a1 : Int32} {c_laid' : Nat → Int32} (hm : mX10_lays c_s c_laid a1 = some (c_laid')) : k_Mv l yX10_lays wsX10_lays rmX10_lays D (kT cI cJ cC cG) sz ([.ref (ad 0), .int a1] : List Value) (wM cI cJ ad c_s c_before c_known c_kept c_isKept c_aside c_buffer c_length c_thrown c_laid c_spot c_isWrong c_isHalted c_mine c_theirs c_many c_from0 c_from1 c_dice c_hash) (wM cI cJ ad c_s c_before c_known c_kept c_isKept c_aside c_buffer c_length c_thrown c_laid' c_spot c_isWrong c_isHalted c_mine c_theirs c_many c_from0 c_from1 c_dice c_hash) := by
  refine k_st_v (cc := cX10_lays) (maxL := 3) (by decide) rfl (Nat.le_of_ble_eq_true rfl) ?_
  intro p e z m below meth c A hx hb hr hml hts hown hlocks hsz hN hA hK hP hD hS ls hl
  have hown : z.vm.findClass RX10 = some m.cls := hown
  have hinX10 : ∀ w ∈ wsX100, w ∈ wsX10_lays := by decide +kernel
  have fl7 := hts (.fieldLink RX10 7 "MagpieRunsModel" "s" "[I") (by decide +kernel)
  have fl25 := hts (.fieldLink RX10 25 "MagpieRunsModel" "laid" "[I") (by decide +kernel)
  have hl : lv_has ls 3 [(0, .ref (ad 0)), (1, .int a1)] := hl
  have J_2 := k_loop (z := fun _ _ => none) (st := mX10_lays_2 c_s a1) (fun k2 : (Int32) → (Nat → Int32) → Option ((Nat → Int32)) => ∀ (l2 : Int32) (c_laid : Nat → Int32) (H : Heap) (locs : List Loc), va_P D vwCl (wM cI cJ ad c_s c_before c_known c_kept c_isKept c_aside c_buffer c_length c_thrown c_laid c_spot c_isWrong c_isHalted c_mine c_theirs c_many c_from0 c_from1 c_dice c_hash) H → va_D A (wM cI cJ ad c_s c_before c_known c_kept c_isKept c_aside c_buffer c_length c_thrown c_laid c_spot c_isWrong c_isHalted c_mine c_theirs c_many c_from0 c_from1 c_dice c_hash) → va_S A z.heap H locs → ∀ ls : Array Slot, lv_has ls 3 [(0, .ref (ad 0)), (1, .int a1), (2, .int l2)] → k2 l2 c_laid = some (c_laid') → W p l e rmX10_lays z m ([.ref (ad 0), .int a1] : List Value).toArray below meth c H locs 0 0 (k_Qv below ([.ref (ad 0), .int a1] : List Value) D (kT cI cJ cC cG) z A (wM cI cJ ad c_s c_before c_known c_kept c_isKept c_aside c_buffer c_length c_thrown c_laid' c_spot c_isWrong c_isHalted c_mine c_theirs c_many c_from0 c_from1 c_dice c_hash)) (F0 m 2 ls [])) (by intros; rename_i h; cases h) (by
    intro k2 ih2
    intro l2 c_laid H locs hP hD hS ls hl hm
    unfold mX10_lays_2 at hm
    refine lv_iload_n hx hb dX10_lays_2 rfl (lv_at hl 2 rfl) ?_
    refine lv_bipush (v := 36) hx hb dX10_lays_3 (by decide) ?_
    refine lv_icmp_ge (tgt := 31) hx hb dX10_lays_5 (by decide) (fun cc5 => ?_) (fun cc5 => ?_)
    · have hm := k_ip cc5 hm
      cases hm
      exact k_end_v hx hb hr hlocks hK hP hD hS dX10_lays_31
    · have hm := k_in cc5 hm
      refine lv_aload_n hx hb dX10_lays_8 rfl (lv_at hl 0 rfl) ?_
      refine va_get (D := D) (ci := 6) (v := .ref (ad 6)) (C := RX10) (T := TX10) (N := 20) hx hb hts hinX10 hown hK hP 0 rfl rfl 9 (by decide) fl25 (fun _ h9 => h9) rfl dX10_lays_9 ?_
      refine lv_bipush (v := 36) hx hb dX10_lays_12 (by decide) ?_
      refine lv_iload_n hx hb dX10_lays_14 rfl (lv_at hl 1 rfl) ?_
      refine lv_imul hx hb dX10_lays_15 ?_
      refine lv_iload_n hx hb dX10_lays_16 rfl (lv_at hl 2 rfl) ?_
      refine lv_iadd hx hb dX10_lays_17 ?_
      refine lv_aload_n hx hb dX10_lays_18 rfl (lv_at hl 0 rfl) ?_
      refine va_get (D := D) (ci := 6) (v := .ref (ad 1)) (C := RX10) (T := TX10) (N := 20) hx hb hts hinX10 hown hK hP 0 rfl rfl 0 (by decide) fl7 (fun _ h9 => h9) rfl dX10_lays_19 ?_
      refine lv_iload_n hx hb dX10_lays_22 rfl (lv_at hl 2 rfl) ?_
      obtain ⟨gi23, hm⟩ := k_gs hm
      refine va_iald hx hb hK hP 1 0 rfl rfl gi23 dX10_lays_23 ?_
      obtain ⟨gi24, hm⟩ := k_gs hm
      refine va_iast hx hb hK hP hD hS 6 0 rfl rfl gi24 dX10_lays_24 (fun H locs hP hD hS => ?_)
      have hP : va_P D vwCl (wM cI cJ ad c_s c_before c_known c_kept c_isKept c_aside c_buffer c_length c_thrown (upd c_laid (Int32.toNatClampNeg ((36 * a1) + l2)) (c_s (Int32.toNatClampNeg l2))) c_spot c_isWrong c_isHalted c_mine c_theirs c_many c_from0 c_from1 c_dice c_hash) H := hP
      have hD : va_D A (wM cI cJ ad c_s c_before c_known c_kept c_isKept c_aside c_buffer c_length c_thrown (upd c_laid (Int32.toNatClampNeg ((36 * a1) + l2)) (c_s (Int32.toNatClampNeg l2))) c_spot c_isWrong c_isHalted c_mine c_theirs c_many c_from0 c_from1 c_dice c_hash) := hD
      refine lv_iinc (v := (l2 + 1)) (lv' := [(2, .int (l2 + 1)), (0, .ref (ad 0)), (1, .int a1)]) hx hb dX10_lays_25 hl (k := 2) rfl rfl (by decide) rfl (fun ls hl => ?_)
      refine lv_goto (tgt := 2) hx hb dX10_lays_28 (by decide) ?_
      exact ih2 (l2 + 1) (upd c_laid (Int32.toNatClampNeg ((36 * a1) + l2)) (c_s (Int32.toNatClampNeg l2))) _ _ hP hD hS _ (lv_sub hl [1, 2, 0] rfl) hm) k_F
  unfold mX10_lays at hm
  refine lv_iconst (v := 0) hx hb dX10_lays_0 (by decide) ?_
  refine lv_istore_n (lv' := [(2, .int 0), (0, .ref (ad 0)), (1, .int a1)]) hx hb dX10_lays_1 rfl hl (by decide) rfl (fun ls hl => ?_)
  exact J_2 0 c_laid _ _ hP hD hS _ (lv_sub hl [1, 2, 0] rfl) hm

abbrev rmX10_takesUp : Room := { frames := 0, cells := 0, slots := 0, locals := 0 }
set_option maxHeartbeats 4000000 in
set_option maxRecDepth 100000 in
theorem zX10_takesUp {l : Launch} {D : va_G} {cI cJ cC cG : ClassId} {sz : Nat} {ad : Nat → Nat} {c_s : Nat → Int32} {c_before : Nat → Int32} {c_known : Int32} {c_kept : Nat → Int32} {c_isKept : Bool} {c_aside : Nat → Int32} {c_buffer : Nat → Int32} {c_length : Int32} {c_thrown : Int32} {c_laid : Nat → Int32} {c_spot : Int32} {c_isWrong : Bool} {c_isHalted : Bool} {c_mine : Nat → Int64} {c_theirs : Nat → Int64} {c_many : Int32} {c_from0 : Nat → Int64} {c_from1 : Nat → Int64} {c_dice : Nat → Int32} {c_hash : Int64} {a1 : Int32} {c_s' : Nat → Int32} (hm : mX10_takesUp c_s c_laid a1 = some (c_s')) : k_Mv l yX10_takesUp wsX10_takesUp rmX10_takesUp D (kT cI cJ cC cG) sz ([.ref (ad 0), .int a1] : List Value) (wM cI cJ ad c_s c_before c_known c_kept c_isKept c_aside c_buffer c_length c_thrown c_laid c_spot c_isWrong c_isHalted c_mine c_theirs c_many c_from0 c_from1 c_dice c_hash) (wM cI cJ ad c_s' c_before c_known c_kept c_isKept c_aside c_buffer c_length c_thrown c_laid c_spot c_isWrong c_isHalted c_mine c_theirs c_many c_from0 c_from1 c_dice c_hash) := by
  refine k_st_v (cc := cX10_takesUp) (maxL := 3) (by decide) rfl (Nat.le_of_ble_eq_true rfl) ?_
  intro p e z m below meth c A hx hb hr hml hts hown hlocks hsz hN hA hK hP hD hS ls hl
  have hown : z.vm.findClass RX10 = some m.cls := hown
  have hinX10 : ∀ w ∈ wsX100, w ∈ wsX10_takesUp := by decide +kernel
  have fl7 := hts (.fieldLink RX10 7 "MagpieRunsModel" "s" "[I") (by decide +kernel)
  have fl25 := hts (.fieldLink RX10 25 "MagpieRunsModel" "laid" "[I") (by decide +kernel)
  have hl : lv_has ls 3 [(0, .ref (ad 0)), (1, .int a1)] := hl
  have J_2 := k_loop (z := fun _ _ => none) (st := mX10_takesUp_2 c_laid a1) (fun k2 : (Int32) → (Nat → Int32) → Option ((Nat → Int32)) => ∀ (l2 : Int32) (c_s : Nat → Int32) (H : Heap) (locs : List Loc), va_P D vwCl (wM cI cJ ad c_s c_before c_known c_kept c_isKept c_aside c_buffer c_length c_thrown c_laid c_spot c_isWrong c_isHalted c_mine c_theirs c_many c_from0 c_from1 c_dice c_hash) H → va_D A (wM cI cJ ad c_s c_before c_known c_kept c_isKept c_aside c_buffer c_length c_thrown c_laid c_spot c_isWrong c_isHalted c_mine c_theirs c_many c_from0 c_from1 c_dice c_hash) → va_S A z.heap H locs → ∀ ls : Array Slot, lv_has ls 3 [(0, .ref (ad 0)), (1, .int a1), (2, .int l2)] → k2 l2 c_s = some (c_s') → W p l e rmX10_takesUp z m ([.ref (ad 0), .int a1] : List Value).toArray below meth c H locs 0 0 (k_Qv below ([.ref (ad 0), .int a1] : List Value) D (kT cI cJ cC cG) z A (wM cI cJ ad c_s' c_before c_known c_kept c_isKept c_aside c_buffer c_length c_thrown c_laid c_spot c_isWrong c_isHalted c_mine c_theirs c_many c_from0 c_from1 c_dice c_hash)) (F0 m 2 ls [])) (by intros; rename_i h; cases h) (by
    intro k2 ih2
    intro l2 c_s H locs hP hD hS ls hl hm
    unfold mX10_takesUp_2 at hm
    refine lv_iload_n hx hb dX10_takesUp_2 rfl (lv_at hl 2 rfl) ?_
    refine lv_bipush (v := 36) hx hb dX10_takesUp_3 (by decide) ?_
    refine lv_icmp_ge (tgt := 31) hx hb dX10_takesUp_5 (by decide) (fun cc5 => ?_) (fun cc5 => ?_)
    · have hm := k_ip cc5 hm
      cases hm
      exact k_end_v hx hb hr hlocks hK hP hD hS dX10_takesUp_31
    · have hm := k_in cc5 hm
      refine lv_aload_n hx hb dX10_takesUp_8 rfl (lv_at hl 0 rfl) ?_
      refine va_get (D := D) (ci := 6) (v := .ref (ad 1)) (C := RX10) (T := TX10) (N := 20) hx hb hts hinX10 hown hK hP 0 rfl rfl 0 (by decide) fl7 (fun _ h9 => h9) rfl dX10_takesUp_9 ?_
      refine lv_iload_n hx hb dX10_takesUp_12 rfl (lv_at hl 2 rfl) ?_
      refine lv_aload_n hx hb dX10_takesUp_13 rfl (lv_at hl 0 rfl) ?_
      refine va_get (D := D) (ci := 6) (v := .ref (ad 6)) (C := RX10) (T := TX10) (N := 20) hx hb hts hinX10 hown hK hP 0 rfl rfl 9 (by decide) fl25 (fun _ h9 => h9) rfl dX10_takesUp_14 ?_
      refine lv_bipush (v := 36) hx hb dX10_takesUp_17 (by decide) ?_
      refine lv_iload_n hx hb dX10_takesUp_19 rfl (lv_at hl 1 rfl) ?_
      refine lv_imul hx hb dX10_takesUp_20 ?_
      refine lv_iload_n hx hb dX10_takesUp_21 rfl (lv_at hl 2 rfl) ?_
      refine lv_iadd hx hb dX10_takesUp_22 ?_
      obtain ⟨gi23, hm⟩ := k_gs hm
      refine va_iald hx hb hK hP 6 0 rfl rfl gi23 dX10_takesUp_23 ?_
      obtain ⟨gi24, hm⟩ := k_gs hm
      refine va_iast hx hb hK hP hD hS 1 0 rfl rfl gi24 dX10_takesUp_24 (fun H locs hP hD hS => ?_)
      have hP : va_P D vwCl (wM cI cJ ad (upd c_s (Int32.toNatClampNeg l2) (c_laid (Int32.toNatClampNeg ((36 * a1) + l2)))) c_before c_known c_kept c_isKept c_aside c_buffer c_length c_thrown c_laid c_spot c_isWrong c_isHalted c_mine c_theirs c_many c_from0 c_from1 c_dice c_hash) H := hP
      have hD : va_D A (wM cI cJ ad (upd c_s (Int32.toNatClampNeg l2) (c_laid (Int32.toNatClampNeg ((36 * a1) + l2)))) c_before c_known c_kept c_isKept c_aside c_buffer c_length c_thrown c_laid c_spot c_isWrong c_isHalted c_mine c_theirs c_many c_from0 c_from1 c_dice c_hash) := hD
      refine lv_iinc (v := (l2 + 1)) (lv' := [(2, .int (l2 + 1)), (0, .ref (ad 0)), (1, .int a1)]) hx hb dX10_takesUp_25 hl (k := 2) rfl rfl (by decide) rfl (fun ls hl => ?_)
      refine lv_goto (tgt := 2) hx hb dX10_takesUp_28 (by decide) ?_
      exact ih2 (l2 + 1) (upd c_s (Int32.toNatClampNeg l2) (c_laid (Int32.toNatClampNeg ((36 * a1) + l2)))) _ _ hP hD hS _ (lv_sub hl [1, 2, 0] rfl) hm) k_F
  unfold mX10_takesUp at hm
  refine lv_iconst (v := 0) hx hb dX10_takesUp_0 (by decide) ?_
  refine lv_istore_n (lv' := [(2, .int 0), (0, .ref (ad 0)), (1, .int a1)]) hx hb dX10_takesUp_1 rfl hl (by decide) rfl (fun ls hl => ?_)
  exact J_2 0 c_s _ _ hP hD hS _ (lv_sub hl [1, 2, 0] rfl) hm

abbrev rmX10_isSecond : Room := { frames := 4, cells := 0, slots := 0, locals := 94 }
set_option maxHeartbeats 4000000 in
set_option maxRecDepth 100000 in
theorem zX10_isSecond {l : Launch} {D : va_G} {cI cJ cC cG : ClassId} {sz : Nat} {ad : Nat → Nat} {c_s : Nat → Int32} {c_before : Nat → Int32} {c_known : Int32} {c_kept : Nat → Int32} {c_isKept : Bool} {c_aside : Nat → Int32} {c_buffer : Nat → Int32} {c_length : Int32} {c_thrown : Int32} {c_laid : Nat → Int32} {c_spot : Int32} {c_isWrong : Bool} {c_isHalted : Bool} {c_mine : Nat → Int64} {c_theirs : Nat → Int64} {c_many : Int32} {c_from0 : Nat → Int64} {c_from1 : Nat → Int64} {c_dice : Nat → Int32} {c_hash : Int64} {a1 : Int32} {a2 : Int32} {a3 : Int32} {a4 : Int32} {r : Bool} {c_s' : Nat → Int32} {c_laid' : Nat → Int32} (hm : mX10_isSecond c_s c_laid a1 a2 a3 a4 = some (r, c_s', c_laid')) : k_Mi l yX10_isSecond wsX10_isSecond rmX10_isSecond D (kT cI cJ cC cG) sz ([.ref (ad 0), .int a1, .int a2, .int a3, .int a4] : List Value) (wM cI cJ ad c_s c_before c_known c_kept c_isKept c_aside c_buffer c_length c_thrown c_laid c_spot c_isWrong c_isHalted c_mine c_theirs c_many c_from0 c_from1 c_dice c_hash) (wM cI cJ ad c_s' c_before c_known c_kept c_isKept c_aside c_buffer c_length c_thrown c_laid' c_spot c_isWrong c_isHalted c_mine c_theirs c_many c_from0 c_from1 c_dice c_hash) (k_b r) := by
  refine k_st_i (cc := cX10_isSecond) (maxL := 7) (by decide) rfl (Nat.le_of_ble_eq_true rfl) ?_
  intro p e z m below meth c A hx hb hr hml hts hown hlocks hsz hN hA hK hP hD hS ls hl
  have hown : z.vm.findClass RX10 = some m.cls := hown
  have hl : lv_has ls 7 [(0, .ref (ad 0)), (1, .int a1), (2, .int a2), (3, .int a3), (4, .int a4)] := hl
  unfold mX10_isSecond at hm
  refine lv_aload_n hx hb dX10_isSecond_0 rfl (lv_at hl 0 rfl) ?_
  refine lv_iconst (v := 2) hx hb dX10_isSecond_1 (by decide) ?_
  obtain ⟨w1, hc2, hm⟩ := k_bds hm
  refine k_v_s (k_rV (As := [.int 2]) (rest := []) ⟨hx, hb, hml, hown, hts⟩ hK hN hP hD (zX10_lays hc2) (cwV 1 hts gX10_isSecond_X10_lays rfl rfl rfl (by decide +kernel) ⟨Nat.le_of_ble_eq_true rfl, Nat.le_of_ble_eq_true rfl⟩) rfl rfl rfl hl.1 rfl (Nat.le_of_ble_eq_true rfl) dX10_isSecond_2 ⟨Nat.zero_le _, Nat.zero_le _⟩) hD hS hA (fun H locs hP hD hS => ?_)
  refine lv_aload_n hx hb dX10_isSecond_5 rfl (lv_at hl 0 rfl) ?_
  refine lv_iload_n hx hb dX10_isSecond_6 rfl (lv_at hl 1 rfl) ?_
  refine lv_iload_n hx hb dX10_isSecond_7 rfl (lv_at hl 2 rfl) ?_
  refine lv_iload_n hx hb dX10_isSecond_8 rfl (lv_at hl 3 rfl) ?_
  obtain ⟨r2, w3, hc9, hm⟩ := k_bd2s hm
  refine k_i_s (k_rV (As := [.int a1, .int a2, .int a3]) (rest := []) ⟨hx, hb, hml, hown, hts⟩ hK hN hP hD (zX10_moves hc9) (cwV 3 hts gX10_isSecond_X10_moves rfl rfl rfl (by decide +kernel) ⟨Nat.le_of_ble_eq_true rfl, Nat.le_of_ble_eq_true rfl⟩) rfl rfl rfl hl.1 rfl (Nat.le_of_ble_eq_true rfl) dX10_isSecond_9 ⟨Nat.zero_le _, Nat.zero_le _⟩) hD hS hA (fun H locs hP hD hS => ?_)
  refine lv_istore (lv' := [(5, .int (k_b r2)), (0, .ref (ad 0)), (1, .int a1), (2, .int a2), (3, .int a3), (4, .int a4)]) hx hb dX10_isSecond_12 hl (by decide) rfl (fun ls hl => ?_)
  refine lv_aload_n hx hb dX10_isSecond_14 rfl (lv_at hl 1 rfl) ?_
  refine lv_iload_n hx hb dX10_isSecond_15 rfl (lv_at hl 2 rfl) ?_
  refine lv_iload hx hb dX10_isSecond_16 (lv_at hl 5 rfl) ?_
  obtain ⟨r4, hc18, hm⟩ := k_bds hm
  refine k_i_s (k_rV (As := [.int a1, .int a4]) (rest := []) ⟨hx, hb, hml, hown, hts⟩ hK hN hP hD (zX10_isAny hc18) (cwV 2 hts gX10_isSecond_X10_isAny rfl rfl rfl (by decide +kernel) ⟨Nat.le_of_ble_eq_true rfl, Nat.le_of_ble_eq_true rfl⟩) rfl rfl rfl hl.1 rfl (Nat.le_of_ble_eq_true rfl) dX10_isSecond_18 ⟨Nat.zero_le _, Nat.zero_le _⟩) hD hS hA (fun H locs hP hD hS => ?_)
  refine lv_istore (lv' := [(6, .int (k_b r4)), (5, .int (k_b r2)), (0, .ref (ad 0)), (1, .int a1), (2, .int a2), (3, .int a3), (4, .int a4)]) hx hb dX10_isSecond_21 hl (by decide) rfl (fun ls hl => ?_)
  refine lv_aload_n hx hb dX10_isSecond_23 rfl (lv_at hl 2 rfl) ?_
  refine lv_iconst (v := 2) hx hb dX10_isSecond_24 (by decide) ?_
  obtain ⟨w5, hc25, hm⟩ := k_bds hm
  refine k_v_s (k_rV (As := [.int 2]) (rest := []) ⟨hx, hb, hml, hown, hts⟩ hK hN hP hD (zX10_takesUp hc25) (cwV 1 hts gX10_isSecond_X10_takesUp rfl rfl rfl (by decide +kernel) ⟨Nat.le_of_ble_eq_true rfl, Nat.le_of_ble_eq_true rfl⟩) rfl rfl rfl hl.1 rfl (Nat.le_of_ble_eq_true rfl) dX10_isSecond_25 ⟨Nat.zero_le _, Nat.zero_le _⟩) hD hS hA (fun H locs hP hD hS => ?_)
  refine lv_iload hx hb dX10_isSecond_28 (lv_at hl 0 rfl) ?_
  cases hm
  exact k_end_z _ hx hb hr hlocks hK hP hD hS dX10_isSecond_30

abbrev rmX10_isBoth : Room := { frames := 5, cells := 0, slots := 0, locals := 120 }
set_option maxHeartbeats 4000000 in
set_option maxRecDepth 100000 in
theorem zX10_isBoth {l : Launch} {D : va_G} {cI cJ cC cG : ClassId} {sz : Nat} {ad : Nat → Nat} {c_s : Nat → Int32} {c_before : Nat → Int32} {c_known : Int32} {c_kept : Nat → Int32} {c_isKept : Bool} {c_aside : Nat → Int32} {c_buffer : Nat → Int32} {c_length : Int32} {c_thrown : Int32} {c_laid : Nat → Int32} {c_spot : Int32} {c_isWrong : Bool} {c_isHalted : Bool} {c_mine : Nat → Int64} {c_theirs : Nat → Int64} {c_many : Int32} {c_from0 : Nat → Int64} {c_from1 : Nat → Int64} {c_dice : Nat → Int32} {c_hash : Int64} {a1 : Int32} {a2 : Int32} {a3 : Int32} {r : Bool} {c_s' : Nat → Int32} {c_laid' : Nat → Int32} (hm : mX10_isBoth c_s c_laid a1 a2 a3 = some (r, c_s', c_laid')) : k_Mi l yX10_isBoth wsX10_isBoth rmX10_isBoth D (kT cI cJ cC cG) sz ([.ref (ad 0), .int a1, .int a2, .int a3] : List Value) (wM cI cJ ad c_s c_before c_known c_kept c_isKept c_aside c_buffer c_length c_thrown c_laid c_spot c_isWrong c_isHalted c_mine c_theirs c_many c_from0 c_from1 c_dice c_hash) (wM cI cJ ad c_s' c_before c_known c_kept c_isKept c_aside c_buffer c_length c_thrown c_laid' c_spot c_isWrong c_isHalted c_mine c_theirs c_many c_from0 c_from1 c_dice c_hash) (k_b r) := by
  refine k_st_i (cc := cX10_isBoth) (maxL := 5) (by decide) rfl (Nat.le_of_ble_eq_true rfl) ?_
  intro p e z m below meth c A hx hb hr hml hts hown hlocks hsz hN hA hK hP hD hS ls hl
  have hown : z.vm.findClass RX10 = some m.cls := hown
  have hl : lv_has ls 5 [(0, .ref (ad 0)), (1, .int a1), (2, .int a2), (3, .int a3)] := hl
  have J_3 := k_loop (z := fun _ _ _ => none) (st := mX10_isBoth_3 a1 a2 a3) (fun k3 : (Int32) → (Nat → Int32) → (Nat → Int32) → Option (Bool × (Nat → Int32) × (Nat → Int32)) => ∀ (l4 : Int32) (c_s : Nat → Int32) (c_laid : Nat → Int32) (H : Heap) (locs : List Loc), va_P D vwCl (wM cI cJ ad c_s c_before c_known c_kept c_isKept c_aside c_buffer c_length c_thrown c_laid c_spot c_isWrong c_isHalted c_mine c_theirs c_many c_from0 c_from1 c_dice c_hash) H → va_D A (wM cI cJ ad c_s c_before c_known c_kept c_isKept c_aside c_buffer c_length c_thrown c_laid c_spot c_isWrong c_isHalted c_mine c_theirs c_many c_from0 c_from1 c_dice c_hash) → va_S A z.heap H locs → ∀ ls : Array Slot, lv_has ls 5 [(0, .ref (ad 0)), (1, .int a1), (2, .int a2), (3, .int a3), (4, .int l4)] → k3 l4 c_s c_laid = some (r, c_s', c_laid') → W p l e rmX10_isBoth z m ([.ref (ad 0), .int a1, .int a2, .int a3] : List Value).toArray below meth c H locs 0 0 (k_Qi below ([.ref (ad 0), .int a1, .int a2, .int a3] : List Value) D (kT cI cJ cC cG) z A (wM cI cJ ad c_s' c_before c_known c_kept c_isKept c_aside c_buffer c_length c_thrown c_laid' c_spot c_isWrong c_isHalted c_mine c_theirs c_many c_from0 c_from1 c_dice c_hash) (k_b r)) (F0 m 3 ls [])) (by intros; rename_i h; cases h) (by
    intro k3 ih3
    intro l4 c_s c_laid H locs hP hD hS ls hl hm
    unfold mX10_isBoth_3 at hm
    refine lv_iload hx hb dX10_isBoth_3 (lv_at hl 4 rfl) ?_
    refine lv_bipush (v := 16) hx hb dX10_isBoth_5 (by decide) ?_
    refine lv_icmp_ge (tgt := 41) hx hb dX10_isBoth_7 (by decide) (fun cc7 => ?_) (fun cc7 => ?_)
    · have hm := k_ip cc7 hm
      refine lv_iconst (v := 0) hx hb dX10_isBoth_41 (by decide) ?_
      cases hm
      exact k_end_z false hx hb hr hlocks hK hP hD hS dX10_isBoth_42
    · have hm := k_in cc7 hm
      refine lv_aload_n hx hb dX10_isBoth_10 rfl (lv_at hl 0 rfl) ?_
      refine lv_iload_n hx hb dX10_isBoth_11 rfl (lv_at hl 1 rfl) ?_
      refine lv_iload hx hb dX10_isBoth_12 (lv_at hl 4 rfl) ?_
      refine lv_iload_n hx hb dX10_isBoth_14 rfl (lv_at hl 2 rfl) ?_
      obtain ⟨r1, hc15, hm⟩ := k_bds hm
      refine k_i_s (k_rV (As := [.int a1, .int l4, .int a2]) (rest := []) ⟨hx, hb, hml, hown, hts⟩ hK hN hP hD (zX10_refused hc15) (cwV 3 hts gX10_isBoth_X10_refused rfl rfl rfl (by decide +kernel) ⟨Nat.le_of_ble_eq_true rfl, Nat.le_of_ble_eq_true rfl⟩) rfl rfl rfl hl.1 rfl (Nat.le_of_ble_eq_true rfl) dX10_isBoth_15 ⟨Nat.zero_le _, Nat.zero_le _⟩) hD hS hA (fun H locs hP hD hS => ?_)
      refine lv_if_ne (tgt := 35) hx hb dX10_isBoth_18 (by decide) (fun cc18 => ?_) (fun cc18 => ?_)
      · have hm := k_in cc18 hm
        refine lv_iinc (v := (l4 + 1)) (lv' := [(4, .int (l4 + 1)), (0, .ref (ad 0)), (1, .int a1), (2, .int a2), (3, .int a3)]) hx hb dX10_isBoth_35 hl (k := 4) rfl rfl (by decide) rfl (fun ls hl => ?_)
        refine lv_goto (tgt := 3) hx hb dX10_isBoth_38 (by decide) ?_
        exact ih3 (l4 + 1) c_s c_laid _ _ hP hD hS _ (lv_sub hl [1, 2, 3, 4, 0] rfl) hm
      · have hm := k_ip cc18 hm
        refine lv_aload_n hx hb dX10_isBoth_21 rfl (lv_at hl 0 rfl) ?_
        refine lv_iload_n hx hb dX10_isBoth_22 rfl (lv_at hl 1 rfl) ?_
        refine lv_iload hx hb dX10_isBoth_23 (lv_at hl 4 rfl) ?_
        refine lv_iload_n hx hb dX10_isBoth_25 rfl (lv_at hl 2 rfl) ?_
        refine lv_iload_n hx hb dX10_isBoth_26 rfl (lv_at hl 3 rfl) ?_
        obtain ⟨r2, w3, w4, hc27, hm⟩ := k_bd3s hm
        refine k_i_s (k_rV (As := [.int a1, .int l4, .int a2, .int a3]) (rest := []) ⟨hx, hb, hml, hown, hts⟩ hK hN hP hD (zX10_isSecond hc27) (cwV 4 hts gX10_isBoth_X10_isSecond rfl rfl rfl (by decide +kernel) ⟨Nat.le_of_ble_eq_true rfl, Nat.le_of_ble_eq_true rfl⟩) rfl rfl rfl hl.1 rfl (Nat.le_of_ble_eq_true rfl) dX10_isBoth_27 ⟨Nat.zero_le _, Nat.zero_le _⟩) hD hS hA (fun H locs hP hD hS => ?_)
        refine lv_if_eq (tgt := 35) hx hb dX10_isBoth_30 (by decide) (fun cc30 => ?_) (fun cc30 => ?_)
        · have hm := k_ip cc30 hm
          refine lv_iinc (v := (l4 + 1)) (lv' := [(4, .int (l4 + 1)), (0, .ref (ad 0)), (1, .int a1), (2, .int a2), (3, .int a3)]) hx hb dX10_isBoth_35 hl (k := 4) rfl rfl (by decide) rfl (fun ls hl => ?_)
          refine lv_goto (tgt := 3) hx hb dX10_isBoth_38 (by decide) ?_
          exact ih3 (l4 + 1) w3 w4 _ _ hP hD hS _ (lv_sub hl [1, 2, 3, 4, 0] rfl) hm
        · have hm := k_in cc30 hm
          refine lv_iconst (v := 1) hx hb dX10_isBoth_33 (by decide) ?_
          cases hm
          exact k_end_z true hx hb hr hlocks hK hP hD hS dX10_isBoth_34) k_F
  unfold mX10_isBoth at hm
  refine lv_iconst (v := (-1)) hx hb dX10_isBoth_0 (by decide) ?_
  refine lv_istore (lv' := [(4, .int (-1)), (0, .ref (ad 0)), (1, .int a1), (2, .int a2), (3, .int a3)]) hx hb dX10_isBoth_1 hl (by decide) rfl (fun ls hl => ?_)
  exact J_3 (-1) c_s c_laid _ _ hP hD hS _ (lv_sub hl [1, 2, 3, 4, 0] rfl) hm

abbrev rmX10_areUnlike : Room := { frames := 0, cells := 0, slots := 0, locals := 0 }
set_option maxHeartbeats 4000000 in
set_option maxRecDepth 100000 in
theorem zX10_areUnlike {l : Launch} {D : va_G} {cI cJ cC cG : ClassId} {sz : Nat} {ad : Nat → Nat} {c_s : Nat → Int32} {c_before : Nat → Int32} {c_known : Int32} {c_kept : Nat → Int32} {c_isKept : Bool} {c_aside : Nat → Int32} {c_buffer : Nat → Int32} {c_length : Int32} {c_thrown : Int32} {c_laid : Nat → Int32} {c_spot : Int32} {c_isWrong : Bool} {c_isHalted : Bool} {c_mine : Nat → Int64} {c_theirs : Nat → Int64} {c_many : Int32} {c_from0 : Nat → Int64} {c_from1 : Nat → Int64} {c_dice : Nat → Int32} {c_hash : Int64} {r : Bool} (hm : mX10_areUnlike c_s = some (r)) : k_Mi l yX10_areUnlike wsX10_areUnlike rmX10_areUnlike D (kT cI cJ cC cG) sz ([.ref (ad 0)] : List Value) (wM cI cJ ad c_s c_before c_known c_kept c_isKept c_aside c_buffer c_length c_thrown c_laid c_spot c_isWrong c_isHalted c_mine c_theirs c_many c_from0 c_from1 c_dice c_hash) (wM cI cJ ad c_s c_before c_known c_kept c_isKept c_aside c_buffer c_length c_thrown c_laid c_spot c_isWrong c_isHalted c_mine c_theirs c_many c_from0 c_from1 c_dice c_hash) (k_b r) := by
  refine k_st_i (cc := cX10_areUnlike) (maxL := 1) (by decide) rfl (Nat.le_of_ble_eq_true rfl) ?_
  intro p e z m below meth c A hx hb hr hml hts hown hlocks hsz hN hA hK hP hD hS ls hl
  have hown : z.vm.findClass RX10 = some m.cls := hown
  have hinX10 : ∀ w ∈ wsX100, w ∈ wsX10_areUnlike := by decide +kernel
  have fl7 := hts (.fieldLink RX10 7 "MagpieRunsModel" "s" "[I") (by decide +kernel)
  have hl : lv_has ls 1 [(0, .ref (ad 0))] := hl
  unfold mX10_areUnlike at hm
  refine lv_aload_n hx hb dX10_areUnlike_0 rfl (lv_at hl 0 rfl) ?_
  refine va_get (D := D) (ci := 6) (v := .ref (ad 1)) (C := RX10) (T := TX10) (N := 20) hx hb hts hinX10 hown hK hP 0 rfl rfl 0 (by decide) fl7 (fun _ h9 => h9) rfl dX10_areUnlike_1 ?_
  refine lv_bipush (v := 38) hx hb dX10_areUnlike_4 (by decide) ?_
  refine k_iaC hx hb hK hP 1 0 rfl rfl kl_38 ki_38_51 dX10_areUnlike_6 ?_
  refine lv_iconst (v := 2) hx hb dX10_areUnlike_7 (by decide) ?_
  refine lv_icmp_ne (tgt := 32) hx hb dX10_areUnlike_8 (by decide) (fun cc8 => ?_) (fun cc8 => ?_)
  · have hm := k_in cc8 hm
    refine lv_iconst (v := 0) hx hb dX10_areUnlike_32 (by decide) ?_
    cases hm
    exact k_end_z false hx hb hr hlocks hK hP hD hS dX10_areUnlike_33
  · have hm := k_ip cc8 hm
    refine lv_aload_n hx hb dX10_areUnlike_11 rfl (lv_at hl 0 rfl) ?_
    refine va_get (D := D) (ci := 6) (v := .ref (ad 1)) (C := RX10) (T := TX10) (N := 20) hx hb hts hinX10 hown hK hP 0 rfl rfl 0 (by decide) fl7 (fun _ h9 => h9) rfl dX10_areUnlike_12 ?_
    refine lv_bipush (v := 39) hx hb dX10_areUnlike_15 (by decide) ?_
    refine k_iaC hx hb hK hP 1 0 rfl rfl kl_39 ki_39_51 dX10_areUnlike_17 ?_
    refine lv_aload_n hx hb dX10_areUnlike_18 rfl (lv_at hl 0 rfl) ?_
    refine va_get (D := D) (ci := 6) (v := .ref (ad 1)) (C := RX10) (T := TX10) (N := 20) hx hb hts hinX10 hown hK hP 0 rfl rfl 0 (by decide) fl7 (fun _ h9 => h9) rfl dX10_areUnlike_19 ?_
    refine lv_bipush (v := 40) hx hb dX10_areUnlike_22 (by decide) ?_
    refine k_iaC hx hb hK hP 1 0 rfl rfl kl_40 ki_40_51 dX10_areUnlike_24 ?_
    refine lv_icmp_eq (tgt := 32) hx hb dX10_areUnlike_25 (by decide) (fun cc25 => ?_) (fun cc25 => ?_)
    · have hm := k_ip cc25 hm
      refine lv_iconst (v := 0) hx hb dX10_areUnlike_32 (by decide) ?_
      cases hm
      exact k_end_z false hx hb hr hlocks hK hP hD hS dX10_areUnlike_33
    · have hm := k_in cc25 hm
      refine lv_iconst (v := 1) hx hb dX10_areUnlike_28 (by decide) ?_
      refine lv_goto (tgt := 33) hx hb dX10_areUnlike_29 (by decide) ?_
      cases hm
      exact k_end_z true hx hb hr hlocks hK hP hD hS dX10_areUnlike_33

abbrev rmX10_reaches : Room := { frames := 6, cells := 0, slots := 0, locals := 144 }
set_option maxHeartbeats 4000000 in
set_option maxRecDepth 100000 in
theorem zX10_reaches {l : Launch} {D : va_G} {cI cJ cC cG : ClassId} {sz : Nat} {ad : Nat → Nat} {c_s : Nat → Int32} {c_before : Nat → Int32} {c_known : Int32} {c_kept : Nat → Int32} {c_isKept : Bool} {c_aside : Nat → Int32} {c_buffer : Nat → Int32} {c_length : Int32} {c_thrown : Int32} {c_laid : Nat → Int32} {c_spot : Int32} {c_isWrong : Bool} {c_isHalted : Bool} {c_mine : Nat → Int64} {c_theirs : Nat → Int64} {c_many : Int32} {c_from0 : Nat → Int64} {c_from1 : Nat → Int64} {c_dice : Nat → Int32} {c_hash : Int64} {r : Int32} {c_s' : Nat → Int32} {c_laid' : Nat → Int32} (hm : mX10_reaches c_s c_laid = some (r, c_s', c_laid')) : k_Mi l yX10_reaches wsX10_reaches rmX10_reaches D (kT cI cJ cC cG) sz ([.ref (ad 0)] : List Value) (wM cI cJ ad c_s c_before c_known c_kept c_isKept c_aside c_buffer c_length c_thrown c_laid c_spot c_isWrong c_isHalted c_mine c_theirs c_many c_from0 c_from1 c_dice c_hash) (wM cI cJ ad c_s' c_before c_known c_kept c_isKept c_aside c_buffer c_length c_thrown c_laid' c_spot c_isWrong c_isHalted c_mine c_theirs c_many c_from0 c_from1 c_dice c_hash) r := by
  refine k_st_i (cc := cX10_reaches) (maxL := 5) (by decide) rfl (Nat.le_of_ble_eq_true rfl) ?_
  intro p e z m below meth c A hx hb hr hml hts hown hlocks hsz hN hA hK hP hD hS ls hl
  have hown : z.vm.findClass RX10 = some m.cls := hown
  have hinX10 : ∀ w ∈ wsX100, w ∈ wsX10_reaches := by decide +kernel
  have fl7 := hts (.fieldLink RX10 7 "MagpieRunsModel" "s" "[I") (by decide +kernel)
  have hl : lv_has ls 5 [(0, .ref (ad 0))] := hl
  have J_150 : ∀ (l2 : Int32) (c_s : Nat → Int32) (c_laid : Nat → Int32) (H : Heap) (locs : List Loc), va_P D vwCl (wM cI cJ ad c_s c_before c_known c_kept c_isKept c_aside c_buffer c_length c_thrown c_laid c_spot c_isWrong c_isHalted c_mine c_theirs c_many c_from0 c_from1 c_dice c_hash) H → va_D A (wM cI cJ ad c_s c_before c_known c_kept c_isKept c_aside c_buffer c_length c_thrown c_laid c_spot c_isWrong c_isHalted c_mine c_theirs c_many c_from0 c_from1 c_dice c_hash) → va_S A z.heap H locs → ∀ ls : Array Slot, lv_has ls 5 [(0, .ref (ad 0)), (2, .int l2)] → mX10_reaches_150 l2 c_s c_laid = some (r, c_s', c_laid') → W p l e rmX10_reaches z m ([.ref (ad 0)] : List Value).toArray below meth c H locs 0 0 (k_Qi below ([.ref (ad 0)] : List Value) D (kT cI cJ cC cG) z A (wM cI cJ ad c_s' c_before c_known c_kept c_isKept c_aside c_buffer c_length c_thrown c_laid' c_spot c_isWrong c_isHalted c_mine c_theirs c_many c_from0 c_from1 c_dice c_hash) r) (F0 m 150 ls []) := by
    intro l2 c_s c_laid H locs hP hD hS ls hl hm
    unfold mX10_reaches_150 at hm
    refine lv_aload_n hx hb dX10_reaches_150 rfl (lv_at hl 0 rfl) ?_
    refine lv_iconst (v := 0) hx hb dX10_reaches_151 (by decide) ?_
    obtain ⟨w1, hc152, hm⟩ := k_bds hm
    refine k_v_s (k_rV (As := [.int 0]) (rest := []) ⟨hx, hb, hml, hown, hts⟩ hK hN hP hD (zX10_takesUp hc152) (cwV 1 hts gX10_reaches_X10_takesUp rfl rfl rfl (by decide +kernel) ⟨Nat.le_of_ble_eq_true rfl, Nat.le_of_ble_eq_true rfl⟩) rfl rfl rfl hl.1 rfl (Nat.le_of_ble_eq_true rfl) dX10_reaches_152 ⟨Nat.zero_le _, Nat.zero_le _⟩) hD hS hA (fun H locs hP hD hS => ?_)
    refine lv_iload_n hx hb dX10_reaches_155 rfl (lv_at hl 1 rfl) ?_
    cases hm
    exact k_end_i hx hb hr hlocks hK hP hD hS dX10_reaches_156
  have J_88 := k_loop (z := fun _ _ _ _ _ => none) (st := mX10_reaches_88) (fun k88 : (Int32) → (Int32) → (Int32) → (Nat → Int32) → (Nat → Int32) → Option (Int32 × (Nat → Int32) × (Nat → Int32)) => ∀ (l1 : Int32) (l2 : Int32) (l3 : Int32) (c_s : Nat → Int32) (c_laid : Nat → Int32) (H : Heap) (locs : List Loc), va_P D vwCl (wM cI cJ ad c_s c_before c_known c_kept c_isKept c_aside c_buffer c_length c_thrown c_laid c_spot c_isWrong c_isHalted c_mine c_theirs c_many c_from0 c_from1 c_dice c_hash) H → va_D A (wM cI cJ ad c_s c_before c_known c_kept c_isKept c_aside c_buffer c_length c_thrown c_laid c_spot c_isWrong c_isHalted c_mine c_theirs c_many c_from0 c_from1 c_dice c_hash) → va_S A z.heap H locs → ∀ ls : Array Slot, lv_has ls 5 [(0, .ref (ad 0)), (1, .int l1), (2, .int l2), (3, .int l3)] → k88 l1 l2 l3 c_s c_laid = some (r, c_s', c_laid') → W p l e rmX10_reaches z m ([.ref (ad 0)] : List Value).toArray below meth c H locs 0 0 (k_Qi below ([.ref (ad 0)] : List Value) D (kT cI cJ cC cG) z A (wM cI cJ ad c_s' c_before c_known c_kept c_isKept c_aside c_buffer c_length c_thrown c_laid' c_spot c_isWrong c_isHalted c_mine c_theirs c_many c_from0 c_from1 c_dice c_hash) r) (F0 m 88 ls [])) (by intros; rename_i h; cases h) (by
    intro k88 ih88
    intro l1 l2 l3 c_s c_laid H locs hP hD hS ls hl hm
    unfold mX10_reaches_88 at hm
    refine lv_iload_n hx hb dX10_reaches_88 rfl (lv_at hl 2 rfl) ?_
    refine lv_aload_n hx hb dX10_reaches_89 rfl (lv_at hl 0 rfl) ?_
    refine va_get (D := D) (ci := 6) (v := .ref (ad 1)) (C := RX10) (T := TX10) (N := 20) hx hb hts hinX10 hown hK hP 0 rfl rfl 0 (by decide) fl7 (fun _ h9 => h9) rfl dX10_reaches_90 ?_
    refine lv_bipush (v := 38) hx hb dX10_reaches_93 (by decide) ?_
    refine k_iaC hx hb hK hP 1 0 rfl rfl kl_38 ki_38_51 dX10_reaches_95 ?_
    refine lv_icmp_ge (tgt := 150) hx hb dX10_reaches_96 (by decide) (fun cc96 => ?_) (fun cc96 => ?_)
    · have hm := k_ip cc96 hm
      exact J_150 l2 c_s c_laid _ _ hP hD hS _ (lv_sub hl [0, 2] rfl) hm
    · have hm := k_in cc96 hm
      refine lv_iload_n hx hb dX10_reaches_99 rfl (lv_at hl 3 rfl) ?_
      refine lv_bipush (v := 16) hx hb dX10_reaches_100 (by decide) ?_
      refine lv_icmp_ge (tgt := 150) hx hb dX10_reaches_102 (by decide) (fun cc102 => ?_) (fun cc102 => ?_)
      · have hm := k_ip cc102 hm
        exact J_150 l2 c_s c_laid _ _ hP hD hS _ (lv_sub hl [0, 2] rfl) hm
      · have hm := k_in cc102 hm
        refine lv_aload_n hx hb dX10_reaches_105 rfl (lv_at hl 0 rfl) ?_
        refine lv_iload_n hx hb dX10_reaches_106 rfl (lv_at hl 1 rfl) ?_
        refine lv_iload_n hx hb dX10_reaches_107 rfl (lv_at hl 3 rfl) ?_
        refine lv_aload_n hx hb dX10_reaches_108 rfl (lv_at hl 0 rfl) ?_
        refine va_get (D := D) (ci := 6) (v := .ref (ad 1)) (C := RX10) (T := TX10) (N := 20) hx hb hts hinX10 hown hK hP 0 rfl rfl 0 (by decide) fl7 (fun _ h9 => h9) rfl dX10_reaches_109 ?_
        refine lv_bipush (v := 39) hx hb dX10_reaches_112 (by decide) ?_
        refine k_iaC hx hb hK hP 1 0 rfl rfl kl_39 ki_39_51 dX10_reaches_114 ?_
        obtain ⟨r2, hc115, hm⟩ := k_bds hm
        refine k_i_s (k_rV (As := [.int l1, .int l3, .int (c_s 39)]) (rest := []) ⟨hx, hb, hml, hown, hts⟩ hK hN hP hD (zX10_refused hc115) (cwV 3 hts gX10_reaches_X10_refused rfl rfl rfl (by decide +kernel) ⟨Nat.le_of_ble_eq_true rfl, Nat.le_of_ble_eq_true rfl⟩) rfl rfl rfl hl.1 rfl (Nat.le_of_ble_eq_true rfl) dX10_reaches_115 ⟨Nat.zero_le _, Nat.zero_le _⟩) hD hS hA (fun H locs hP hD hS => ?_)
        refine lv_if_ne (tgt := 144) hx hb dX10_reaches_118 (by decide) (fun cc118 => ?_) (fun cc118 => ?_)
        · have hm := k_in cc118 hm
          refine lv_iinc (v := (l3 + 1)) (lv' := [(3, .int (l3 + 1)), (0, .ref (ad 0)), (1, .int l1), (2, .int l2)]) hx hb dX10_reaches_144 hl (k := 3) rfl rfl (by decide) rfl (fun ls hl => ?_)
          refine lv_goto (tgt := 88) hx hb dX10_reaches_147 (by decide) ?_
          exact ih88 l1 l2 (l3 + 1) c_s c_laid _ _ hP hD hS _ (lv_sub hl [1, 2, 3, 0] rfl) hm
        · have hm := k_ip cc118 hm
          refine lv_aload_n hx hb dX10_reaches_121 rfl (lv_at hl 0 rfl) ?_
          refine lv_iload_n hx hb dX10_reaches_122 rfl (lv_at hl 1 rfl) ?_
          refine lv_iload_n hx hb dX10_reaches_123 rfl (lv_at hl 3 rfl) ?_
          refine lv_aload_n hx hb dX10_reaches_124 rfl (lv_at hl 0 rfl) ?_
          refine va_get (D := D) (ci := 6) (v := .ref (ad 1)) (C := RX10) (T := TX10) (N := 20) hx hb hts hinX10 hown hK hP 0 rfl rfl 0 (by decide) fl7 (fun _ h9 => h9) rfl dX10_reaches_125 ?_
          refine lv_bipush (v := 39) hx hb dX10_reaches_128 (by decide) ?_
          refine k_iaC hx hb hK hP 1 0 rfl rfl kl_39 ki_39_51 dX10_reaches_130 ?_
          obtain ⟨r3, w4, hc131, hm⟩ := k_bd2s hm
          refine k_i_s (k_rV (As := [.int l1, .int l3, .int (c_s 39)]) (rest := []) ⟨hx, hb, hml, hown, hts⟩ hK hN hP hD (zX10_moves hc131) (cwV 3 hts gX10_reaches_X10_moves rfl rfl rfl (by decide +kernel) ⟨Nat.le_of_ble_eq_true rfl, Nat.le_of_ble_eq_true rfl⟩) rfl rfl rfl hl.1 rfl (Nat.le_of_ble_eq_true rfl) dX10_reaches_131 ⟨Nat.zero_le _, Nat.zero_le _⟩) hD hS hA (fun H locs hP hD hS => ?_)
          refine lv_istore (lv' := [(4, .int (k_b r3)), (0, .ref (ad 0)), (1, .int l1), (2, .int l2), (3, .int l3)]) hx hb dX10_reaches_134 hl (by decide) rfl (fun ls hl => ?_)
          refine lv_iinc (v := (l2 + 1)) (lv' := [(2, .int (l2 + 1)), (4, .int (k_b r3)), (0, .ref (ad 0)), (1, .int l1), (3, .int l3)]) hx hb dX10_reaches_136 hl (k := 3) rfl rfl (by decide) rfl (fun ls hl => ?_)
          refine lv_iconst (v := (-1)) hx hb dX10_reaches_139 (by decide) ?_
          refine lv_istore_n (lv' := [(3, .int (-1)), (2, .int (l2 + 1)), (4, .int (k_b r3)), (0, .ref (ad 0)), (1, .int l1)]) hx hb dX10_reaches_140 rfl hl (by decide) rfl (fun ls hl => ?_)
          refine lv_goto (tgt := 88) hx hb dX10_reaches_141 (by decide) ?_
          exact ih88 l1 (l2 + 1) (-1) w4 c_laid _ _ hP hD hS _ (lv_sub hl [3, 4, 1, 0] rfl) hm) k_F
  unfold mX10_reaches at hm
  refine lv_aload_n hx hb dX10_reaches_0 rfl (lv_at hl 0 rfl) ?_
  refine va_get (D := D) (ci := 6) (v := .ref (ad 1)) (C := RX10) (T := TX10) (N := 20) hx hb hts hinX10 hown hK hP 0 rfl rfl 0 (by decide) fl7 (fun _ h9 => h9) rfl dX10_reaches_1 ?_
  refine lv_bipush (v := 36) hx hb dX10_reaches_4 (by decide) ?_
  refine k_iaC hx hb hK hP 1 0 rfl rfl kl_36 ki_36_51 dX10_reaches_6 ?_
  refine lv_istore_n (lv' := [(1, .int (c_s 36)), (0, .ref (ad 0))]) hx hb dX10_reaches_7 rfl hl (by decide) rfl (fun ls hl => ?_)
  refine lv_aload_n hx hb dX10_reaches_8 rfl (lv_at hl 1 rfl) ?_
  obtain ⟨r5, hc9, hm⟩ := k_bds hm
  refine k_i_s (k_rV (As := []) (rest := []) ⟨hx, hb, hml, hown, hts⟩ hK hN hP hD (zX10_areUnlike hc9) (cwV 0 hts gX10_reaches_X10_areUnlike rfl rfl rfl (by decide +kernel) ⟨Nat.le_of_ble_eq_true rfl, Nat.le_of_ble_eq_true rfl⟩) rfl rfl rfl hl.1 rfl (Nat.le_of_ble_eq_true rfl) dX10_reaches_9 ⟨Nat.zero_le _, Nat.zero_le _⟩) hD hS hA (fun H locs hP hD hS => ?_)
  refine lv_if_eq (tgt := 79) hx hb dX10_reaches_12 (by decide) (fun cc12 => ?_) (fun cc12 => ?_)
  · have hm := k_ip cc12 hm
    refine lv_aload_n hx hb dX10_reaches_79 rfl (lv_at hl 1 rfl) ?_
    refine lv_iconst (v := 0) hx hb dX10_reaches_80 (by decide) ?_
    obtain ⟨w6, hc81, hm⟩ := k_bds hm
    refine k_v_s (k_rV (As := [.int 0]) (rest := []) ⟨hx, hb, hml, hown, hts⟩ hK hN hP hD (zX10_lays hc81) (cwV 1 hts gX10_reaches_X10_lays rfl rfl rfl (by decide +kernel) ⟨Nat.le_of_ble_eq_true rfl, Nat.le_of_ble_eq_true rfl⟩) rfl rfl rfl hl.1 rfl (Nat.le_of_ble_eq_true rfl) dX10_reaches_81 ⟨Nat.zero_le _, Nat.zero_le _⟩) hD hS hA (fun H locs hP hD hS => ?_)
    refine lv_iconst (v := 0) hx hb dX10_reaches_84 (by decide) ?_
    refine lv_istore_n (lv' := [(2, .int 0), (1, .int (c_s 36)), (0, .ref (ad 0))]) hx hb dX10_reaches_85 rfl hl (by decide) rfl (fun ls hl => ?_)
    refine lv_iconst (v := (-1)) hx hb dX10_reaches_86 (by decide) ?_
    refine lv_istore_n (lv' := [(3, .int (-1)), (2, .int 0), (1, .int (c_s 36)), (0, .ref (ad 0))]) hx hb dX10_reaches_87 rfl hl (by decide) rfl (fun ls hl => ?_)
    exact J_88 (c_s 36) 0 (-1) c_s w6 _ _ hP hD hS _ (lv_sub hl [3, 2, 1, 0] rfl) hm
  · have hm := k_in cc12 hm
    refine lv_aload_n hx hb dX10_reaches_15 rfl (lv_at hl 1 rfl) ?_
    refine va_get (D := D) (ci := 6) (v := .ref (ad 1)) (C := RX10) (T := TX10) (N := 20) hx hb hts hinX10 hown hK hP 0 rfl rfl 0 (by decide) fl7 (fun _ h9 => h9) rfl dX10_reaches_16 ?_
    refine lv_bipush (v := 39) hx hb dX10_reaches_19 (by decide) ?_
    refine k_iaC hx hb hK hP 1 0 rfl rfl kl_39 ki_39_51 dX10_reaches_21 ?_
    refine lv_istore_n (lv' := [(2, .int (c_s 39)), (1, .int (c_s 36)), (0, .ref (ad 0))]) hx hb dX10_reaches_22 rfl hl (by decide) rfl (fun ls hl => ?_)
    refine lv_aload_n hx hb dX10_reaches_23 rfl (lv_at hl 2 rfl) ?_
    refine va_get (D := D) (ci := 6) (v := .ref (ad 1)) (C := RX10) (T := TX10) (N := 20) hx hb hts hinX10 hown hK hP 0 rfl rfl 0 (by decide) fl7 (fun _ h9 => h9) rfl dX10_reaches_24 ?_
    refine lv_bipush (v := 40) hx hb dX10_reaches_27 (by decide) ?_
    refine k_iaC hx hb hK hP 1 0 rfl rfl kl_40 ki_40_51 dX10_reaches_29 ?_
    refine lv_istore_n (lv' := [(3, .int (c_s 40)), (2, .int (c_s 39)), (1, .int (c_s 36)), (0, .ref (ad 0))]) hx hb dX10_reaches_30 rfl hl (by decide) rfl (fun ls hl => ?_)
    refine lv_aload_n hx hb dX10_reaches_31 rfl (lv_at hl 3 rfl) ?_
    refine lv_iload_n hx hb dX10_reaches_32 rfl (lv_at hl 2 rfl) ?_
    refine lv_iload_n hx hb dX10_reaches_33 rfl (lv_at hl 1 rfl) ?_
    refine lv_iload_n hx hb dX10_reaches_34 rfl (lv_at hl 0 rfl) ?_
    obtain ⟨r7, w8, w9, hc35, hm⟩ := k_bd3s hm
    refine k_i_s (k_rV (As := [.int (c_s 36), .int (c_s 39), .int (c_s 40)]) (rest := []) ⟨hx, hb, hml, hown, hts⟩ hK hN hP hD (zX10_isBoth hc35) (cwV 3 hts gX10_reaches_X10_isBoth rfl rfl rfl (by decide +kernel) ⟨Nat.le_of_ble_eq_true rfl, Nat.le_of_ble_eq_true rfl⟩) rfl rfl rfl hl.1 rfl (Nat.le_of_ble_eq_true rfl) dX10_reaches_35 ⟨Nat.zero_le _, Nat.zero_le _⟩) hD hS hA (fun H locs hP hD hS => ?_)
    refine lv_if_ne (tgt := 51) hx hb dX10_reaches_38 (by decide) (fun cc38 => ?_) (fun cc38 => ?_)
    · have hm := k_in cc38 hm
      refine lv_iconst (v := 2) hx hb dX10_reaches_51 (by decide) ?_
      refine lv_goto (tgt := 78) hx hb dX10_reaches_52 (by decide) ?_
      cases hm
      exact k_end_i hx hb hr hlocks hK hP hD hS dX10_reaches_78
    · have hm := k_ip cc38 hm
      refine lv_aload_n hx hb dX10_reaches_41 rfl (lv_at hl 3 rfl) ?_
      refine lv_iload_n hx hb dX10_reaches_42 rfl (lv_at hl 2 rfl) ?_
      refine lv_iload_n hx hb dX10_reaches_43 rfl (lv_at hl 0 rfl) ?_
      refine lv_iload_n hx hb dX10_reaches_44 rfl (lv_at hl 1 rfl) ?_
      obtain ⟨r10, w11, w12, hc45, hm⟩ := k_bd3s hm
      refine k_i_s (k_rV (As := [.int (c_s 36), .int (c_s 40), .int (c_s 39)]) (rest := []) ⟨hx, hb, hml, hown, hts⟩ hK hN hP hD (zX10_isBoth hc45) (cwV 3 hts gX10_reaches_X10_isBoth rfl rfl rfl (by decide +kernel) ⟨Nat.le_of_ble_eq_true rfl, Nat.le_of_ble_eq_true rfl⟩) rfl rfl rfl hl.1 rfl (Nat.le_of_ble_eq_true rfl) dX10_reaches_45 ⟨Nat.zero_le _, Nat.zero_le _⟩) hD hS hA (fun H locs hP hD hS => ?_)
      refine lv_if_eq (tgt := 55) hx hb dX10_reaches_48 (by decide) (fun cc48 => ?_) (fun cc48 => ?_)
      · have hm := k_ip cc48 hm
        refine lv_aload_n hx hb dX10_reaches_55 rfl (lv_at hl 3 rfl) ?_
        refine lv_iload_n hx hb dX10_reaches_56 rfl (lv_at hl 2 rfl) ?_
        refine lv_iload_n hx hb dX10_reaches_57 rfl (lv_at hl 1 rfl) ?_
        obtain ⟨r13, hc58, hm⟩ := k_bds hm
        refine k_i_s (k_rV (As := [.int (c_s 36), .int (c_s 39)]) (rest := []) ⟨hx, hb, hml, hown, hts⟩ hK hN hP hD (zX10_isAny hc58) (cwV 2 hts gX10_reaches_X10_isAny rfl rfl rfl (by decide +kernel) ⟨Nat.le_of_ble_eq_true rfl, Nat.le_of_ble_eq_true rfl⟩) rfl rfl rfl hl.1 rfl (Nat.le_of_ble_eq_true rfl) dX10_reaches_58 ⟨Nat.zero_le _, Nat.zero_le _⟩) hD hS hA (fun H locs hP hD hS => ?_)
        refine lv_if_ne (tgt := 73) hx hb dX10_reaches_61 (by decide) (fun cc61 => ?_) (fun cc61 => ?_)
        · have hm := k_in cc61 hm
          refine lv_iconst (v := 1) hx hb dX10_reaches_73 (by decide) ?_
          refine lv_goto (tgt := 78) hx hb dX10_reaches_74 (by decide) ?_
          cases hm
          exact k_end_i hx hb hr hlocks hK hP hD hS dX10_reaches_78
        · have hm := k_ip cc61 hm
          refine lv_aload_n hx hb dX10_reaches_64 rfl (lv_at hl 3 rfl) ?_
          refine lv_iload_n hx hb dX10_reaches_65 rfl (lv_at hl 2 rfl) ?_
          refine lv_iload_n hx hb dX10_reaches_66 rfl (lv_at hl 0 rfl) ?_
          obtain ⟨r14, hc67, hm⟩ := k_bds hm
          refine k_i_s (k_rV (As := [.int (c_s 36), .int (c_s 40)]) (rest := []) ⟨hx, hb, hml, hown, hts⟩ hK hN hP hD (zX10_isAny hc67) (cwV 2 hts gX10_reaches_X10_isAny rfl rfl rfl (by decide +kernel) ⟨Nat.le_of_ble_eq_true rfl, Nat.le_of_ble_eq_true rfl⟩) rfl rfl rfl hl.1 rfl (Nat.le_of_ble_eq_true rfl) dX10_reaches_67 ⟨Nat.zero_le _, Nat.zero_le _⟩) hD hS hA (fun H locs hP hD hS => ?_)
          refine lv_if_eq (tgt := 77) hx hb dX10_reaches_70 (by decide) (fun cc70 => ?_) (fun cc70 => ?_)
          · have hm := k_ip cc70 hm
            refine lv_iconst (v := 0) hx hb dX10_reaches_77 (by decide) ?_
            cases hm
            exact k_end_i hx hb hr hlocks hK hP hD hS dX10_reaches_78
          · have hm := k_in cc70 hm
            refine lv_iconst (v := 1) hx hb dX10_reaches_73 (by decide) ?_
            refine lv_goto (tgt := 78) hx hb dX10_reaches_74 (by decide) ?_
            cases hm
            exact k_end_i hx hb hr hlocks hK hP hD hS dX10_reaches_78
      · have hm := k_in cc48 hm
        refine lv_iconst (v := 2) hx hb dX10_reaches_51 (by decide) ?_
        refine lv_goto (tgt := 78) hx hb dX10_reaches_52 (by decide) ?_
        cases hm
        exact k_end_i hx hb hr hlocks hK hP hD hS dX10_reaches_78

abbrev rmX10_isBarred : Room := { frames := 5, cells := 0, slots := 0, locals := 120 }
set_option maxHeartbeats 4000000 in
set_option maxRecDepth 100000 in
theorem zX10_isBarred {l : Launch} {D : va_G} {cI cJ cC cG : ClassId} {sz : Nat} {ad : Nat → Nat} {c_s : Nat → Int32} {c_before : Nat → Int32} {c_known : Int32} {c_kept : Nat → Int32} {c_isKept : Bool} {c_aside : Nat → Int32} {c_buffer : Nat → Int32} {c_length : Int32} {c_thrown : Int32} {c_laid : Nat → Int32} {c_spot : Int32} {c_isWrong : Bool} {c_isHalted : Bool} {c_mine : Nat → Int64} {c_theirs : Nat → Int64} {c_many : Int32} {c_from0 : Nat → Int64} {c_from1 : Nat → Int64} {c_dice : Nat → Int32} {c_hash : Int64} {a1 : Int32} {a2 : Int32} {a3 : Int32} {r : Bool} {c_s' : Nat → Int32} {c_laid' : Nat → Int32} (hm : mX10_isBarred c_s c_laid a1 a2 a3 = some (r, c_s', c_laid')) : k_Mi l yX10_isBarred wsX10_isBarred rmX10_isBarred D (kT cI cJ cC cG) sz ([.ref (ad 0), .int a1, .int a2, .int a3] : List Value) (wM cI cJ ad c_s c_before c_known c_kept c_isKept c_aside c_buffer c_length c_thrown c_laid c_spot c_isWrong c_isHalted c_mine c_theirs c_many c_from0 c_from1 c_dice c_hash) (wM cI cJ ad c_s' c_before c_known c_kept c_isKept c_aside c_buffer c_length c_thrown c_laid' c_spot c_isWrong c_isHalted c_mine c_theirs c_many c_from0 c_from1 c_dice c_hash) (k_b r) := by
  refine k_st_i (cc := cX10_isBarred) (maxL := 5) (by decide) rfl (Nat.le_of_ble_eq_true rfl) ?_
  intro p e z m below meth c A hx hb hr hml hts hown hlocks hsz hN hA hK hP hD hS ls hl
  have hown : z.vm.findClass RX10 = some m.cls := hown
  have hinX10 : ∀ w ∈ wsX100, w ∈ wsX10_isBarred := by decide +kernel
  have fl7 := hts (.fieldLink RX10 7 "MagpieRunsModel" "s" "[I") (by decide +kernel)
  have hl : lv_has ls 5 [(0, .ref (ad 0)), (1, .int a1), (2, .int a2), (3, .int a3)] := hl
  unfold mX10_isBarred at hm
  refine lv_aload_n hx hb dX10_isBarred_0 rfl (lv_at hl 0 rfl) ?_
  obtain ⟨r1, hc1, hm⟩ := k_bds hm
  refine k_i_s (k_rV (As := []) (rest := []) ⟨hx, hb, hml, hown, hts⟩ hK hN hP hD (zX10_areUnlike hc1) (cwV 0 hts gX10_isBarred_X10_areUnlike rfl rfl rfl (by decide +kernel) ⟨Nat.le_of_ble_eq_true rfl, Nat.le_of_ble_eq_true rfl⟩) rfl rfl rfl hl.1 rfl (Nat.le_of_ble_eq_true rfl) dX10_isBarred_1 ⟨Nat.zero_le _, Nat.zero_le _⟩) hD hS hA (fun H locs hP hD hS => ?_)
  refine lv_if_ne (tgt := 9) hx hb dX10_isBarred_4 (by decide) (fun cc4 => ?_) (fun cc4 => ?_)
  · have hm := k_in cc4 hm
    refine lv_aload_n hx hb dX10_isBarred_9 rfl (lv_at hl 0 rfl) ?_
    refine va_get (D := D) (ci := 6) (v := .ref (ad 1)) (C := RX10) (T := TX10) (N := 20) hx hb hts hinX10 hown hK hP 0 rfl rfl 0 (by decide) fl7 (fun _ h9 => h9) rfl dX10_isBarred_10 ?_
    refine lv_bipush (v := 39) hx hb dX10_isBarred_13 (by decide) ?_
    refine k_iaC hx hb hK hP 1 0 rfl rfl kl_39 ki_39_51 dX10_isBarred_15 ?_
    refine lv_aload_n hx hb dX10_isBarred_16 rfl (lv_at hl 0 rfl) ?_
    refine va_get (D := D) (ci := 6) (v := .ref (ad 1)) (C := RX10) (T := TX10) (N := 20) hx hb hts hinX10 hown hK hP 0 rfl rfl 0 (by decide) fl7 (fun _ h9 => h9) rfl dX10_isBarred_17 ?_
    refine lv_bipush (v := 40) hx hb dX10_isBarred_20 (by decide) ?_
    refine k_iaC hx hb hK hP 1 0 rfl rfl kl_40 ki_40_51 dX10_isBarred_22 ?_
    refine lv_iadd hx hb dX10_isBarred_23 ?_
    refine lv_iload_n hx hb dX10_isBarred_24 rfl (lv_at hl 2 rfl) ?_
    refine lv_isub hx hb dX10_isBarred_25 ?_
    refine lv_istore (lv' := [(4, .int (((c_s 39) + (c_s 40)) - a2)), (0, .ref (ad 0)), (1, .int a1), (2, .int a2), (3, .int a3)]) hx hb dX10_isBarred_26 hl (by decide) rfl (fun ls hl => ?_)
    refine lv_iload_n hx hb dX10_isBarred_28 rfl (lv_at hl 4 rfl) ?_
    refine lv_iconst (v := 2) hx hb dX10_isBarred_29 (by decide) ?_
    refine lv_icmp_ne (tgt := 59) hx hb dX10_isBarred_30 (by decide) (fun cc30 => ?_) (fun cc30 => ?_)
    · have hm := k_in cc30 hm
      refine lv_iload_n hx hb dX10_isBarred_59 rfl (lv_at hl 3 rfl) ?_
      refine lv_iload hx hb dX10_isBarred_60 (lv_at hl 0 rfl) ?_
      refine lv_icmp_ge (tgt := 85) hx hb dX10_isBarred_62 (by decide) (fun cc62 => ?_) (fun cc62 => ?_)
      · have hm := k_ip cc62 hm
        refine lv_iconst (v := 0) hx hb dX10_isBarred_85 (by decide) ?_
        cases hm
        exact k_end_z false hx hb hr hlocks hK hP hD hS dX10_isBarred_86
      · have hm := k_in cc62 hm
        refine lv_aload_n hx hb dX10_isBarred_65 rfl (lv_at hl 1 rfl) ?_
        refine lv_aload_n hx hb dX10_isBarred_66 rfl (lv_at hl 1 rfl) ?_
        refine va_get (D := D) (ci := 6) (v := .ref (ad 1)) (C := RX10) (T := TX10) (N := 20) hx hb hts hinX10 hown hK hP 0 rfl rfl 0 (by decide) fl7 (fun _ h9 => h9) rfl dX10_isBarred_67 ?_
        refine lv_bipush (v := 36) hx hb dX10_isBarred_70 (by decide) ?_
        refine k_iaC hx hb hK hP 1 0 rfl rfl kl_36 ki_36_51 dX10_isBarred_72 ?_
        refine lv_iload hx hb dX10_isBarred_73 (lv_at hl 0 rfl) ?_
        obtain ⟨r2, hc75, hm⟩ := k_bds hm
        refine k_i_s (k_rV (As := [.int (c_s 36), .int (((c_s 39) + (c_s 40)) - a2)]) (rest := []) ⟨hx, hb, hml, hown, hts⟩ hK hN hP hD (zX10_isAny hc75) (cwV 2 hts gX10_isBarred_X10_isAny rfl rfl rfl (by decide +kernel) ⟨Nat.le_of_ble_eq_true rfl, Nat.le_of_ble_eq_true rfl⟩) rfl rfl rfl hl.1 rfl (Nat.le_of_ble_eq_true rfl) dX10_isBarred_75 ⟨Nat.zero_le _, Nat.zero_le _⟩) hD hS hA (fun H locs hP hD hS => ?_)
        refine lv_if_eq (tgt := 85) hx hb dX10_isBarred_78 (by decide) (fun cc78 => ?_) (fun cc78 => ?_)
        · have hm := k_ip cc78 hm
          refine lv_iconst (v := 0) hx hb dX10_isBarred_85 (by decide) ?_
          cases hm
          exact k_end_z false hx hb hr hlocks hK hP hD hS dX10_isBarred_86
        · have hm := k_in cc78 hm
          refine lv_iconst (v := 1) hx hb dX10_isBarred_81 (by decide) ?_
          refine lv_goto (tgt := 86) hx hb dX10_isBarred_82 (by decide) ?_
          cases hm
          exact k_end_z true hx hb hr hlocks hK hP hD hS dX10_isBarred_86
    · have hm := k_ip cc30 hm
      refine lv_aload_n hx hb dX10_isBarred_33 rfl (lv_at hl 1 rfl) ?_
      refine lv_aload_n hx hb dX10_isBarred_34 rfl (lv_at hl 1 rfl) ?_
      refine va_get (D := D) (ci := 6) (v := .ref (ad 1)) (C := RX10) (T := TX10) (N := 20) hx hb hts hinX10 hown hK hP 0 rfl rfl 0 (by decide) fl7 (fun _ h9 => h9) rfl dX10_isBarred_35 ?_
      refine lv_bipush (v := 36) hx hb dX10_isBarred_38 (by decide) ?_
      refine k_iaC hx hb hK hP 1 0 rfl rfl kl_36 ki_36_51 dX10_isBarred_40 ?_
      refine lv_iload_n hx hb dX10_isBarred_41 rfl (lv_at hl 2 rfl) ?_
      refine lv_iload_n hx hb dX10_isBarred_42 rfl (lv_at hl 3 rfl) ?_
      refine lv_iload hx hb dX10_isBarred_43 (lv_at hl 0 rfl) ?_
      obtain ⟨r3, w4, w5, hc45, hm⟩ := k_bd3s hm
      refine k_i_s (k_rV (As := [.int (c_s 36), .int a1, .int a2, .int (((c_s 39) + (c_s 40)) - a2)]) (rest := []) ⟨hx, hb, hml, hown, hts⟩ hK hN hP hD (zX10_isSecond hc45) (cwV 4 hts gX10_isBarred_X10_isSecond rfl rfl rfl (by decide +kernel) ⟨Nat.le_of_ble_eq_true rfl, Nat.le_of_ble_eq_true rfl⟩) rfl rfl rfl hl.1 rfl (Nat.le_of_ble_eq_true rfl) dX10_isBarred_45 ⟨Nat.zero_le _, Nat.zero_le _⟩) hD hS hA (fun H locs hP hD hS => ?_)
      refine lv_if_ne (tgt := 55) hx hb dX10_isBarred_48 (by decide) (fun cc48 => ?_) (fun cc48 => ?_)
      · have hm := k_in cc48 hm
        refine lv_iconst (v := 0) hx hb dX10_isBarred_55 (by decide) ?_
        refine lv_goto (tgt := 86) hx hb dX10_isBarred_56 (by decide) ?_
        cases hm
        exact k_end_z false hx hb hr hlocks hK hP hD hS dX10_isBarred_86
      · have hm := k_ip cc48 hm
        refine lv_iconst (v := 1) hx hb dX10_isBarred_51 (by decide) ?_
        refine lv_goto (tgt := 86) hx hb dX10_isBarred_52 (by decide) ?_
        cases hm
        exact k_end_z true hx hb hr hlocks hK hP hD hS dX10_isBarred_86
  · have hm := k_ip cc4 hm
    refine lv_iconst (v := 0) hx hb dX10_isBarred_7 (by decide) ?_
    cases hm
    exact k_end_z false hx hb hr hlocks hK hP hD hS dX10_isBarred_8

abbrev rmX10_isLeft : Room := { frames := 0, cells := 0, slots := 0, locals := 0 }
set_option maxHeartbeats 4000000 in
set_option maxRecDepth 100000 in
theorem zX10_isLeft {l : Launch} {D : va_G} {cI cJ cC cG : ClassId} {sz : Nat} {ad : Nat → Nat} {c_s : Nat → Int32} {c_before : Nat → Int32} {c_known : Int32} {c_kept : Nat → Int32} {c_isKept : Bool} {c_aside : Nat → Int32} {c_buffer : Nat → Int32} {c_length : Int32} {c_thrown : Int32} {c_laid : Nat → Int32} {c_spot : Int32} {c_isWrong : Bool} {c_isHalted : Bool} {c_mine : Nat → Int64} {c_theirs : Nat → Int64} {c_many : Int32} {c_from0 : Nat → Int64} {c_from1 : Nat → Int64} {c_dice : Nat → Int32} {c_hash : Int64} {a1 : Int32} {r : Bool} (hm : mX10_isLeft c_s a1 = some (r)) : k_Mi l yX10_isLeft wsX10_isLeft rmX10_isLeft D (kT cI cJ cC cG) sz ([.ref (ad 0), .int a1] : List Value) (wM cI cJ ad c_s c_before c_known c_kept c_isKept c_aside c_buffer c_length c_thrown c_laid c_spot c_isWrong c_isHalted c_mine c_theirs c_many c_from0 c_from1 c_dice c_hash) (wM cI cJ ad c_s c_before c_known c_kept c_isKept c_aside c_buffer c_length c_thrown c_laid c_spot c_isWrong c_isHalted c_mine c_theirs c_many c_from0 c_from1 c_dice c_hash) (k_b r) := by
  refine k_st_i (cc := cX10_isLeft) (maxL := 4) (by decide) rfl (Nat.le_of_ble_eq_true rfl) ?_
  intro p e z m below meth c A hx hb hr hml hts hown hlocks hsz hN hA hK hP hD hS ls hl
  have hown : z.vm.findClass RX10 = some m.cls := hown
  have hinX10 : ∀ w ∈ wsX100, w ∈ wsX10_isLeft := by decide +kernel
  have fl7 := hts (.fieldLink RX10 7 "MagpieRunsModel" "s" "[I") (by decide +kernel)
  have hl : lv_has ls 4 [(0, .ref (ad 0)), (1, .int a1)] := hl
  have J_4 := k_loop (z := fun _ _ => none) (st := mX10_isLeft_4 c_s a1) (fun k4 : (Bool) → (Int32) → Option (Bool) => ∀ (l2 : Bool) (l3 : Int32) (H : Heap) (locs : List Loc), va_P D vwCl (wM cI cJ ad c_s c_before c_known c_kept c_isKept c_aside c_buffer c_length c_thrown c_laid c_spot c_isWrong c_isHalted c_mine c_theirs c_many c_from0 c_from1 c_dice c_hash) H → va_D A (wM cI cJ ad c_s c_before c_known c_kept c_isKept c_aside c_buffer c_length c_thrown c_laid c_spot c_isWrong c_isHalted c_mine c_theirs c_many c_from0 c_from1 c_dice c_hash) → va_S A z.heap H locs → ∀ ls : Array Slot, lv_has ls 4 [(0, .ref (ad 0)), (1, .int a1), (2, .int (k_b l2)), (3, .int l3)] → k4 l2 l3 = some (r) → W p l e rmX10_isLeft z m ([.ref (ad 0), .int a1] : List Value).toArray below meth c H locs 0 0 (k_Qi below ([.ref (ad 0), .int a1] : List Value) D (kT cI cJ cC cG) z A (wM cI cJ ad c_s c_before c_known c_kept c_isKept c_aside c_buffer c_length c_thrown c_laid c_spot c_isWrong c_isHalted c_mine c_theirs c_many c_from0 c_from1 c_dice c_hash) (k_b r)) (F0 m 4 ls [])) (by intros; rename_i h; cases h) (by
    intro k4 ih4
    intro l2 l3 H locs hP hD hS ls hl hm
    unfold mX10_isLeft_4 at hm
    refine lv_iload_n hx hb dX10_isLeft_4 rfl (lv_at hl 3 rfl) ?_
    refine lv_aload_n hx hb dX10_isLeft_5 rfl (lv_at hl 0 rfl) ?_
    refine va_get (D := D) (ci := 6) (v := .ref (ad 1)) (C := RX10) (T := TX10) (N := 20) hx hb hts hinX10 hown hK hP 0 rfl rfl 0 (by decide) fl7 (fun _ h9 => h9) rfl dX10_isLeft_6 ?_
    refine lv_bipush (v := 38) hx hb dX10_isLeft_9 (by decide) ?_
    refine k_iaC hx hb hK hP 1 0 rfl rfl kl_38 ki_38_51 dX10_isLeft_11 ?_
    refine lv_icmp_ge (tgt := 44) hx hb dX10_isLeft_12 (by decide) (fun cc12 => ?_) (fun cc12 => ?_)
    · have hm := k_ip cc12 hm
      refine lv_iload_n hx hb dX10_isLeft_44 rfl (lv_at hl 2 rfl) ?_
      cases hm
      exact k_end_z _ hx hb hr hlocks hK hP hD hS dX10_isLeft_45
    · have hm := k_in cc12 hm
      refine lv_iload_n hx hb dX10_isLeft_15 rfl (lv_at hl 2 rfl) ?_
      refine lv_if_ne (tgt := 32) hx hb dX10_isLeft_16 (by decide) (fun cc16 => ?_) (fun cc16 => ?_)
      · have hm := k_in cc16 hm
        refine lv_iconst (v := 1) hx hb dX10_isLeft_32 (by decide) ?_
        refine lv_goto (tgt := 37) hx hb dX10_isLeft_33 (by decide) ?_
        refine lv_istore_n (lv' := [(2, .int 1), (0, .ref (ad 0)), (1, .int a1), (3, .int l3)]) hx hb dX10_isLeft_37 rfl hl (by decide) rfl (fun ls hl => ?_)
        refine lv_iinc (v := (l3 + 1)) (lv' := [(3, .int (l3 + 1)), (2, .int 1), (0, .ref (ad 0)), (1, .int a1)]) hx hb dX10_isLeft_38 hl (k := 3) rfl rfl (by decide) rfl (fun ls hl => ?_)
        refine lv_goto (tgt := 4) hx hb dX10_isLeft_41 (by decide) ?_
        exact ih4 true (l3 + 1) _ _ hP hD hS _ (lv_sub hl [2, 3, 1, 0] rfl) hm
      · have hm := k_ip cc16 hm
        refine lv_aload_n hx hb dX10_isLeft_19 rfl (lv_at hl 0 rfl) ?_
        refine va_get (D := D) (ci := 6) (v := .ref (ad 1)) (C := RX10) (T := TX10) (N := 20) hx hb hts hinX10 hown hK hP 0 rfl rfl 0 (by decide) fl7 (fun _ h9 => h9) rfl dX10_isLeft_20 ?_
        refine lv_bipush (v := 39) hx hb dX10_isLeft_23 (by decide) ?_
        refine lv_iload_n hx hb dX10_isLeft_25 rfl (lv_at hl 3 rfl) ?_
        refine lv_iadd hx hb dX10_isLeft_26 ?_
        obtain ⟨gi27, hm⟩ := k_gs hm
        refine va_iald hx hb hK hP 1 0 rfl rfl gi27 dX10_isLeft_27 ?_
        refine lv_iload_n hx hb dX10_isLeft_28 rfl (lv_at hl 1 rfl) ?_
        refine lv_icmp_ne (tgt := 36) hx hb dX10_isLeft_29 (by decide) (fun cc29 => ?_) (fun cc29 => ?_)
        · have hm := k_in cc29 hm
          refine lv_iconst (v := 0) hx hb dX10_isLeft_36 (by decide) ?_
          refine lv_istore_n (lv' := [(2, .int 0), (0, .ref (ad 0)), (1, .int a1), (3, .int l3)]) hx hb dX10_isLeft_37 rfl hl (by decide) rfl (fun ls hl => ?_)
          refine lv_iinc (v := (l3 + 1)) (lv' := [(3, .int (l3 + 1)), (2, .int 0), (0, .ref (ad 0)), (1, .int a1)]) hx hb dX10_isLeft_38 hl (k := 3) rfl rfl (by decide) rfl (fun ls hl => ?_)
          refine lv_goto (tgt := 4) hx hb dX10_isLeft_41 (by decide) ?_
          exact ih4 false (l3 + 1) _ _ hP hD hS _ (lv_sub hl [2, 3, 1, 0] rfl) hm
        · have hm := k_ip cc29 hm
          refine lv_iconst (v := 1) hx hb dX10_isLeft_32 (by decide) ?_
          refine lv_goto (tgt := 37) hx hb dX10_isLeft_33 (by decide) ?_
          refine lv_istore_n (lv' := [(2, .int 1), (0, .ref (ad 0)), (1, .int a1), (3, .int l3)]) hx hb dX10_isLeft_37 rfl hl (by decide) rfl (fun ls hl => ?_)
          refine lv_iinc (v := (l3 + 1)) (lv' := [(3, .int (l3 + 1)), (2, .int 1), (0, .ref (ad 0)), (1, .int a1)]) hx hb dX10_isLeft_38 hl (k := 3) rfl rfl (by decide) rfl (fun ls hl => ?_)
          refine lv_goto (tgt := 4) hx hb dX10_isLeft_41 (by decide) ?_
          exact ih4 true (l3 + 1) _ _ hP hD hS _ (lv_sub hl [2, 3, 1, 0] rfl) hm) k_F
  unfold mX10_isLeft at hm
  refine lv_iconst (v := 0) hx hb dX10_isLeft_0 (by decide) ?_
  refine lv_istore_n (lv' := [(2, .int 0), (0, .ref (ad 0)), (1, .int a1)]) hx hb dX10_isLeft_1 rfl hl (by decide) rfl (fun ls hl => ?_)
  refine lv_iconst (v := 0) hx hb dX10_isLeft_2 (by decide) ?_
  refine lv_istore_n (lv' := [(3, .int 0), (2, .int 0), (0, .ref (ad 0)), (1, .int a1)]) hx hb dX10_isLeft_3 rfl hl (by decide) rfl (fun ls hl => ?_)
  exact J_4 false 0 _ _ hP hD hS _ (lv_sub hl [2, 3, 1, 0] rfl) hm

abbrev rmX10_why : Room := { frames := 7, cells := 0, slots := 0, locals := 168 }
set_option maxHeartbeats 4000000 in
set_option maxRecDepth 100000 in
theorem zX10_why {l : Launch} {D : va_G} {cI cJ cC cG : ClassId} {sz : Nat} {ad : Nat → Nat} {c_s : Nat → Int32} {c_before : Nat → Int32} {c_known : Int32} {c_kept : Nat → Int32} {c_isKept : Bool} {c_aside : Nat → Int32} {c_buffer : Nat → Int32} {c_length : Int32} {c_thrown : Int32} {c_laid : Nat → Int32} {c_spot : Int32} {c_isWrong : Bool} {c_isHalted : Bool} {c_mine : Nat → Int64} {c_theirs : Nat → Int64} {c_many : Int32} {c_from0 : Nat → Int64} {c_from1 : Nat → Int64} {c_dice : Nat → Int32} {c_hash : Int64} {a1 : Int32} {a2 : Int32} {r : Int32} {c_s' : Nat → Int32} {c_laid' : Nat → Int32} (hm : mX10_why c_s c_laid a1 a2 = some (r, c_s', c_laid')) : k_Mi l yX10_why wsX10_why rmX10_why D (kT cI cJ cC cG) sz ([.ref (ad 0), .int a1, .int a2] : List Value) (wM cI cJ ad c_s c_before c_known c_kept c_isKept c_aside c_buffer c_length c_thrown c_laid c_spot c_isWrong c_isHalted c_mine c_theirs c_many c_from0 c_from1 c_dice c_hash) (wM cI cJ ad c_s' c_before c_known c_kept c_isKept c_aside c_buffer c_length c_thrown c_laid' c_spot c_isWrong c_isHalted c_mine c_theirs c_many c_from0 c_from1 c_dice c_hash) r := by
  refine k_st_i (cc := cX10_why) (maxL := 4) (by decide) rfl (Nat.le_of_ble_eq_true rfl) ?_
  intro p e z m below meth c A hx hb hr hml hts hown hlocks hsz hN hA hK hP hD hS ls hl
  have hown : z.vm.findClass RX10 = some m.cls := hown
  have hinX10 : ∀ w ∈ wsX100, w ∈ wsX10_why := by decide +kernel
  have fl7 := hts (.fieldLink RX10 7 "MagpieRunsModel" "s" "[I") (by decide +kernel)
  have hl : lv_has ls 4 [(0, .ref (ad 0)), (1, .int a1), (2, .int a2)] := hl
  unfold mX10_why at hm
  refine lv_aload_n hx hb dX10_why_0 rfl (lv_at hl 0 rfl) ?_
  refine lv_iload_n hx hb dX10_why_1 rfl (lv_at hl 2 rfl) ?_
  obtain ⟨r1, hc2, hm⟩ := k_bds hm
  refine k_i_s (k_rV (As := [.int a2]) (rest := []) ⟨hx, hb, hml, hown, hts⟩ hK hN hP hD (zX10_isLeft hc2) (cwV 1 hts gX10_why_X10_isLeft rfl rfl rfl (by decide +kernel) ⟨Nat.le_of_ble_eq_true rfl, Nat.le_of_ble_eq_true rfl⟩) rfl rfl rfl hl.1 rfl (Nat.le_of_ble_eq_true rfl) dX10_why_2 ⟨Nat.zero_le _, Nat.zero_le _⟩) hD hS hA (fun H locs hP hD hS => ?_)
  refine lv_if_ne (tgt := 10) hx hb dX10_why_5 (by decide) (fun cc5 => ?_) (fun cc5 => ?_)
  · have hm := k_in cc5 hm
    refine lv_aload_n hx hb dX10_why_10 rfl (lv_at hl 0 rfl) ?_
    refine lv_aload_n hx hb dX10_why_11 rfl (lv_at hl 0 rfl) ?_
    refine va_get (D := D) (ci := 6) (v := .ref (ad 1)) (C := RX10) (T := TX10) (N := 20) hx hb hts hinX10 hown hK hP 0 rfl rfl 0 (by decide) fl7 (fun _ h9 => h9) rfl dX10_why_12 ?_
    refine lv_bipush (v := 36) hx hb dX10_why_15 (by decide) ?_
    refine k_iaC hx hb hK hP 1 0 rfl rfl kl_36 ki_36_51 dX10_why_17 ?_
    refine lv_iload_n hx hb dX10_why_18 rfl (lv_at hl 1 rfl) ?_
    refine lv_iload_n hx hb dX10_why_19 rfl (lv_at hl 2 rfl) ?_
    obtain ⟨r2, hc20, hm⟩ := k_bds hm
    refine k_i_s (k_rV (As := [.int (c_s 36), .int a1, .int a2]) (rest := []) ⟨hx, hb, hml, hown, hts⟩ hK hN hP hD (zX10_refused hc20) (cwV 3 hts gX10_why_X10_refused rfl rfl rfl (by decide +kernel) ⟨Nat.le_of_ble_eq_true rfl, Nat.le_of_ble_eq_true rfl⟩) rfl rfl rfl hl.1 rfl (Nat.le_of_ble_eq_true rfl) dX10_why_20 ⟨Nat.zero_le _, Nat.zero_le _⟩) hD hS hA (fun H locs hP hD hS => ?_)
    refine lv_istore_n (lv' := [(3, .int r2), (0, .ref (ad 0)), (1, .int a1), (2, .int a2)]) hx hb dX10_why_23 rfl hl (by decide) rfl (fun ls hl => ?_)
    refine lv_iload_n hx hb dX10_why_24 rfl (lv_at hl 0 rfl) ?_
    refine lv_if_le (tgt := 32) hx hb dX10_why_25 (by decide) (fun cc25 => ?_) (fun cc25 => ?_)
    · have hm := k_ip cc25 hm
      refine lv_aload_n hx hb dX10_why_32 rfl (lv_at hl 1 rfl) ?_
      refine lv_iload_n hx hb dX10_why_33 rfl (lv_at hl 2 rfl) ?_
      refine lv_iload_n hx hb dX10_why_34 rfl (lv_at hl 3 rfl) ?_
      refine lv_aload_n hx hb dX10_why_35 rfl (lv_at hl 1 rfl) ?_
      obtain ⟨r3, w4, w5, hc36, hm⟩ := k_bd3s hm
      refine k_i_s (k_rV (As := []) (rest := [.int a2, .int a1, .ref (ad 0)]) ⟨hx, hb, hml, hown, hts⟩ hK hN hP hD (zX10_reaches hc36) (cwV 0 hts gX10_why_X10_reaches rfl rfl rfl (by decide +kernel) ⟨Nat.le_of_ble_eq_true rfl, Nat.le_of_ble_eq_true rfl⟩) rfl rfl rfl hl.1 rfl (Nat.le_of_ble_eq_true rfl) dX10_why_36 ⟨Nat.zero_le _, Nat.zero_le _⟩) hD hS hA (fun H locs hP hD hS => ?_)
      obtain ⟨r6, w7, w8, hc39, hm⟩ := k_bd3s hm
      refine k_i_s (k_rV (As := [.int a1, .int a2, .int r3]) (rest := []) ⟨hx, hb, hml, hown, hts⟩ hK hN hP hD (zX10_isBarred hc39) (cwV 3 hts gX10_why_X10_isBarred rfl rfl rfl (by decide +kernel) ⟨Nat.le_of_ble_eq_true rfl, Nat.le_of_ble_eq_true rfl⟩) rfl rfl rfl hl.1 rfl (Nat.le_of_ble_eq_true rfl) dX10_why_39 ⟨Nat.zero_le _, Nat.zero_le _⟩) hD hS hA (fun H locs hP hD hS => ?_)
      refine lv_if_eq (tgt := 50) hx hb dX10_why_42 (by decide) (fun cc42 => ?_) (fun cc42 => ?_)
      · have hm := k_ip cc42 hm
        refine lv_iconst (v := 0) hx hb dX10_why_50 (by decide) ?_
        cases hm
        exact k_end_i hx hb hr hlocks hK hP hD hS dX10_why_51
      · have hm := k_in cc42 hm
        refine lv_bipush (v := 6) hx hb dX10_why_45 (by decide) ?_
        refine lv_goto (tgt := 51) hx hb dX10_why_47 (by decide) ?_
        cases hm
        exact k_end_i hx hb hr hlocks hK hP hD hS dX10_why_51
    · have hm := k_in cc25 hm
      refine lv_iload_n hx hb dX10_why_28 rfl (lv_at hl 0 rfl) ?_
      refine lv_goto (tgt := 51) hx hb dX10_why_29 (by decide) ?_
      cases hm
      exact k_end_i hx hb hr hlocks hK hP hD hS dX10_why_51
  · have hm := k_ip cc5 hm
    refine lv_iconst (v := 1) hx hb dX10_why_8 (by decide) ?_
    cases hm
    exact k_end_i hx hb hr hlocks hK hP hD hS dX10_why_9

abbrev rmX10_uses : Room := { frames := 0, cells := 0, slots := 0, locals := 0 }
set_option maxHeartbeats 4000000 in
set_option maxRecDepth 100000 in
theorem zX10_uses {l : Launch} {D : va_G} {cI cJ cC cG : ClassId} {sz : Nat} {ad : Nat → Nat} {c_s : Nat → Int32} {c_before : Nat → Int32} {c_known : Int32} {c_kept : Nat → Int32} {c_isKept : Bool} {c_aside : Nat → Int32} {c_buffer : Nat → Int32} {c_length : Int32} {c_thrown : Int32} {c_laid : Nat → Int32} {c_spot : Int32} {c_isWrong : Bool} {c_isHalted : Bool} {c_mine : Nat → Int64} {c_theirs : Nat → Int64} {c_many : Int32} {c_from0 : Nat → Int64} {c_from1 : Nat → Int64} {c_dice : Nat → Int32} {c_hash : Int64} {a1 : Int32} {c_s' : Nat → Int32} (hm : mX10_uses c_s a1 = some (c_s')) : k_Mv l yX10_uses wsX10_uses rmX10_uses D (kT cI cJ cC cG) sz ([.ref (ad 0), .int a1] : List Value) (wM cI cJ ad c_s c_before c_known c_kept c_isKept c_aside c_buffer c_length c_thrown c_laid c_spot c_isWrong c_isHalted c_mine c_theirs c_many c_from0 c_from1 c_dice c_hash) (wM cI cJ ad c_s' c_before c_known c_kept c_isKept c_aside c_buffer c_length c_thrown c_laid c_spot c_isWrong c_isHalted c_mine c_theirs c_many c_from0 c_from1 c_dice c_hash) := by
  refine k_st_v (cc := cX10_uses) (maxL := 4) (by decide) rfl (Nat.le_of_ble_eq_true rfl) ?_
  intro p e z m below meth c A hx hb hr hml hts hown hlocks hsz hN hA hK hP hD hS ls hl
  have hown : z.vm.findClass RX10 = some m.cls := hown
  have hinX10 : ∀ w ∈ wsX100, w ∈ wsX10_uses := by decide +kernel
  have fl7 := hts (.fieldLink RX10 7 "MagpieRunsModel" "s" "[I") (by decide +kernel)
  have hl : lv_has ls 4 [(0, .ref (ad 0)), (1, .int a1)] := hl
  have J_34 := k_loop (z := fun _ _ => none) (st := mX10_uses_34 a1) (fun k34 : (Int32) → (Nat → Int32) → Option ((Nat → Int32)) => ∀ (l3 : Int32) (c_s : Nat → Int32) (H : Heap) (locs : List Loc), va_P D vwCl (wM cI cJ ad c_s c_before c_known c_kept c_isKept c_aside c_buffer c_length c_thrown c_laid c_spot c_isWrong c_isHalted c_mine c_theirs c_many c_from0 c_from1 c_dice c_hash) H → va_D A (wM cI cJ ad c_s c_before c_known c_kept c_isKept c_aside c_buffer c_length c_thrown c_laid c_spot c_isWrong c_isHalted c_mine c_theirs c_many c_from0 c_from1 c_dice c_hash) → va_S A z.heap H locs → ∀ ls : Array Slot, lv_has ls 4 [(0, .ref (ad 0)), (3, .int l3)] → k34 l3 c_s = some (c_s') → W p l e rmX10_uses z m ([.ref (ad 0), .int a1] : List Value).toArray below meth c H locs 0 0 (k_Qv below ([.ref (ad 0), .int a1] : List Value) D (kT cI cJ cC cG) z A (wM cI cJ ad c_s' c_before c_known c_kept c_isKept c_aside c_buffer c_length c_thrown c_laid c_spot c_isWrong c_isHalted c_mine c_theirs c_many c_from0 c_from1 c_dice c_hash)) (F0 m 34 ls [])) (by intros; rename_i h; cases h) (by
    intro k34 ih34
    intro l3 c_s H locs hP hD hS ls hl hm
    unfold mX10_uses_34 at hm
    refine lv_iload_n hx hb dX10_uses_34 rfl (lv_at hl 1 rfl) ?_
    refine lv_iconst (v := 3) hx hb dX10_uses_35 (by decide) ?_
    refine lv_icmp_ge (tgt := 65) hx hb dX10_uses_36 (by decide) (fun cc36 => ?_) (fun cc36 => ?_)
    · have hm := k_ip cc36 hm
      refine lv_aload_n hx hb dX10_uses_65 rfl (lv_at hl 0 rfl) ?_
      refine va_get (D := D) (ci := 6) (v := .ref (ad 1)) (C := RX10) (T := TX10) (N := 20) hx hb hts hinX10 hown hK hP 0 rfl rfl 0 (by decide) fl7 (fun _ h9 => h9) rfl dX10_uses_66 ?_
      refine lv_bipush (v := 42) hx hb dX10_uses_69 (by decide) ?_
      refine lv_iconst (v := 0) hx hb dX10_uses_71 (by decide) ?_
      refine k_isC hx hb hK hP hD hS 1 0 rfl rfl kl_42 ki_42_51 dX10_uses_72 (fun H locs hP hD hS => ?_)
      have hP : va_P D vwCl (wM cI cJ ad (upd c_s 42 0) c_before c_known c_kept c_isKept c_aside c_buffer c_length c_thrown c_laid c_spot c_isWrong c_isHalted c_mine c_theirs c_many c_from0 c_from1 c_dice c_hash) H := hP
      have hD : va_D A (wM cI cJ ad (upd c_s 42 0) c_before c_known c_kept c_isKept c_aside c_buffer c_length c_thrown c_laid c_spot c_isWrong c_isHalted c_mine c_theirs c_many c_from0 c_from1 c_dice c_hash) := hD
      cases hm
      exact k_end_v hx hb hr hlocks hK hP hD hS dX10_uses_73
    · have hm := k_in cc36 hm
      refine lv_aload_n hx hb dX10_uses_39 rfl (lv_at hl 0 rfl) ?_
      refine va_get (D := D) (ci := 6) (v := .ref (ad 1)) (C := RX10) (T := TX10) (N := 20) hx hb hts hinX10 hown hK hP 0 rfl rfl 0 (by decide) fl7 (fun _ h9 => h9) rfl dX10_uses_40 ?_
      refine lv_bipush (v := 39) hx hb dX10_uses_43 (by decide) ?_
      refine lv_iload_n hx hb dX10_uses_45 rfl (lv_at hl 1 rfl) ?_
      refine lv_iadd hx hb dX10_uses_46 ?_
      refine lv_aload_n hx hb dX10_uses_47 rfl (lv_at hl 0 rfl) ?_
      refine va_get (D := D) (ci := 6) (v := .ref (ad 1)) (C := RX10) (T := TX10) (N := 20) hx hb hts hinX10 hown hK hP 0 rfl rfl 0 (by decide) fl7 (fun _ h9 => h9) rfl dX10_uses_48 ?_
      refine lv_bipush (v := 39) hx hb dX10_uses_51 (by decide) ?_
      refine lv_iload_n hx hb dX10_uses_53 rfl (lv_at hl 1 rfl) ?_
      refine lv_iadd hx hb dX10_uses_54 ?_
      refine lv_iconst (v := 1) hx hb dX10_uses_55 (by decide) ?_
      refine lv_iadd hx hb dX10_uses_56 ?_
      obtain ⟨gi57, hm⟩ := k_gs hm
      refine va_iald hx hb hK hP 1 0 rfl rfl gi57 dX10_uses_57 ?_
      obtain ⟨gi58, hm⟩ := k_gs hm
      refine va_iast hx hb hK hP hD hS 1 0 rfl rfl gi58 dX10_uses_58 (fun H locs hP hD hS => ?_)
      have hP : va_P D vwCl (wM cI cJ ad (upd c_s (Int32.toNatClampNeg (39 + l3)) (c_s (Int32.toNatClampNeg ((39 + l3) + 1)))) c_before c_known c_kept c_isKept c_aside c_buffer c_length c_thrown c_laid c_spot c_isWrong c_isHalted c_mine c_theirs c_many c_from0 c_from1 c_dice c_hash) H := hP
      have hD : va_D A (wM cI cJ ad (upd c_s (Int32.toNatClampNeg (39 + l3)) (c_s (Int32.toNatClampNeg ((39 + l3) + 1)))) c_before c_known c_kept c_isKept c_aside c_buffer c_length c_thrown c_laid c_spot c_isWrong c_isHalted c_mine c_theirs c_many c_from0 c_from1 c_dice c_hash) := hD
      refine lv_iinc (v := (l3 + 1)) (lv' := [(3, .int (l3 + 1)), (0, .ref (ad 0))]) hx hb dX10_uses_59 hl (k := 1) rfl rfl (by decide) rfl (fun ls hl => ?_)
      refine lv_goto (tgt := 34) hx hb dX10_uses_62 (by decide) ?_
      exact ih34 (l3 + 1) (upd c_s (Int32.toNatClampNeg (39 + l3)) (c_s (Int32.toNatClampNeg ((39 + l3) + 1)))) _ _ hP hD hS _ (lv_sub hl [1, 0] rfl) hm) k_F
  have J_2 := k_loop (z := fun _ _ => none) (st := mX10_uses_2 a1) (fun k2 : (Int32) → (Nat → Int32) → Option ((Nat → Int32)) => ∀ (l2 : Int32) (c_s : Nat → Int32) (H : Heap) (locs : List Loc), va_P D vwCl (wM cI cJ ad c_s c_before c_known c_kept c_isKept c_aside c_buffer c_length c_thrown c_laid c_spot c_isWrong c_isHalted c_mine c_theirs c_many c_from0 c_from1 c_dice c_hash) H → va_D A (wM cI cJ ad c_s c_before c_known c_kept c_isKept c_aside c_buffer c_length c_thrown c_laid c_spot c_isWrong c_isHalted c_mine c_theirs c_many c_from0 c_from1 c_dice c_hash) → va_S A z.heap H locs → ∀ ls : Array Slot, lv_has ls 4 [(0, .ref (ad 0)), (1, .int a1), (2, .int l2)] → k2 l2 c_s = some (c_s') → W p l e rmX10_uses z m ([.ref (ad 0), .int a1] : List Value).toArray below meth c H locs 0 0 (k_Qv below ([.ref (ad 0), .int a1] : List Value) D (kT cI cJ cC cG) z A (wM cI cJ ad c_s' c_before c_known c_kept c_isKept c_aside c_buffer c_length c_thrown c_laid c_spot c_isWrong c_isHalted c_mine c_theirs c_many c_from0 c_from1 c_dice c_hash)) (F0 m 2 ls [])) (by intros; rename_i h; cases h) (by
    intro k2 ih2
    intro l2 c_s H locs hP hD hS ls hl hm
    unfold mX10_uses_2 at hm
    refine lv_aload_n hx hb dX10_uses_2 rfl (lv_at hl 0 rfl) ?_
    refine va_get (D := D) (ci := 6) (v := .ref (ad 1)) (C := RX10) (T := TX10) (N := 20) hx hb hts hinX10 hown hK hP 0 rfl rfl 0 (by decide) fl7 (fun _ h9 => h9) rfl dX10_uses_3 ?_
    refine lv_bipush (v := 39) hx hb dX10_uses_6 (by decide) ?_
    refine lv_iload_n hx hb dX10_uses_8 rfl (lv_at hl 2 rfl) ?_
    refine lv_iadd hx hb dX10_uses_9 ?_
    obtain ⟨gi10, hm⟩ := k_gs hm
    refine va_iald hx hb hK hP 1 0 rfl rfl gi10 dX10_uses_10 ?_
    refine lv_iload_n hx hb dX10_uses_11 rfl (lv_at hl 1 rfl) ?_
    refine lv_icmp_eq (tgt := 21) hx hb dX10_uses_12 (by decide) (fun cc12 => ?_) (fun cc12 => ?_)
    · have hm := k_ip cc12 hm
      refine lv_aload_n hx hb dX10_uses_21 rfl (lv_at hl 0 rfl) ?_
      refine va_get (D := D) (ci := 6) (v := .ref (ad 1)) (C := RX10) (T := TX10) (N := 20) hx hb hts hinX10 hown hK hP 0 rfl rfl 0 (by decide) fl7 (fun _ h9 => h9) rfl dX10_uses_22 ?_
      refine lv_bipush (v := 38) hx hb dX10_uses_25 (by decide) ?_
      refine lv_dup2_11 hx hb dX10_uses_27 rfl rfl ?_
      refine k_iaC hx hb hK hP 1 0 rfl rfl kl_38 ki_38_51 dX10_uses_28 ?_
      refine lv_iconst (v := 1) hx hb dX10_uses_29 (by decide) ?_
      refine lv_isub hx hb dX10_uses_30 ?_
      refine k_isC hx hb hK hP hD hS 1 0 rfl rfl kl_38 ki_38_51 dX10_uses_31 (fun H locs hP hD hS => ?_)
      have hP : va_P D vwCl (wM cI cJ ad (upd c_s 38 ((c_s 38) - 1)) c_before c_known c_kept c_isKept c_aside c_buffer c_length c_thrown c_laid c_spot c_isWrong c_isHalted c_mine c_theirs c_many c_from0 c_from1 c_dice c_hash) H := hP
      have hD : va_D A (wM cI cJ ad (upd c_s 38 ((c_s 38) - 1)) c_before c_known c_kept c_isKept c_aside c_buffer c_length c_thrown c_laid c_spot c_isWrong c_isHalted c_mine c_theirs c_many c_from0 c_from1 c_dice c_hash) := hD
      refine lv_iload_n hx hb dX10_uses_32 rfl (lv_at hl 2 rfl) ?_
      refine lv_istore_n (lv' := [(3, .int l2), (0, .ref (ad 0)), (1, .int a1), (2, .int l2)]) hx hb dX10_uses_33 rfl hl (by decide) rfl (fun ls hl => ?_)
      exact J_34 l2 (upd c_s 38 ((c_s 38) - 1)) _ _ hP hD hS _ (lv_sub hl [1, 0] rfl) hm
    · have hm := k_in cc12 hm
      refine lv_iinc (v := (l2 + 1)) (lv' := [(2, .int (l2 + 1)), (0, .ref (ad 0)), (1, .int a1)]) hx hb dX10_uses_15 hl (k := 2) rfl rfl (by decide) rfl (fun ls hl => ?_)
      refine lv_goto (tgt := 2) hx hb dX10_uses_18 (by decide) ?_
      exact ih2 (l2 + 1) c_s _ _ hP hD hS _ (lv_sub hl [1, 2, 0] rfl) hm) k_F
  unfold mX10_uses at hm
  refine lv_iconst (v := 0) hx hb dX10_uses_0 (by decide) ?_
  refine lv_istore_n (lv' := [(2, .int 0), (0, .ref (ad 0)), (1, .int a1)]) hx hb dX10_uses_1 rfl hl (by decide) rfl (fun ls hl => ?_)
  exact J_2 0 c_s _ _ hP hD hS _ (lv_sub hl [1, 2, 0] rfl) hm

abbrev rmX10_rolls : Room := { frames := 0, cells := 0, slots := 0, locals := 0 }
set_option maxHeartbeats 4000000 in
set_option maxRecDepth 100000 in
theorem zX10_rolls {l : Launch} {D : va_G} {cI cJ cC cG : ClassId} {sz : Nat} {ad : Nat → Nat} {c_s : Nat → Int32} {c_before : Nat → Int32} {c_known : Int32} {c_kept : Nat → Int32} {c_isKept : Bool} {c_aside : Nat → Int32} {c_buffer : Nat → Int32} {c_length : Int32} {c_thrown : Int32} {c_laid : Nat → Int32} {c_spot : Int32} {c_isWrong : Bool} {c_isHalted : Bool} {c_mine : Nat → Int64} {c_theirs : Nat → Int64} {c_many : Int32} {c_from0 : Nat → Int64} {c_from1 : Nat → Int64} {c_dice : Nat → Int32} {c_hash : Int64} {a1 : Int32} {a2 : Int32} {r : Int32} {c_s' : Nat → Int32} (hm : mX10_rolls c_s a1 a2 = some (r, c_s')) : k_Mi l yX10_rolls wsX10_rolls rmX10_rolls D (kT cI cJ cC cG) sz ([.ref (ad 0), .int a1, .int a2] : List Value) (wM cI cJ ad c_s c_before c_known c_kept c_isKept c_aside c_buffer c_length c_thrown c_laid c_spot c_isWrong c_isHalted c_mine c_theirs c_many c_from0 c_from1 c_dice c_hash) (wM cI cJ ad c_s' c_before c_known c_kept c_isKept c_aside c_buffer c_length c_thrown c_laid c_spot c_isWrong c_isHalted c_mine c_theirs c_many c_from0 c_from1 c_dice c_hash) r := by
  refine k_st_i (cc := cX10_rolls) (maxL := 4) (by decide) rfl (Nat.le_of_ble_eq_true rfl) ?_
  intro p e z m below meth c A hx hb hr hml hts hown hlocks hsz hN hA hK hP hD hS ls hl
  have hown : z.vm.findClass RX10 = some m.cls := hown
  have hinX10 : ∀ w ∈ wsX100, w ∈ wsX10_rolls := by decide +kernel
  have fl7 := hts (.fieldLink RX10 7 "MagpieRunsModel" "s" "[I") (by decide +kernel)
  have hl : lv_has ls 4 [(0, .ref (ad 0)), (1, .int a1), (2, .int a2)] := hl
  have J_27 := k_loop (z := fun _ _ => none) (st := mX10_rolls_27 a1 a2) (fun k27 : (Int32) → (Nat → Int32) → Option (Int32 × (Nat → Int32)) => ∀ (l3 : Int32) (c_s : Nat → Int32) (H : Heap) (locs : List Loc), va_P D vwCl (wM cI cJ ad c_s c_before c_known c_kept c_isKept c_aside c_buffer c_length c_thrown c_laid c_spot c_isWrong c_isHalted c_mine c_theirs c_many c_from0 c_from1 c_dice c_hash) H → va_D A (wM cI cJ ad c_s c_before c_known c_kept c_isKept c_aside c_buffer c_length c_thrown c_laid c_spot c_isWrong c_isHalted c_mine c_theirs c_many c_from0 c_from1 c_dice c_hash) → va_S A z.heap H locs → ∀ ls : Array Slot, lv_has ls 4 [(0, .ref (ad 0)), (1, .int a1), (2, .int a2), (3, .int l3)] → k27 l3 c_s = some (r, c_s') → W p l e rmX10_rolls z m ([.ref (ad 0), .int a1, .int a2] : List Value).toArray below meth c H locs 0 0 (k_Qi below ([.ref (ad 0), .int a1, .int a2] : List Value) D (kT cI cJ cC cG) z A (wM cI cJ ad c_s' c_before c_known c_kept c_isKept c_aside c_buffer c_length c_thrown c_laid c_spot c_isWrong c_isHalted c_mine c_theirs c_many c_from0 c_from1 c_dice c_hash) r) (F0 m 27 ls [])) (by intros; rename_i h; cases h) (by
    intro k27 ih27
    have J_57 : ∀ (t0 : Int32) (t1 : Int32) (l3 : Int32) (c_s : Nat → Int32) (H : Heap) (locs : List Loc), va_P D vwCl (wM cI cJ ad c_s c_before c_known c_kept c_isKept c_aside c_buffer c_length c_thrown c_laid c_spot c_isWrong c_isHalted c_mine c_theirs c_many c_from0 c_from1 c_dice c_hash) H → va_D A (wM cI cJ ad c_s c_before c_known c_kept c_isKept c_aside c_buffer c_length c_thrown c_laid c_spot c_isWrong c_isHalted c_mine c_theirs c_many c_from0 c_from1 c_dice c_hash) → va_S A z.heap H locs → ∀ ls : Array Slot, lv_has ls 4 [(0, .ref (ad 0)), (1, .int a1), (2, .int a2), (3, .int l3)] → mX10_rolls_57 a1 a2 k27 t0 t1 l3 c_s = some (r, c_s') → W p l e rmX10_rolls z m ([.ref (ad 0), .int a1, .int a2] : List Value).toArray below meth c H locs 0 0 (k_Qi below ([.ref (ad 0), .int a1, .int a2] : List Value) D (kT cI cJ cC cG) z A (wM cI cJ ad c_s' c_before c_known c_kept c_isKept c_aside c_buffer c_length c_thrown c_laid c_spot c_isWrong c_isHalted c_mine c_theirs c_many c_from0 c_from1 c_dice c_hash) r) (F0 m 57 ls [.int t0, .int t1, .ref (ad 1)]) := by
      intro t0 t1 l3 c_s H locs hP hD hS ls hl hm
      unfold mX10_rolls_57 at hm
      obtain ⟨gi57, hm⟩ := k_gs hm
      refine va_iast hx hb hK hP hD hS 1 0 rfl rfl gi57 dX10_rolls_57 (fun H locs hP hD hS => ?_)
      have hP : va_P D vwCl (wM cI cJ ad (upd c_s (Int32.toNatClampNeg t1) t0) c_before c_known c_kept c_isKept c_aside c_buffer c_length c_thrown c_laid c_spot c_isWrong c_isHalted c_mine c_theirs c_many c_from0 c_from1 c_dice c_hash) H := hP
      have hD : va_D A (wM cI cJ ad (upd c_s (Int32.toNatClampNeg t1) t0) c_before c_known c_kept c_isKept c_aside c_buffer c_length c_thrown c_laid c_spot c_isWrong c_isHalted c_mine c_theirs c_many c_from0 c_from1 c_dice c_hash) := hD
      refine lv_iinc (v := (l3 + 1)) (lv' := [(3, .int (l3 + 1)), (0, .ref (ad 0)), (1, .int a1), (2, .int a2)]) hx hb dX10_rolls_58 hl (k := 3) rfl rfl (by decide) rfl (fun ls hl => ?_)
      refine lv_goto (tgt := 27) hx hb dX10_rolls_61 (by decide) ?_
      exact ih27 (l3 + 1) (upd c_s (Int32.toNatClampNeg t1) t0) _ _ hP hD hS _ (lv_sub hl [1, 2, 3, 0] rfl) hm
    intro l3 c_s H locs hP hD hS ls hl hm
    unfold mX10_rolls_27 at hm
    refine lv_iload_n hx hb dX10_rolls_27 rfl (lv_at hl 3 rfl) ?_
    refine lv_aload_n hx hb dX10_rolls_28 rfl (lv_at hl 0 rfl) ?_
    refine va_get (D := D) (ci := 6) (v := .ref (ad 1)) (C := RX10) (T := TX10) (N := 20) hx hb hts hinX10 hown hK hP 0 rfl rfl 0 (by decide) fl7 (fun _ h9 => h9) rfl dX10_rolls_29 ?_
    refine lv_bipush (v := 38) hx hb dX10_rolls_32 (by decide) ?_
    refine k_iaC hx hb hK hP 1 0 rfl rfl kl_38 ki_38_51 dX10_rolls_34 ?_
    refine lv_icmp_ge (tgt := 64) hx hb dX10_rolls_35 (by decide) (fun cc35 => ?_) (fun cc35 => ?_)
    · have hm := k_ip cc35 hm
      refine lv_aload_n hx hb dX10_rolls_64 rfl (lv_at hl 0 rfl) ?_
      refine va_get (D := D) (ci := 6) (v := .ref (ad 1)) (C := RX10) (T := TX10) (N := 20) hx hb hts hinX10 hown hK hP 0 rfl rfl 0 (by decide) fl7 (fun _ h9 => h9) rfl dX10_rolls_65 ?_
      refine lv_bipush (v := 38) hx hb dX10_rolls_68 (by decide) ?_
      refine k_iaC hx hb hK hP 1 0 rfl rfl kl_38 ki_38_51 dX10_rolls_70 ?_
      cases hm
      exact k_end_i hx hb hr hlocks hK hP hD hS dX10_rolls_71
    · have hm := k_in cc35 hm
      refine lv_aload_n hx hb dX10_rolls_38 rfl (lv_at hl 0 rfl) ?_
      refine va_get (D := D) (ci := 6) (v := .ref (ad 1)) (C := RX10) (T := TX10) (N := 20) hx hb hts hinX10 hown hK hP 0 rfl rfl 0 (by decide) fl7 (fun _ h9 => h9) rfl dX10_rolls_39 ?_
      refine lv_bipush (v := 39) hx hb dX10_rolls_42 (by decide) ?_
      refine lv_iload_n hx hb dX10_rolls_44 rfl (lv_at hl 3 rfl) ?_
      refine lv_iadd hx hb dX10_rolls_45 ?_
      refine lv_iload_n hx hb dX10_rolls_46 rfl (lv_at hl 3 rfl) ?_
      refine lv_iconst (v := 2) hx hb dX10_rolls_47 (by decide) ?_
      refine lv_irem hx hb dX10_rolls_48 (by decide) ?_
      refine lv_if_ne (tgt := 56) hx hb dX10_rolls_49 (by decide) (fun cc49 => ?_) (fun cc49 => ?_)
      · have hm := k_in cc49 hm
        refine lv_iload_n hx hb dX10_rolls_56 rfl (lv_at hl 2 rfl) ?_
        exact J_57 a2 (39 + l3) l3 c_s _ _ hP hD hS _ (lv_sub hl [0, 1, 2, 3] rfl) hm
      · have hm := k_ip cc49 hm
        refine lv_iload_n hx hb dX10_rolls_52 rfl (lv_at hl 1 rfl) ?_
        refine lv_goto (tgt := 57) hx hb dX10_rolls_53 (by decide) ?_
        exact J_57 a1 (39 + l3) l3 c_s _ _ hP hD hS _ (lv_sub hl [0, 1, 2, 3] rfl) hm) k_F
  have J_24 : ∀ (t0 : Int32) (t1 : Int32) (c_s : Nat → Int32) (H : Heap) (locs : List Loc), va_P D vwCl (wM cI cJ ad c_s c_before c_known c_kept c_isKept c_aside c_buffer c_length c_thrown c_laid c_spot c_isWrong c_isHalted c_mine c_theirs c_many c_from0 c_from1 c_dice c_hash) H → va_D A (wM cI cJ ad c_s c_before c_known c_kept c_isKept c_aside c_buffer c_length c_thrown c_laid c_spot c_isWrong c_isHalted c_mine c_theirs c_many c_from0 c_from1 c_dice c_hash) → va_S A z.heap H locs → ∀ ls : Array Slot, lv_has ls 4 [(0, .ref (ad 0)), (1, .int a1), (2, .int a2)] → mX10_rolls_24 a1 a2 t0 t1 c_s = some (r, c_s') → W p l e rmX10_rolls z m ([.ref (ad 0), .int a1, .int a2] : List Value).toArray below meth c H locs 0 0 (k_Qi below ([.ref (ad 0), .int a1, .int a2] : List Value) D (kT cI cJ cC cG) z A (wM cI cJ ad c_s' c_before c_known c_kept c_isKept c_aside c_buffer c_length c_thrown c_laid c_spot c_isWrong c_isHalted c_mine c_theirs c_many c_from0 c_from1 c_dice c_hash) r) (F0 m 24 ls [.int t0, .int t1, .ref (ad 1)]) := by
    intro t0 t1 c_s H locs hP hD hS ls hl hm
    unfold mX10_rolls_24 at hm
    obtain ⟨gi24, hm⟩ := k_gs hm
    refine va_iast hx hb hK hP hD hS 1 0 rfl rfl gi24 dX10_rolls_24 (fun H locs hP hD hS => ?_)
    have hP : va_P D vwCl (wM cI cJ ad (upd c_s (Int32.toNatClampNeg t1) t0) c_before c_known c_kept c_isKept c_aside c_buffer c_length c_thrown c_laid c_spot c_isWrong c_isHalted c_mine c_theirs c_many c_from0 c_from1 c_dice c_hash) H := hP
    have hD : va_D A (wM cI cJ ad (upd c_s (Int32.toNatClampNeg t1) t0) c_before c_known c_kept c_isKept c_aside c_buffer c_length c_thrown c_laid c_spot c_isWrong c_isHalted c_mine c_theirs c_many c_from0 c_from1 c_dice c_hash) := hD
    refine lv_iconst (v := 0) hx hb dX10_rolls_25 (by decide) ?_
    refine lv_istore_n (lv' := [(3, .int 0), (0, .ref (ad 0)), (1, .int a1), (2, .int a2)]) hx hb dX10_rolls_26 rfl hl (by decide) rfl (fun ls hl => ?_)
    exact J_27 0 (upd c_s (Int32.toNatClampNeg t1) t0) _ _ hP hD hS _ (lv_sub hl [1, 2, 3, 0] rfl) hm
  unfold mX10_rolls at hm
  refine lv_aload_n hx hb dX10_rolls_0 rfl (lv_at hl 0 rfl) ?_
  refine va_get (D := D) (ci := 6) (v := .ref (ad 1)) (C := RX10) (T := TX10) (N := 20) hx hb hts hinX10 hown hK hP 0 rfl rfl 0 (by decide) fl7 (fun _ h9 => h9) rfl dX10_rolls_1 ?_
  refine lv_bipush (v := 37) hx hb dX10_rolls_4 (by decide) ?_
  refine lv_iconst (v := 1) hx hb dX10_rolls_6 (by decide) ?_
  refine k_isC hx hb hK hP hD hS 1 0 rfl rfl kl_37 ki_37_51 dX10_rolls_7 (fun H locs hP hD hS => ?_)
  have hP : va_P D vwCl (wM cI cJ ad (upd c_s 37 1) c_before c_known c_kept c_isKept c_aside c_buffer c_length c_thrown c_laid c_spot c_isWrong c_isHalted c_mine c_theirs c_many c_from0 c_from1 c_dice c_hash) H := hP
  have hD : va_D A (wM cI cJ ad (upd c_s 37 1) c_before c_known c_kept c_isKept c_aside c_buffer c_length c_thrown c_laid c_spot c_isWrong c_isHalted c_mine c_theirs c_many c_from0 c_from1 c_dice c_hash) := hD
  refine lv_aload_n hx hb dX10_rolls_8 rfl (lv_at hl 0 rfl) ?_
  refine va_get (D := D) (ci := 6) (v := .ref (ad 1)) (C := RX10) (T := TX10) (N := 20) hx hb hts hinX10 hown hK hP 0 rfl rfl 0 (by decide) fl7 (fun _ h9 => h9) rfl dX10_rolls_9 ?_
  refine lv_bipush (v := 38) hx hb dX10_rolls_12 (by decide) ?_
  refine lv_iload_n hx hb dX10_rolls_14 rfl (lv_at hl 1 rfl) ?_
  refine lv_iload_n hx hb dX10_rolls_15 rfl (lv_at hl 2 rfl) ?_
  refine lv_icmp_ne (tgt := 23) hx hb dX10_rolls_16 (by decide) (fun cc16 => ?_) (fun cc16 => ?_)
  · have hm := k_in cc16 hm
    refine lv_iconst (v := 2) hx hb dX10_rolls_23 (by decide) ?_
    exact J_24 2 38 (upd c_s 37 1) _ _ hP hD hS _ (lv_sub hl [0, 1, 2] rfl) hm
  · have hm := k_ip cc16 hm
    refine lv_iconst (v := 4) hx hb dX10_rolls_19 (by decide) ?_
    refine lv_goto (tgt := 24) hx hb dX10_rolls_20 (by decide) ?_
    exact J_24 4 38 (upd c_s 37 1) _ _ hP hD hS _ (lv_sub hl [0, 1, 2] rfl) hm

abbrev rmX10_steps : Room := { frames := 2, cells := 0, slots := 0, locals := 48 }
set_option maxHeartbeats 4000000 in
set_option maxRecDepth 100000 in
theorem zX10_steps {l : Launch} {D : va_G} {cI cJ cC cG : ClassId} {sz : Nat} {ad : Nat → Nat} {c_s : Nat → Int32} {c_before : Nat → Int32} {c_known : Int32} {c_kept : Nat → Int32} {c_isKept : Bool} {c_aside : Nat → Int32} {c_buffer : Nat → Int32} {c_length : Int32} {c_thrown : Int32} {c_laid : Nat → Int32} {c_spot : Int32} {c_isWrong : Bool} {c_isHalted : Bool} {c_mine : Nat → Int64} {c_theirs : Nat → Int64} {c_many : Int32} {c_from0 : Nat → Int64} {c_from1 : Nat → Int64} {c_dice : Nat → Int32} {c_hash : Int64} {a1 : Int32} {a2 : Int32} {r : Bool} {c_s' : Nat → Int32} (hm : mX10_steps c_s a1 a2 = some (r, c_s')) : k_Mi l yX10_steps wsX10_steps rmX10_steps D (kT cI cJ cC cG) sz ([.ref (ad 0), .int a1, .int a2] : List Value) (wM cI cJ ad c_s c_before c_known c_kept c_isKept c_aside c_buffer c_length c_thrown c_laid c_spot c_isWrong c_isHalted c_mine c_theirs c_many c_from0 c_from1 c_dice c_hash) (wM cI cJ ad c_s' c_before c_known c_kept c_isKept c_aside c_buffer c_length c_thrown c_laid c_spot c_isWrong c_isHalted c_mine c_theirs c_many c_from0 c_from1 c_dice c_hash) (k_b r) := by
  refine k_st_i (cc := cX10_steps) (maxL := 5) (by decide) rfl (Nat.le_of_ble_eq_true rfl) ?_
  intro p e z m below meth c A hx hb hr hml hts hown hlocks hsz hN hA hK hP hD hS ls hl
  have hown : z.vm.findClass RX10 = some m.cls := hown
  have hinX10 : ∀ w ∈ wsX100, w ∈ wsX10_steps := by decide +kernel
  have fl7 := hts (.fieldLink RX10 7 "MagpieRunsModel" "s" "[I") (by decide +kernel)
  have hl : lv_has ls 5 [(0, .ref (ad 0)), (1, .int a1), (2, .int a2)] := hl
  have J_109 : ∀ (t0 : Int32) (t1 : Int32) (t2 : Int32) (l4 : Bool) (c_s : Nat → Int32) (H : Heap) (locs : List Loc), va_P D vwCl (wM cI cJ ad c_s c_before c_known c_kept c_isKept c_aside c_buffer c_length c_thrown c_laid c_spot c_isWrong c_isHalted c_mine c_theirs c_many c_from0 c_from1 c_dice c_hash) H → va_D A (wM cI cJ ad c_s c_before c_known c_kept c_isKept c_aside c_buffer c_length c_thrown c_laid c_spot c_isWrong c_isHalted c_mine c_theirs c_many c_from0 c_from1 c_dice c_hash) → va_S A z.heap H locs → ∀ ls : Array Slot, lv_has ls 5 [(4, .int (k_b l4))] → mX10_steps_109 a1 a2 t0 t1 t2 l4 c_s = some (r, c_s') → W p l e rmX10_steps z m ([.ref (ad 0), .int a1, .int a2] : List Value).toArray below meth c H locs 0 0 (k_Qi below ([.ref (ad 0), .int a1, .int a2] : List Value) D (kT cI cJ cC cG) z A (wM cI cJ ad c_s' c_before c_known c_kept c_isKept c_aside c_buffer c_length c_thrown c_laid c_spot c_isWrong c_isHalted c_mine c_theirs c_many c_from0 c_from1 c_dice c_hash) (k_b r)) (F0 m 109 ls [.int t0, .int t1, .int t2, .ref (ad 1)]) := by
    intro t0 t1 t2 l4 c_s H locs hP hD hS ls hl hm
    unfold mX10_steps_109 at hm
    refine lv_iadd hx hb dX10_steps_109 ?_
    obtain ⟨gi110, hm⟩ := k_gs hm
    refine va_iast hx hb hK hP hD hS 1 0 rfl rfl gi110 dX10_steps_110 (fun H locs hP hD hS => ?_)
    have hP : va_P D vwCl (wM cI cJ ad (upd c_s (Int32.toNatClampNeg t2) (t1 + t0)) c_before c_known c_kept c_isKept c_aside c_buffer c_length c_thrown c_laid c_spot c_isWrong c_isHalted c_mine c_theirs c_many c_from0 c_from1 c_dice c_hash) H := hP
    have hD : va_D A (wM cI cJ ad (upd c_s (Int32.toNatClampNeg t2) (t1 + t0)) c_before c_known c_kept c_isKept c_aside c_buffer c_length c_thrown c_laid c_spot c_isWrong c_isHalted c_mine c_theirs c_many c_from0 c_from1 c_dice c_hash) := hD
    refine lv_iload hx hb dX10_steps_111 (lv_at hl 0 rfl) ?_
    cases hm
    exact k_end_z _ hx hb hr hlocks hK hP hD hS dX10_steps_113
  have J_37 : ∀ (t0 : Bool) (t1 : Int32) (t2 : Int32) (l3 : Int32) (l4 : Bool) (c_s : Nat → Int32) (H : Heap) (locs : List Loc), va_P D vwCl (wM cI cJ ad c_s c_before c_known c_kept c_isKept c_aside c_buffer c_length c_thrown c_laid c_spot c_isWrong c_isHalted c_mine c_theirs c_many c_from0 c_from1 c_dice c_hash) H → va_D A (wM cI cJ ad c_s c_before c_known c_kept c_isKept c_aside c_buffer c_length c_thrown c_laid c_spot c_isWrong c_isHalted c_mine c_theirs c_many c_from0 c_from1 c_dice c_hash) → va_S A z.heap H locs → ∀ ls : Array Slot, lv_has ls 5 [(0, .ref (ad 0)), (2, .int a2), (3, .int l3), (4, .int (k_b l4))] → mX10_steps_37 a1 a2 t0 t1 t2 l3 l4 c_s = some (r, c_s') → W p l e rmX10_steps z m ([.ref (ad 0), .int a1, .int a2] : List Value).toArray below meth c H locs 0 0 (k_Qi below ([.ref (ad 0), .int a1, .int a2] : List Value) D (kT cI cJ cC cG) z A (wM cI cJ ad c_s' c_before c_known c_kept c_isKept c_aside c_buffer c_length c_thrown c_laid c_spot c_isWrong c_isHalted c_mine c_theirs c_many c_from0 c_from1 c_dice c_hash) (k_b r)) (F0 m 37 ls [.int (k_b t0), .int t1, .int t2, .ref (ad 1)]) := by
    intro t0 t1 t2 l3 l4 c_s H locs hP hD hS ls hl hm
    unfold mX10_steps_37 at hm
    refine lv_iadd hx hb dX10_steps_37 ?_
    obtain ⟨gi38, hm⟩ := k_gs hm
    refine va_iast hx hb hK hP hD hS 1 0 rfl rfl gi38 dX10_steps_38 (fun H locs hP hD hS => ?_)
    have hP : va_P D vwCl (wM cI cJ ad (upd c_s (Int32.toNatClampNeg t2) (t1 + (k_b t0))) c_before c_known c_kept c_isKept c_aside c_buffer c_length c_thrown c_laid c_spot c_isWrong c_isHalted c_mine c_theirs c_many c_from0 c_from1 c_dice c_hash) H := hP
    have hD : va_D A (wM cI cJ ad (upd c_s (Int32.toNatClampNeg t2) (t1 + (k_b t0))) c_before c_known c_kept c_isKept c_aside c_buffer c_length c_thrown c_laid c_spot c_isWrong c_isHalted c_mine c_theirs c_many c_from0 c_from1 c_dice c_hash) := hD
    refine lv_aload_n hx hb dX10_steps_39 rfl (lv_at hl 0 rfl) ?_
    refine lv_iload_n hx hb dX10_steps_40 rfl (lv_at hl 1 rfl) ?_
    obtain ⟨w1, hc41, hm⟩ := k_bds hm
    refine k_v_s (k_rV (As := [.int a2]) (rest := []) ⟨hx, hb, hml, hown, hts⟩ hK hN hP hD (zX10_uses hc41) (cwV 1 hts gX10_steps_X10_uses rfl rfl rfl (by decide +kernel) ⟨Nat.le_of_ble_eq_true rfl, Nat.le_of_ble_eq_true rfl⟩) rfl rfl rfl hl.1 rfl (Nat.le_of_ble_eq_true rfl) dX10_steps_41 ⟨Nat.zero_le _, Nat.zero_le _⟩) hD hS hA (fun H locs hP hD hS => ?_)
    refine lv_aload_n hx hb dX10_steps_44 rfl (lv_at hl 0 rfl) ?_
    refine lv_iload_n hx hb dX10_steps_45 rfl (lv_at hl 2 rfl) ?_
    refine lv_bipush (v := 16) hx hb dX10_steps_46 (by decide) ?_
    obtain ⟨r2, hc48, hm⟩ := k_bds hm
    refine k_i_s (k_rV (As := [.int l3, .int 16]) (rest := []) ⟨hx, hb, hml, hown, hts⟩ hK hN hP hD (zX10_at hc48) (cwV 2 hts gX10_steps_X10_at rfl rfl rfl (by decide +kernel) ⟨Nat.le_of_ble_eq_true rfl, Nat.le_of_ble_eq_true rfl⟩) rfl rfl rfl hl.1 rfl (Nat.le_of_ble_eq_true rfl) dX10_steps_48 ⟨Nat.zero_le _, Nat.zero_le _⟩) hD hS hA (fun H locs hP hD hS => ?_)
    refine lv_bipush (v := 6) hx hb dX10_steps_51 (by decide) ?_
    refine lv_icmp_ne (tgt := 111) hx hb dX10_steps_53 (by decide) (fun cc53 => ?_) (fun cc53 => ?_)
    · have hm := k_in cc53 hm
      refine lv_iload hx hb dX10_steps_111 (lv_at hl 3 rfl) ?_
      cases hm
      exact k_end_z _ hx hb hr hlocks hK hP hD hS dX10_steps_113
    · have hm := k_ip cc53 hm
      refine lv_aload_n hx hb dX10_steps_56 rfl (lv_at hl 0 rfl) ?_
      refine va_get (D := D) (ci := 6) (v := .ref (ad 1)) (C := RX10) (T := TX10) (N := 20) hx hb hts hinX10 hown hK hP 0 rfl rfl 0 (by decide) fl7 (fun _ h9 => h9) rfl dX10_steps_57 ?_
      refine lv_bipush (v := 37) hx hb dX10_steps_60 (by decide) ?_
      refine lv_iconst (v := 3) hx hb dX10_steps_62 (by decide) ?_
      refine k_isC hx hb hK hP hD hS 1 0 rfl rfl kl_37 ki_37_51 dX10_steps_63 (fun H locs hP hD hS => ?_)
      have hP : va_P D vwCl (wM cI cJ ad (upd w1 37 3) c_before c_known c_kept c_isKept c_aside c_buffer c_length c_thrown c_laid c_spot c_isWrong c_isHalted c_mine c_theirs c_many c_from0 c_from1 c_dice c_hash) H := hP
      have hD : va_D A (wM cI cJ ad (upd w1 37 3) c_before c_known c_kept c_isKept c_aside c_buffer c_length c_thrown c_laid c_spot c_isWrong c_isHalted c_mine c_theirs c_many c_from0 c_from1 c_dice c_hash) := hD
      refine lv_aload_n hx hb dX10_steps_64 rfl (lv_at hl 0 rfl) ?_
      obtain ⟨w3, hc65, hm⟩ := k_bds hm
      refine k_v_s (k_rV (As := []) (rest := []) ⟨hx, hb, hml, hown, hts⟩ hK hN hP hD (zX10_clearDice hc65) (cwV 0 hts gX10_steps_X10_clearDice rfl rfl rfl (by decide +kernel) ⟨Nat.le_of_ble_eq_true rfl, Nat.le_of_ble_eq_true rfl⟩) rfl rfl rfl hl.1 rfl (Nat.le_of_ble_eq_true rfl) dX10_steps_65 ⟨Nat.zero_le _, Nat.zero_le _⟩) hD hS hA (fun H locs hP hD hS => ?_)
      refine lv_aload_n hx hb dX10_steps_68 rfl (lv_at hl 0 rfl) ?_
      refine va_get (D := D) (ci := 6) (v := .ref (ad 1)) (C := RX10) (T := TX10) (N := 20) hx hb hts hinX10 hown hK hP 0 rfl rfl 0 (by decide) fl7 (fun _ h9 => h9) rfl dX10_steps_69 ?_
      refine lv_bipush (v := 45) hx hb dX10_steps_72 (by decide) ?_
      refine lv_iload_n hx hb dX10_steps_74 rfl (lv_at hl 2 rfl) ?_
      refine lv_iadd hx hb dX10_steps_75 ?_
      refine lv_dup2_11 hx hb dX10_steps_76 rfl rfl ?_
      obtain ⟨gi77, hm⟩ := k_gs hm
      refine va_iald hx hb hK hP 1 0 rfl rfl gi77 dX10_steps_77 ?_
      refine lv_aload_n hx hb dX10_steps_78 rfl (lv_at hl 0 rfl) ?_
      refine lv_iconst (v := 1) hx hb dX10_steps_79 (by decide) ?_
      refine lv_iload_n hx hb dX10_steps_80 rfl (lv_at hl 2 rfl) ?_
      refine lv_isub hx hb dX10_steps_81 ?_
      refine lv_bipush (v := 16) hx hb dX10_steps_82 (by decide) ?_
      obtain ⟨r4, hc84, hm⟩ := k_bds hm
      refine k_i_s (k_rV (As := [.int (1 - l3), .int 16]) (rest := [.int (w3 (Int32.toNatClampNeg (45 + l3))), .int (45 + l3), .ref (ad 1)]) ⟨hx, hb, hml, hown, hts⟩ hK hN hP hD (zX10_at hc84) (cwV 2 hts gX10_steps_X10_at rfl rfl rfl (by decide +kernel) ⟨Nat.le_of_ble_eq_true rfl, Nat.le_of_ble_eq_true rfl⟩) rfl rfl rfl hl.1 rfl (Nat.le_of_ble_eq_true rfl) dX10_steps_84 ⟨Nat.zero_le _, Nat.zero_le _⟩) hD hS hA (fun H locs hP hD hS => ?_)
      refine lv_if_ne (tgt := 102) hx hb dX10_steps_87 (by decide) (fun cc87 => ?_) (fun cc87 => ?_)
      · have hm := k_in cc87 hm
        refine lv_aload_n hx hb dX10_steps_102 rfl (lv_at hl 0 rfl) ?_
        refine va_get (D := D) (ci := 6) (v := .ref (ad 1)) (C := RX10) (T := TX10) (N := 20) hx hb hts hinX10 hown hK hP 0 rfl rfl 0 (by decide) fl7 (fun _ h9 => h9) rfl dX10_steps_103 ?_
        refine lv_bipush (v := 43) hx hb dX10_steps_106 (by decide) ?_
        refine k_iaC hx hb hK hP 1 0 rfl rfl kl_43 ki_43_51 dX10_steps_108 ?_
        exact J_109 (w3 43) (w3 (Int32.toNatClampNeg (45 + l3))) (45 + l3) l4 w3 _ _ hP hD hS _ (lv_sub hl [3] rfl) hm
      · have hm := k_ip cc87 hm
        refine lv_iconst (v := 2) hx hb dX10_steps_90 (by decide) ?_
        refine lv_aload_n hx hb dX10_steps_91 rfl (lv_at hl 0 rfl) ?_
        refine va_get (D := D) (ci := 6) (v := .ref (ad 1)) (C := RX10) (T := TX10) (N := 20) hx hb hts hinX10 hown hK hP 0 rfl rfl 0 (by decide) fl7 (fun _ h9 => h9) rfl dX10_steps_92 ?_
        refine lv_bipush (v := 43) hx hb dX10_steps_95 (by decide) ?_
        refine k_iaC hx hb hK hP 1 0 rfl rfl kl_43 ki_43_51 dX10_steps_97 ?_
        refine lv_imul hx hb dX10_steps_98 ?_
        refine lv_goto (tgt := 109) hx hb dX10_steps_99 (by decide) ?_
        exact J_109 (2 * (w3 43)) (w3 (Int32.toNatClampNeg (45 + l3))) (45 + l3) l4 w3 _ _ hP hD hS _ (lv_sub hl [3] rfl) hm
  unfold mX10_steps at hm
  refine lv_aload_n hx hb dX10_steps_0 rfl (lv_at hl 0 rfl) ?_
  refine va_get (D := D) (ci := 6) (v := .ref (ad 1)) (C := RX10) (T := TX10) (N := 20) hx hb hts hinX10 hown hK hP 0 rfl rfl 0 (by decide) fl7 (fun _ h9 => h9) rfl dX10_steps_1 ?_
  refine lv_bipush (v := 36) hx hb dX10_steps_4 (by decide) ?_
  refine k_iaC hx hb hK hP 1 0 rfl rfl kl_36 ki_36_51 dX10_steps_6 ?_
  refine lv_istore_n (lv' := [(3, .int (c_s 36)), (0, .ref (ad 0)), (1, .int a1), (2, .int a2)]) hx hb dX10_steps_7 rfl hl (by decide) rfl (fun ls hl => ?_)
  refine lv_aload_n hx hb dX10_steps_8 rfl (lv_at hl 1 rfl) ?_
  refine lv_iload_n hx hb dX10_steps_9 rfl (lv_at hl 0 rfl) ?_
  refine lv_iload_n hx hb dX10_steps_10 rfl (lv_at hl 2 rfl) ?_
  refine lv_iload_n hx hb dX10_steps_11 rfl (lv_at hl 3 rfl) ?_
  obtain ⟨r5, w6, hc12, hm⟩ := k_bd2s hm
  refine k_i_s (k_rV (As := [.int (c_s 36), .int a1, .int a2]) (rest := []) ⟨hx, hb, hml, hown, hts⟩ hK hN hP hD (zX10_moves hc12) (cwV 3 hts gX10_steps_X10_moves rfl rfl rfl (by decide +kernel) ⟨Nat.le_of_ble_eq_true rfl, Nat.le_of_ble_eq_true rfl⟩) rfl rfl rfl hl.1 rfl (Nat.le_of_ble_eq_true rfl) dX10_steps_12 ⟨Nat.zero_le _, Nat.zero_le _⟩) hD hS hA (fun H locs hP hD hS => ?_)
  refine lv_istore (lv' := [(4, .int (k_b r5)), (3, .int (c_s 36)), (0, .ref (ad 0)), (1, .int a1), (2, .int a2)]) hx hb dX10_steps_15 hl (by decide) rfl (fun ls hl => ?_)
  refine lv_aload_n hx hb dX10_steps_17 rfl (lv_at hl 2 rfl) ?_
  refine va_get (D := D) (ci := 6) (v := .ref (ad 1)) (C := RX10) (T := TX10) (N := 20) hx hb hts hinX10 hown hK hP 0 rfl rfl 0 (by decide) fl7 (fun _ h9 => h9) rfl dX10_steps_18 ?_
  refine lv_bipush (v := 48) hx hb dX10_steps_21 (by decide) ?_
  refine lv_iload_n hx hb dX10_steps_23 rfl (lv_at hl 1 rfl) ?_
  refine lv_isub hx hb dX10_steps_24 ?_
  refine lv_dup2_11 hx hb dX10_steps_25 rfl rfl ?_
  obtain ⟨gi26, hm⟩ := k_gs hm
  refine va_iald hx hb hK hP 1 0 rfl rfl gi26 dX10_steps_26 ?_
  refine lv_iload hx hb dX10_steps_27 (lv_at hl 0 rfl) ?_
  refine lv_if_eq (tgt := 36) hx hb dX10_steps_29 (by decide) (fun cc29 => ?_) (fun cc29 => ?_)
  · have hm := k_ip cc29 hm
    refine lv_iconst (v := 0) hx hb dX10_steps_36 (by decide) ?_
    exact J_37 false (w6 (Int32.toNatClampNeg (48 - (c_s 36)))) (48 - (c_s 36)) (c_s 36) r5 w6 _ _ hP hD hS _ (lv_sub hl [2, 4, 1, 0] rfl) hm
  · have hm := k_in cc29 hm
    refine lv_iconst (v := 1) hx hb dX10_steps_32 (by decide) ?_
    refine lv_goto (tgt := 37) hx hb dX10_steps_33 (by decide) ?_
    exact J_37 true (w6 (Int32.toNatClampNeg (48 - (c_s 36)))) (48 - (c_s 36)) (c_s 36) r5 w6 _ _ hP hD hS _ (lv_sub hl [2, 4, 1, 0] rfl) hm

