abbrev rmX10_bitsOf : Room := { frames := 0, cells := 0, slots := 0, locals := 0 }
set_option maxHeartbeats 4000000 in
set_option maxRecDepth 100000 in
theorem zX10_bitsOf {l : Launch} {D : va_G} {cI cJ cC cG : ClassId} {sz : Nat}  {a0 : UInt64} {a2 : Int32} {a3 : Int32} {r : Int64} (hm : mX10_bitsOf a0 a2 a3 = some (r)) : k_Ml l yX10_bitsOf wsX10_bitsOf rmX10_bitsOf D (kT cI cJ cC cG) sz ([.double a0, .int a2, .int a3] : List Value) [] [] r := by
  refine k_st_l (cc := cX10_bitsOf) (maxL := 14) (by decide) rfl (Nat.le_of_ble_eq_true rfl) ?_
  intro p e z m below meth c A hx hb hr hml hts hown hlocks hsz hN hA hK hP hD hS ls hl
  have hown : z.vm.findClass RX10 = some m.cls := hown
  have hl : lv_has ls 14 [(0, .double a0), (2, .int a2), (3, .int a3)] := hl
  have J_72 := k_loop (z := fun _ _ _ => none) (st := mX10_bitsOf_72 a0 a2 a3) (fun k72 : (UInt64) → (Int64) → (Int32) → Option (Int64) => ∀ (l7 : UInt64) (l9 : Int64) (l11 : Int32) (H : Heap) (locs : List Loc), va_P D vwCl [] H → va_D A [] → va_S A z.heap H locs → ∀ ls : Array Slot, lv_has ls 14 [(2, .int a2), (7, .double l7), (9, .long l9), (11, .int l11)] → k72 l7 l9 l11 = some (r) → W p l e rmX10_bitsOf z m ([.double a0, .int a2, .int a3] : List Value).toArray below meth c H locs 0 0 (k_Ql below ([.double a0, .int a2, .int a3] : List Value) D (kT cI cJ cC cG) z A [] r) (F0 m 72 ls [])) (by intros; rename_i h; cases h) (by
    intro k72 ih72
    have J_98 : ∀ (t0 : Int64) (l7 : UInt64) (l9 : Int64) (l11 : Int32) (H : Heap) (locs : List Loc), va_P D vwCl [] H → va_D A [] → va_S A z.heap H locs → ∀ ls : Array Slot, lv_has ls 14 [(2, .int a2), (7, .double l7), (9, .long l9), (11, .int l11)] → mX10_bitsOf_98 a0 a2 a3 k72 t0 l7 l9 l11 = some (r) → W p l e rmX10_bitsOf z m ([.double a0, .int a2, .int a3] : List Value).toArray below meth c H locs 0 0 (k_Ql below ([.double a0, .int a2, .int a3] : List Value) D (kT cI cJ cC cG) z A [] r) (F0 m 98 ls [.long t0]) := by
      intro t0 l7 l9 l11 H locs hP hD hS ls hl hm
      unfold mX10_bitsOf_98 at hm
      refine lv_lstore (lv' := [(12, .long t0), (2, .int a2), (7, .double l7), (9, .long l9), (11, .int l11)]) hx hb dX10_bitsOf_98 hl (by decide) rfl (fun ls hl => ?_)
      refine lv_dload hx hb dX10_bitsOf_100 (lv_at hl 2 rfl) ?_
      refine lv_lload hx hb dX10_bitsOf_102 (lv_at hl 0 rfl) ?_
      refine lv_l2d hx hb dX10_bitsOf_104 ?_
      obtain ⟨gd105, hm⟩ := k_gns hm
      refine lv_dsub hx hb dX10_bitsOf_105 (k_nns gd105) ?_
      refine lv_dstore (lv' := [(7, .double (FP.dsub l7 (FP.l2d t0))), (12, .long t0), (2, .int a2), (9, .long l9), (11, .int l11)]) hx hb dX10_bitsOf_106 hl (by decide) rfl (fun ls hl => ?_)
      refine lv_ldc2 hx hb hown (hts (.constantLong RX10 267 2) (by decide +kernel)) dX10_bitsOf_108 ?_
      refine lv_lload hx hb dX10_bitsOf_111 (lv_at hl 3 rfl) ?_
      refine lv_lmul hx hb dX10_bitsOf_113 ?_
      refine lv_lload hx hb dX10_bitsOf_114 (lv_at hl 1 rfl) ?_
      refine lv_ladd hx hb dX10_bitsOf_116 ?_
      refine lv_lstore (lv' := [(9, .long (((2) * l9) + t0)), (7, .double (FP.dsub l7 (FP.l2d t0))), (12, .long t0), (2, .int a2), (11, .int l11)]) hx hb dX10_bitsOf_117 hl (by decide) rfl (fun ls hl => ?_)
      refine lv_iinc (v := (l11 + 1)) (lv' := [(11, .int (l11 + 1)), (9, .long (((2) * l9) + t0)), (7, .double (FP.dsub l7 (FP.l2d t0))), (12, .long t0), (2, .int a2)]) hx hb dX10_bitsOf_119 hl (k := 4) rfl rfl (by decide) rfl (fun ls hl => ?_)
      refine lv_goto (tgt := 72) hx hb dX10_bitsOf_122 (by decide) ?_
      exact ih72 (FP.dsub l7 (FP.l2d t0)) (((2) * l9) + t0) (l11 + 1) _ _ hP hD hS _ (lv_sub hl [4, 2, 1, 0] rfl) hm
    intro l7 l9 l11 H locs hP hD hS ls hl hm
    unfold mX10_bitsOf_72 at hm
    refine lv_iload hx hb dX10_bitsOf_72 (lv_at hl 3 rfl) ?_
    refine lv_iload_n hx hb dX10_bitsOf_74 rfl (lv_at hl 0 rfl) ?_
    refine lv_icmp_ge (tgt := 125) hx hb dX10_bitsOf_75 (by decide) (fun cc75 => ?_) (fun cc75 => ?_)
    · have hm := k_ip cc75 hm
      refine lv_lload hx hb dX10_bitsOf_125 (lv_at hl 2 rfl) ?_
      cases hm
      exact k_end_l hx hb hr hlocks hK hP hD hS dX10_bitsOf_127
    · have hm := k_in cc75 hm
      refine lv_dload hx hb dX10_bitsOf_78 (lv_at hl 1 rfl) ?_
      refine lv_ldc2d hx hb hown (hts (.constantDouble RX10 265 4611686018427387904) (by decide +kernel)) dX10_bitsOf_80 ?_
      obtain ⟨gd83, hm⟩ := k_gns hm
      refine lv_dmul hx hb dX10_bitsOf_83 (k_nns gd83) ?_
      refine lv_dstore (lv' := [(7, .double (FP.dmul l7 4611686018427387904)), (2, .int a2), (9, .long l9), (11, .int l11)]) hx hb dX10_bitsOf_84 hl (by decide) rfl (fun ls hl => ?_)
      refine lv_dload hx hb dX10_bitsOf_86 (lv_at hl 0 rfl) ?_
      refine lv_dconst1 hx hb dX10_bitsOf_88 ?_
      refine lv_dcmp hx hb dX10_bitsOf_89 ?_
      refine lv_if_lt (tgt := 97) hx hb dX10_bitsOf_90 (by decide) (fun cc90 => ?_) (fun cc90 => ?_)
      · have hm := k_ip cc90 hm
        refine lv_lconst (v := 0) hx hb dX10_bitsOf_97 (by decide) ?_
        exact J_98 0 (FP.dmul l7 4611686018427387904) l9 l11 _ _ hP hD hS _ (lv_sub hl [1, 0, 2, 3] rfl) hm
      · have hm := k_in cc90 hm
        refine lv_lconst (v := 1) hx hb dX10_bitsOf_93 (by decide) ?_
        refine lv_goto (tgt := 98) hx hb dX10_bitsOf_94 (by decide) ?_
        exact J_98 1 (FP.dmul l7 4611686018427387904) l9 l11 _ _ hP hD hS _ (lv_sub hl [1, 0, 2, 3] rfl) hm) k_F
  have J_37 := k_loop (z := fun _ _ => none) (st := mX10_bitsOf_37 a0 a2 a3) (fun k37 : (UInt64) → (Int32) → Option (Int64) => ∀ (l4 : UInt64) (l6 : Int32) (H : Heap) (locs : List Loc), va_P D vwCl [] H → va_D A [] → va_S A z.heap H locs → ∀ ls : Array Slot, lv_has ls 14 [(2, .int a2), (4, .double l4), (6, .int l6)] → k37 l4 l6 = some (r) → W p l e rmX10_bitsOf z m ([.double a0, .int a2, .int a3] : List Value).toArray below meth c H locs 0 0 (k_Ql below ([.double a0, .int a2, .int a3] : List Value) D (kT cI cJ cC cG) z A [] r) (F0 m 37 ls [])) (by intros; rename_i h; cases h) (by
    intro k37 ih37
    intro l4 l6 H locs hP hD hS ls hl hm
    unfold mX10_bitsOf_37 at hm
    refine lv_dload hx hb dX10_bitsOf_37 (lv_at hl 1 rfl) ?_
    refine lv_dconst1 hx hb dX10_bitsOf_39 ?_
    refine lv_dcmp hx hb dX10_bitsOf_40 ?_
    refine lv_if_ge (tgt := 58) hx hb dX10_bitsOf_41 (by decide) (fun cc41 => ?_) (fun cc41 => ?_)
    · have hm := k_ip cc41 hm
      refine lv_dload hx hb dX10_bitsOf_58 (lv_at hl 1 rfl) ?_
      refine lv_dconst1 hx hb dX10_bitsOf_60 ?_
      obtain ⟨gd61, hm⟩ := k_gns hm
      refine lv_dsub hx hb dX10_bitsOf_61 (k_nns gd61) ?_
      refine lv_dstore (lv' := [(7, .double (FP.dsub l4 4607182418800017408)), (2, .int a2), (4, .double l4), (6, .int l6)]) hx hb dX10_bitsOf_62 hl (by decide) rfl (fun ls hl => ?_)
      refine lv_iload hx hb dX10_bitsOf_64 (lv_at hl 3 rfl) ?_
      refine lv_i2l (v := (Int32.toInt64 l6)) hx hb dX10_bitsOf_66 rfl ?_
      refine lv_lstore (lv' := [(9, .long (Int32.toInt64 l6)), (7, .double (FP.dsub l4 4607182418800017408)), (2, .int a2), (4, .double l4), (6, .int l6)]) hx hb dX10_bitsOf_67 hl (by decide) rfl (fun ls hl => ?_)
      refine lv_iconst (v := 0) hx hb dX10_bitsOf_69 (by decide) ?_
      refine lv_istore (lv' := [(11, .int 0), (9, .long (Int32.toInt64 l6)), (7, .double (FP.dsub l4 4607182418800017408)), (2, .int a2), (4, .double l4), (6, .int l6)]) hx hb dX10_bitsOf_70 hl (by decide) rfl (fun ls hl => ?_)
      exact J_72 (FP.dsub l4 4607182418800017408) (Int32.toInt64 l6) 0 _ _ hP hD hS _ (lv_sub hl [3, 2, 1, 0] rfl) hm
    · have hm := k_in cc41 hm
      refine lv_dload hx hb dX10_bitsOf_44 (lv_at hl 1 rfl) ?_
      refine lv_ldc2d hx hb hown (hts (.constantDouble RX10 265 4611686018427387904) (by decide +kernel)) dX10_bitsOf_46 ?_
      obtain ⟨gd49, hm⟩ := k_gns hm
      refine lv_dmul hx hb dX10_bitsOf_49 (k_nns gd49) ?_
      refine lv_dstore (lv' := [(4, .double (FP.dmul l4 4611686018427387904)), (2, .int a2), (6, .int l6)]) hx hb dX10_bitsOf_50 hl (by decide) rfl (fun ls hl => ?_)
      refine lv_iinc (v := (l6 + (-1))) (lv' := [(6, .int (l6 + (-1))), (4, .double (FP.dmul l4 4611686018427387904)), (2, .int a2)]) hx hb dX10_bitsOf_52 hl (k := 2) rfl rfl (by decide) rfl (fun ls hl => ?_)
      refine lv_goto (tgt := 37) hx hb dX10_bitsOf_55 (by decide) ?_
      exact ih37 (FP.dmul l4 4611686018427387904) (l6 + (-1)) _ _ hP hD hS _ (lv_sub hl [2, 1, 0] rfl) hm) k_F
  have J_14 := k_loop (z := fun _ _ => none) (st := mX10_bitsOf_14 a0 a2 a3) (fun k14 : (UInt64) → (Int32) → Option (Int64) => ∀ (l4 : UInt64) (l6 : Int32) (H : Heap) (locs : List Loc), va_P D vwCl [] H → va_D A [] → va_S A z.heap H locs → ∀ ls : Array Slot, lv_has ls 14 [(2, .int a2), (4, .double l4), (6, .int l6)] → k14 l4 l6 = some (r) → W p l e rmX10_bitsOf z m ([.double a0, .int a2, .int a3] : List Value).toArray below meth c H locs 0 0 (k_Ql below ([.double a0, .int a2, .int a3] : List Value) D (kT cI cJ cC cG) z A [] r) (F0 m 14 ls [])) (by intros; rename_i h; cases h) (by
    intro k14 ih14
    intro l4 l6 H locs hP hD hS ls hl hm
    unfold mX10_bitsOf_14 at hm
    refine lv_dload hx hb dX10_bitsOf_14 (lv_at hl 1 rfl) ?_
    refine lv_ldc2d hx hb hown (hts (.constantDouble RX10 265 4611686018427387904) (by decide +kernel)) dX10_bitsOf_16 ?_
    refine lv_dcmp hx hb dX10_bitsOf_19 ?_
    refine lv_if_lt (tgt := 37) hx hb dX10_bitsOf_20 (by decide) (fun cc20 => ?_) (fun cc20 => ?_)
    · have hm := k_ip cc20 hm
      exact J_37 l4 l6 _ _ hP hD hS _ (lv_sub hl [0, 1, 2] rfl) hm
    · have hm := k_in cc20 hm
      refine lv_dload hx hb dX10_bitsOf_23 (lv_at hl 1 rfl) ?_
      refine lv_ldc2d hx hb hown (hts (.constantDouble RX10 265 4611686018427387904) (by decide +kernel)) dX10_bitsOf_25 ?_
      obtain ⟨gd28, hm⟩ := k_gns hm
      refine lv_ddiv hx hb dX10_bitsOf_28 (k_nns gd28) ?_
      refine lv_dstore (lv' := [(4, .double (FP.ddiv l4 4611686018427387904)), (2, .int a2), (6, .int l6)]) hx hb dX10_bitsOf_29 hl (by decide) rfl (fun ls hl => ?_)
      refine lv_iinc (v := (l6 + 1)) (lv' := [(6, .int (l6 + 1)), (4, .double (FP.ddiv l4 4611686018427387904)), (2, .int a2)]) hx hb dX10_bitsOf_31 hl (k := 2) rfl rfl (by decide) rfl (fun ls hl => ?_)
      refine lv_goto (tgt := 14) hx hb dX10_bitsOf_34 (by decide) ?_
      exact ih14 (FP.ddiv l4 4611686018427387904) (l6 + 1) _ _ hP hD hS _ (lv_sub hl [2, 1, 0] rfl) hm) k_F
  unfold mX10_bitsOf at hm
  refine lv_dload_n hx hb dX10_bitsOf_0 rfl (lv_at hl 0 rfl) ?_
  refine lv_dconst0 hx hb dX10_bitsOf_1 ?_
  refine lv_dcmp hx hb dX10_bitsOf_2 ?_
  refine lv_if_ne (tgt := 8) hx hb dX10_bitsOf_3 (by decide) (fun cc3 => ?_) (fun cc3 => ?_)
  · have hm := k_in cc3 hm
    refine lv_dload_n hx hb dX10_bitsOf_8 rfl (lv_at hl 0 rfl) ?_
    refine lv_dstore (lv' := [(4, .double a0), (0, .double a0), (2, .int a2), (3, .int a3)]) hx hb dX10_bitsOf_9 hl (by decide) rfl (fun ls hl => ?_)
    refine lv_iload_n hx hb dX10_bitsOf_11 rfl (lv_at hl 3 rfl) ?_
    refine lv_istore (lv' := [(6, .int a3), (4, .double a0), (0, .double a0), (2, .int a2), (3, .int a3)]) hx hb dX10_bitsOf_12 hl (by decide) rfl (fun ls hl => ?_)
    exact J_14 a0 a3 _ _ hP hD hS _ (lv_sub hl [3, 1, 0] rfl) hm
  · have hm := k_ip cc3 hm
    refine lv_lconst (v := 0) hx hb dX10_bitsOf_6 (by decide) ?_
    cases hm
    exact k_end_l hx hb hr hlocks hK hP hD hS dX10_bitsOf_7

abbrev rmX10_mix : Room := { frames := 0, cells := 0, slots := 0, locals := 0 }
set_option maxHeartbeats 4000000 in
set_option maxRecDepth 100000 in
theorem zX10_mix {l : Launch} {D : va_G} {cI cJ cC cG : ClassId} {sz : Nat} {ad : Nat → Nat} {c_s : Nat → Int32} {c_before : Nat → Int32} {c_known : Int32} {c_kept : Nat → Int32} {c_isKept : Bool} {c_aside : Nat → Int32} {c_buffer : Nat → Int32} {c_length : Int32} {c_thrown : Int32} {c_laid : Nat → Int32} {c_spot : Int32} {c_isWrong : Bool} {c_isHalted : Bool} {c_mine : Nat → Int64} {c_theirs : Nat → Int64} {c_many : Int32} {c_from0 : Nat → Int64} {c_from1 : Nat → Int64} {c_dice : Nat → Int32} {c_hash : Int64} {a1 : Int64} {c_hash' : Int64} (hm : mX10_mix c_hash a1 = some (c_hash')) : k_Mv l yX10_mix wsX10_mix rmX10_mix D (kT cI cJ cC cG) sz ([.ref (ad 0), .long a1] : List Value) (wM cI cJ ad c_s c_before c_known c_kept c_isKept c_aside c_buffer c_length c_thrown c_laid c_spot c_isWrong c_isHalted c_mine c_theirs c_many c_from0 c_from1 c_dice c_hash) (wM cI cJ ad c_s c_before c_known c_kept c_isKept c_aside c_buffer c_length c_thrown c_laid c_spot c_isWrong c_isHalted c_mine c_theirs c_many c_from0 c_from1 c_dice c_hash') := by
  refine k_st_v (cc := cX10_mix) (maxL := 3) (by decide) rfl (Nat.le_of_ble_eq_true rfl) ?_
  intro p e z m below meth c A hx hb hr hml hts hown hlocks hsz hN hA hK hP hD hS ls hl
  have hown : z.vm.findClass RX10 = some m.cls := hown
  have hinX10 : ∀ w ∈ wsX100, w ∈ wsX10_mix := by decide +kernel
  have fl271 := hts (.fieldLink RX10 271 "MagpieRunsModel" "hash" "J") (by decide +kernel)
  have hl : lv_has ls 3 [(0, .ref (ad 0)), (1, .long a1)] := hl
  unfold mX10_mix at hm
  refine lv_aload_n hx hb dX10_mix_0 rfl (lv_at hl 0 rfl) ?_
  refine lv_ldc2 hx hb hown (hts (.constantLong RX10 269 31) (by decide +kernel)) dX10_mix_1 ?_
  refine lv_aload_n hx hb dX10_mix_4 rfl (lv_at hl 0 rfl) ?_
  refine va_get (D := D) (ci := 6) (v := .long c_hash) (C := RX10) (T := TX10) (N := 20) hx hb hts hinX10 hown hK hP 0 rfl rfl 19 (by decide) fl271 (fun _ h9 => h9) rfl dX10_mix_5 ?_
  refine lv_lmul hx hb dX10_mix_8 ?_
  refine lv_lload_n hx hb dX10_mix_9 rfl (lv_at hl 1 rfl) ?_
  refine lv_ladd hx hb dX10_mix_10 ?_
  refine va_put (D := D) (ci := 6) (v := .long (((31) * c_hash) + a1)) (ty := .long) (C := RX10) (T := TX10) (N := 20) hx hb hts hinX10 tyX10 tyX10_ok nmX10 hown hK hP hD hS 0 rfl rfl 19 (by decide) fl271 (fun _ h9 => h9) rfl (by decide +kernel) rfl rfl (Nat.le_of_ble_eq_true rfl) dX10_mix_11 (fun H locs hP hD hS => ?_)
  have hP : va_P D vwCl (wM cI cJ ad c_s c_before c_known c_kept c_isKept c_aside c_buffer c_length c_thrown c_laid c_spot c_isWrong c_isHalted c_mine c_theirs c_many c_from0 c_from1 c_dice (((31) * c_hash) + a1)) H := hP
  have hD : va_D A (wM cI cJ ad c_s c_before c_known c_kept c_isKept c_aside c_buffer c_length c_thrown c_laid c_spot c_isWrong c_isHalted c_mine c_theirs c_many c_from0 c_from1 c_dice (((31) * c_hash) + a1)) := hD
  cases hm
  exact k_end_v hx hb hr hlocks hK hP hD hS dX10_mix_14

abbrev rmX10_digest : Room := { frames := 9, cells := 0, slots := 0, locals := 216 }
set_option maxHeartbeats 4000000 in
set_option maxRecDepth 100000 in
theorem zX10_digest {l : Launch} {D : va_G} {cI cJ cC cG : ClassId} {sz : Nat} {ad : Nat → Nat} {c_s : Nat → Int32} {c_before : Nat → Int32} {c_known : Int32} {c_kept : Nat → Int32} {c_isKept : Bool} {c_aside : Nat → Int32} {c_buffer : Nat → Int32} {c_length : Int32} {c_thrown : Int32} {c_laid : Nat → Int32} {c_spot : Int32} {c_isWrong : Bool} {c_isHalted : Bool} {c_mine : Nat → Int64} {c_theirs : Nat → Int64} {c_many : Int32} {c_from0 : Nat → Int64} {c_from1 : Nat → Int64} {c_dice : Nat → Int32} {c_hash : Int64} {r : Int64} {c_s' : Nat → Int32} {c_aside' : Nat → Int32} {c_thrown' : Int32} {c_laid' : Nat → Int32} {c_mine' : Nat → Int64} {c_theirs' : Nat → Int64} {c_many' : Int32} {c_from0' : Nat → Int64} {c_from1' : Nat → Int64} {c_dice' : Nat → Int32} {c_hash' : Int64} (hm : mX10_digest c_s c_known c_aside c_buffer c_length c_thrown c_laid c_mine c_theirs c_many c_from0 c_from1 c_dice c_hash = some (r, c_s', c_aside', c_thrown', c_laid', c_mine', c_theirs', c_many', c_from0', c_from1', c_dice', c_hash')) : k_Ml l yX10_digest wsX10_digest rmX10_digest D (kT cI cJ cC cG) sz ([.ref (ad 0)] : List Value) (wM cI cJ ad c_s c_before c_known c_kept c_isKept c_aside c_buffer c_length c_thrown c_laid c_spot c_isWrong c_isHalted c_mine c_theirs c_many c_from0 c_from1 c_dice c_hash) (wM cI cJ ad c_s' c_before c_known c_kept c_isKept c_aside' c_buffer c_length c_thrown' c_laid' c_spot c_isWrong c_isHalted c_mine' c_theirs' c_many' c_from0' c_from1' c_dice' c_hash') r := by
  refine k_st_l (cc := cX10_digest) (maxL := 3) (by decide) rfl (Nat.le_of_ble_eq_true rfl) ?_
  intro p e z m below meth c A hx hb hr hml hts hown hlocks hsz hN hA hK hP hD hS ls hl
  have hown : z.vm.findClass RX10 = some m.cls := hown
  have hinX10 : ∀ w ∈ wsX100, w ∈ wsX10_digest := by decide +kernel
  have fl7 := hts (.fieldLink RX10 7 "MagpieRunsModel" "s" "[I") (by decide +kernel)
  have fl22 := hts (.fieldLink RX10 22 "MagpieRunsModel" "buffer" "[I") (by decide +kernel)
  have fl48 := hts (.fieldLink RX10 48 "MagpieRunsModel" "thrown" "I") (by decide +kernel)
  have fl56 := hts (.fieldLink RX10 56 "MagpieRunsModel" "known" "I") (by decide +kernel)
  have fl173 := hts (.fieldLink RX10 173 "MagpieRunsModel" "length" "I") (by decide +kernel)
  have fl271 := hts (.fieldLink RX10 271 "MagpieRunsModel" "hash" "J") (by decide +kernel)
  have hl : lv_has ls 3 [(0, .ref (ad 0))] := hl
  have J_387 := k_loop (z := fun _ _ _ _ _ _ _ _ _ _ _ _ => none) (st := mX10_digest_387 c_known c_buffer c_length) (fun k387 : (Int32) → (Nat → Int32) → (Nat → Int32) → (Int32) → (Nat → Int32) → (Nat → Int64) → (Nat → Int64) → (Int32) → (Nat → Int64) → (Nat → Int64) → (Nat → Int32) → (Int64) → Option (Int64 × (Nat → Int32) × (Nat → Int32) × (Int32) × (Nat → Int32) × (Nat → Int64) × (Nat → Int64) × (Int32) × (Nat → Int64) × (Nat → Int64) × (Nat → Int32) × (Int64)) => ∀ (l1 : Int32) (c_s : Nat → Int32) (c_aside : Nat → Int32) (c_thrown : Int32) (c_laid : Nat → Int32) (c_mine : Nat → Int64) (c_theirs : Nat → Int64) (c_many : Int32) (c_from0 : Nat → Int64) (c_from1 : Nat → Int64) (c_dice : Nat → Int32) (c_hash : Int64) (H : Heap) (locs : List Loc), va_P D vwCl (wM cI cJ ad c_s c_before c_known c_kept c_isKept c_aside c_buffer c_length c_thrown c_laid c_spot c_isWrong c_isHalted c_mine c_theirs c_many c_from0 c_from1 c_dice c_hash) H → va_D A (wM cI cJ ad c_s c_before c_known c_kept c_isKept c_aside c_buffer c_length c_thrown c_laid c_spot c_isWrong c_isHalted c_mine c_theirs c_many c_from0 c_from1 c_dice c_hash) → va_S A z.heap H locs → ∀ ls : Array Slot, lv_has ls 3 [(0, .ref (ad 0)), (1, .int l1)] → k387 l1 c_s c_aside c_thrown c_laid c_mine c_theirs c_many c_from0 c_from1 c_dice c_hash = some (r, c_s', c_aside', c_thrown', c_laid', c_mine', c_theirs', c_many', c_from0', c_from1', c_dice', c_hash') → W p l e rmX10_digest z m ([.ref (ad 0)] : List Value).toArray below meth c H locs 0 0 (k_Ql below ([.ref (ad 0)] : List Value) D (kT cI cJ cC cG) z A (wM cI cJ ad c_s' c_before c_known c_kept c_isKept c_aside' c_buffer c_length c_thrown' c_laid' c_spot c_isWrong c_isHalted c_mine' c_theirs' c_many' c_from0' c_from1' c_dice' c_hash') r) (F0 m 387 ls [])) (by intros; rename_i h; cases h) (by
    intro k387 ih387
    intro l1 c_s c_aside c_thrown c_laid c_mine c_theirs c_many c_from0 c_from1 c_dice c_hash H locs hP hD hS ls hl hm
    unfold mX10_digest_387 at hm
    refine lv_iload_n hx hb dX10_digest_387 rfl (lv_at hl 1 rfl) ?_
    refine lv_aload_n hx hb dX10_digest_388 rfl (lv_at hl 0 rfl) ?_
    refine va_get (D := D) (ci := 6) (v := .int c_length) (C := RX10) (T := TX10) (N := 20) hx hb hts hinX10 hown hK hP 0 rfl rfl 7 (by decide) fl173 (fun _ h9 => h9) rfl dX10_digest_389 ?_
    refine lv_icmp_ge (tgt := 412) hx hb dX10_digest_392 (by decide) (fun cc392 => ?_) (fun cc392 => ?_)
    · have hm := k_ip cc392 hm
      refine lv_aload_n hx hb dX10_digest_412 rfl (lv_at hl 0 rfl) ?_
      refine va_get (D := D) (ci := 6) (v := .long c_hash) (C := RX10) (T := TX10) (N := 20) hx hb hts hinX10 hown hK hP 0 rfl rfl 19 (by decide) fl271 (fun _ h9 => h9) rfl dX10_digest_413 ?_
      cases hm
      exact k_end_l hx hb hr hlocks hK hP hD hS dX10_digest_416
    · have hm := k_in cc392 hm
      refine lv_aload_n hx hb dX10_digest_395 rfl (lv_at hl 0 rfl) ?_
      refine lv_aload_n hx hb dX10_digest_396 rfl (lv_at hl 0 rfl) ?_
      refine va_get (D := D) (ci := 6) (v := .ref (ad 5)) (C := RX10) (T := TX10) (N := 20) hx hb hts hinX10 hown hK hP 0 rfl rfl 6 (by decide) fl22 (fun _ h9 => h9) rfl dX10_digest_397 ?_
      refine lv_iload_n hx hb dX10_digest_400 rfl (lv_at hl 1 rfl) ?_
      obtain ⟨gi401, hm⟩ := k_gs hm
      refine va_iald hx hb hK hP 5 0 rfl rfl gi401 dX10_digest_401 ?_
      refine lv_i2l (v := (Int32.toInt64 (c_buffer (Int32.toNatClampNeg l1)))) hx hb dX10_digest_402 rfl ?_
      obtain ⟨w1, hc403, hm⟩ := k_bds hm
      refine k_v_s (k_rV (As := [.long (Int32.toInt64 (c_buffer (Int32.toNatClampNeg l1)))]) (rest := []) ⟨hx, hb, hml, hown, hts⟩ hK hN hP hD (zX10_mix hc403) (cwV 1 hts gX10_digest_X10_mix rfl rfl rfl (by decide +kernel) ⟨Nat.le_of_ble_eq_true rfl, Nat.le_of_ble_eq_true rfl⟩) rfl rfl rfl hl.1 rfl (Nat.le_of_ble_eq_true rfl) dX10_digest_403 ⟨Nat.zero_le _, Nat.zero_le _⟩) hD hS hA (fun H locs hP hD hS => ?_)
      refine lv_iinc (v := (l1 + 1)) (lv' := [(1, .int (l1 + 1)), (0, .ref (ad 0))]) hx hb dX10_digest_406 hl (k := 1) rfl rfl (by decide) rfl (fun ls hl => ?_)
      refine lv_goto (tgt := 387) hx hb dX10_digest_409 (by decide) ?_
      exact ih387 (l1 + 1) c_s c_aside c_thrown c_laid c_mine c_theirs c_many c_from0 c_from1 c_dice w1 _ _ hP hD hS _ (lv_sub hl [1, 0] rfl) hm) k_F
  have J_360 : ∀ (c_s : Nat → Int32) (c_aside : Nat → Int32) (c_thrown : Int32) (c_laid : Nat → Int32) (c_mine : Nat → Int64) (c_theirs : Nat → Int64) (c_many : Int32) (c_from0 : Nat → Int64) (c_from1 : Nat → Int64) (c_dice : Nat → Int32) (c_hash : Int64) (H : Heap) (locs : List Loc), va_P D vwCl (wM cI cJ ad c_s c_before c_known c_kept c_isKept c_aside c_buffer c_length c_thrown c_laid c_spot c_isWrong c_isHalted c_mine c_theirs c_many c_from0 c_from1 c_dice c_hash) H → va_D A (wM cI cJ ad c_s c_before c_known c_kept c_isKept c_aside c_buffer c_length c_thrown c_laid c_spot c_isWrong c_isHalted c_mine c_theirs c_many c_from0 c_from1 c_dice c_hash) → va_S A z.heap H locs → ∀ ls : Array Slot, lv_has ls 3 [(0, .ref (ad 0))] → mX10_digest_360 c_known c_buffer c_length c_s c_aside c_thrown c_laid c_mine c_theirs c_many c_from0 c_from1 c_dice c_hash = some (r, c_s', c_aside', c_thrown', c_laid', c_mine', c_theirs', c_many', c_from0', c_from1', c_dice', c_hash') → W p l e rmX10_digest z m ([.ref (ad 0)] : List Value).toArray below meth c H locs 0 0 (k_Ql below ([.ref (ad 0)] : List Value) D (kT cI cJ cC cG) z A (wM cI cJ ad c_s' c_before c_known c_kept c_isKept c_aside' c_buffer c_length c_thrown' c_laid' c_spot c_isWrong c_isHalted c_mine' c_theirs' c_many' c_from0' c_from1' c_dice' c_hash') r) (F0 m 360 ls []) := by
    intro c_s c_aside c_thrown c_laid c_mine c_theirs c_many c_from0 c_from1 c_dice c_hash H locs hP hD hS ls hl hm
    unfold mX10_digest_360 at hm
    refine lv_aload_n hx hb dX10_digest_360 rfl (lv_at hl 0 rfl) ?_
    refine lv_aload_n hx hb dX10_digest_361 rfl (lv_at hl 0 rfl) ?_
    obtain ⟨r2, hc362, hm⟩ := k_bds hm
    refine k_d_s (k_rV (As := []) (rest := [.ref (ad 0)]) ⟨hx, hb, hml, hown, hts⟩ hK hN hP hD (zX10_leading hc362) (cwV 0 hts gX10_digest_X10_leading rfl rfl rfl (by decide +kernel) ⟨Nat.le_of_ble_eq_true rfl, Nat.le_of_ble_eq_true rfl⟩) rfl rfl rfl hl.1 rfl (Nat.le_of_ble_eq_true rfl) dX10_digest_362 ⟨Nat.zero_le _, Nat.zero_le _⟩) hD hS hA (fun H locs hP hD hS => ?_)
    refine lv_bipush (v := 52) hx hb dX10_digest_365 (by decide) ?_
    refine lv_sipush (v := 1023) hx hb dX10_digest_367 (by decide) ?_
    obtain ⟨r3, hc370, hm⟩ := k_bds hm
    refine k_l_0 (k_rS (As := [.double r2, .int 52, .int 1023]) (rest := [.ref (ad 0)]) ⟨hx, hb, hml, hown, hts⟩ hK hN k_P0 (k_D0 (A := A)) (zX10_bitsOf hc370) (va_cwS 3 hts gX10_digest_X10_bitsOf rfl rfl rfl (by decide +kernel) ⟨Nat.le_of_ble_eq_true rfl, Nat.le_of_ble_eq_true rfl⟩) rfl hl.1 rfl (Nat.le_of_ble_eq_true rfl) dX10_digest_370 ⟨Nat.zero_le _, Nat.zero_le _⟩) hP hS hA (fun H locs hP hS => ?_)
    obtain ⟨w4, hc373, hm⟩ := k_bds hm
    refine k_v_s (k_rV (As := [.long r3]) (rest := []) ⟨hx, hb, hml, hown, hts⟩ hK hN hP hD (zX10_mix hc373) (cwV 1 hts gX10_digest_X10_mix rfl rfl rfl (by decide +kernel) ⟨Nat.le_of_ble_eq_true rfl, Nat.le_of_ble_eq_true rfl⟩) rfl rfl rfl hl.1 rfl (Nat.le_of_ble_eq_true rfl) dX10_digest_373 ⟨Nat.zero_le _, Nat.zero_le _⟩) hD hS hA (fun H locs hP hD hS => ?_)
    refine lv_aload_n hx hb dX10_digest_376 rfl (lv_at hl 0 rfl) ?_
    refine lv_aload_n hx hb dX10_digest_377 rfl (lv_at hl 0 rfl) ?_
    refine va_get (D := D) (ci := 6) (v := .int c_length) (C := RX10) (T := TX10) (N := 20) hx hb hts hinX10 hown hK hP 0 rfl rfl 7 (by decide) fl173 (fun _ h9 => h9) rfl dX10_digest_378 ?_
    refine lv_i2l (v := (Int32.toInt64 c_length)) hx hb dX10_digest_381 rfl ?_
    obtain ⟨w5, hc382, hm⟩ := k_bds hm
    refine k_v_s (k_rV (As := [.long (Int32.toInt64 c_length)]) (rest := []) ⟨hx, hb, hml, hown, hts⟩ hK hN hP hD (zX10_mix hc382) (cwV 1 hts gX10_digest_X10_mix rfl rfl rfl (by decide +kernel) ⟨Nat.le_of_ble_eq_true rfl, Nat.le_of_ble_eq_true rfl⟩) rfl rfl rfl hl.1 rfl (Nat.le_of_ble_eq_true rfl) dX10_digest_382 ⟨Nat.zero_le _, Nat.zero_le _⟩) hD hS hA (fun H locs hP hD hS => ?_)
    refine lv_iconst (v := 0) hx hb dX10_digest_385 (by decide) ?_
    refine lv_istore_n (lv' := [(1, .int 0), (0, .ref (ad 0))]) hx hb dX10_digest_386 rfl hl (by decide) rfl (fun ls hl => ?_)
    exact J_387 0 c_s c_aside c_thrown c_laid c_mine c_theirs c_many c_from0 c_from1 c_dice w5 _ _ hP hD hS _ (lv_sub hl [1, 0] rfl) hm
  have J_293 := k_loop (z := fun _ _ _ _ _ _ _ _ _ _ _ _ => none) (st := mX10_digest_293 c_known c_buffer c_length) (fun k293 : (Int32) → (Nat → Int32) → (Nat → Int32) → (Int32) → (Nat → Int32) → (Nat → Int64) → (Nat → Int64) → (Int32) → (Nat → Int64) → (Nat → Int64) → (Nat → Int32) → (Int64) → Option (Int64 × (Nat → Int32) × (Nat → Int32) × (Int32) × (Nat → Int32) × (Nat → Int64) × (Nat → Int64) × (Int32) × (Nat → Int64) × (Nat → Int64) × (Nat → Int32) × (Int64)) => ∀ (l1 : Int32) (c_s : Nat → Int32) (c_aside : Nat → Int32) (c_thrown : Int32) (c_laid : Nat → Int32) (c_mine : Nat → Int64) (c_theirs : Nat → Int64) (c_many : Int32) (c_from0 : Nat → Int64) (c_from1 : Nat → Int64) (c_dice : Nat → Int32) (c_hash : Int64) (H : Heap) (locs : List Loc), va_P D vwCl (wM cI cJ ad c_s c_before c_known c_kept c_isKept c_aside c_buffer c_length c_thrown c_laid c_spot c_isWrong c_isHalted c_mine c_theirs c_many c_from0 c_from1 c_dice c_hash) H → va_D A (wM cI cJ ad c_s c_before c_known c_kept c_isKept c_aside c_buffer c_length c_thrown c_laid c_spot c_isWrong c_isHalted c_mine c_theirs c_many c_from0 c_from1 c_dice c_hash) → va_S A z.heap H locs → ∀ ls : Array Slot, lv_has ls 3 [(0, .ref (ad 0)), (1, .int l1)] → k293 l1 c_s c_aside c_thrown c_laid c_mine c_theirs c_many c_from0 c_from1 c_dice c_hash = some (r, c_s', c_aside', c_thrown', c_laid', c_mine', c_theirs', c_many', c_from0', c_from1', c_dice', c_hash') → W p l e rmX10_digest z m ([.ref (ad 0)] : List Value).toArray below meth c H locs 0 0 (k_Ql below ([.ref (ad 0)] : List Value) D (kT cI cJ cC cG) z A (wM cI cJ ad c_s' c_before c_known c_kept c_isKept c_aside' c_buffer c_length c_thrown' c_laid' c_spot c_isWrong c_isHalted c_mine' c_theirs' c_many' c_from0' c_from1' c_dice' c_hash') r) (F0 m 293 ls [])) (by intros; rename_i h; cases h) (by
    intro k293 ih293
    intro l1 c_s c_aside c_thrown c_laid c_mine c_theirs c_many c_from0 c_from1 c_dice c_hash H locs hP hD hS ls hl hm
    unfold mX10_digest_293 at hm
    refine lv_iload_n hx hb dX10_digest_293 rfl (lv_at hl 1 rfl) ?_
    refine lv_bipush (v := 16) hx hb dX10_digest_294 (by decide) ?_
    refine lv_icmp_ge (tgt := 325) hx hb dX10_digest_296 (by decide) (fun cc296 => ?_) (fun cc296 => ?_)
    · have hm := k_ip cc296 hm
      refine lv_aload_n hx hb dX10_digest_325 rfl (lv_at hl 0 rfl) ?_
      refine lv_aload_n hx hb dX10_digest_326 rfl (lv_at hl 0 rfl) ?_
      refine va_get (D := D) (ci := 6) (v := .ref (ad 1)) (C := RX10) (T := TX10) (N := 20) hx hb hts hinX10 hown hK hP 0 rfl rfl 0 (by decide) fl7 (fun _ h9 => h9) rfl dX10_digest_327 ?_
      refine lv_bipush (v := 49) hx hb dX10_digest_330 (by decide) ?_
      refine k_iaC hx hb hK hP 1 0 rfl rfl kl_49 ki_49_51 dX10_digest_332 ?_
      refine lv_i2l (v := (Int32.toInt64 (c_s 49))) hx hb dX10_digest_333 rfl ?_
      obtain ⟨w6, hc334, hm⟩ := k_bds hm
      refine k_v_s (k_rV (As := [.long (Int32.toInt64 (c_s 49))]) (rest := []) ⟨hx, hb, hml, hown, hts⟩ hK hN hP hD (zX10_mix hc334) (cwV 1 hts gX10_digest_X10_mix rfl rfl rfl (by decide +kernel) ⟨Nat.le_of_ble_eq_true rfl, Nat.le_of_ble_eq_true rfl⟩) rfl rfl rfl hl.1 rfl (Nat.le_of_ble_eq_true rfl) dX10_digest_334 ⟨Nat.zero_le _, Nat.zero_le _⟩) hD hS hA (fun H locs hP hD hS => ?_)
      refine lv_aload_n hx hb dX10_digest_337 rfl (lv_at hl 0 rfl) ?_
      refine va_get (D := D) (ci := 6) (v := .ref (ad 1)) (C := RX10) (T := TX10) (N := 20) hx hb hts hinX10 hown hK hP 0 rfl rfl 0 (by decide) fl7 (fun _ h9 => h9) rfl dX10_digest_338 ?_
      refine lv_bipush (v := 49) hx hb dX10_digest_341 (by decide) ?_
      refine k_iaC hx hb hK hP 1 0 rfl rfl kl_49 ki_49_51 dX10_digest_343 ?_
      refine lv_iconst (v := 1) hx hb dX10_digest_344 (by decide) ?_
      refine lv_icmp_ne (tgt := 360) hx hb dX10_digest_345 (by decide) (fun cc345 => ?_) (fun cc345 => ?_)
      · have hm := k_in cc345 hm
        exact J_360 c_s c_aside c_thrown c_laid c_mine c_theirs c_many c_from0 c_from1 c_dice w6 _ _ hP hD hS _ (lv_sub hl [0] rfl) hm
      · have hm := k_ip cc345 hm
        refine lv_aload_n hx hb dX10_digest_348 rfl (lv_at hl 0 rfl) ?_
        refine lv_aload_n hx hb dX10_digest_349 rfl (lv_at hl 0 rfl) ?_
        refine va_get (D := D) (ci := 6) (v := .ref (ad 1)) (C := RX10) (T := TX10) (N := 20) hx hb hts hinX10 hown hK hP 0 rfl rfl 0 (by decide) fl7 (fun _ h9 => h9) rfl dX10_digest_350 ?_
        refine lv_bipush (v := 50) hx hb dX10_digest_353 (by decide) ?_
        refine k_iaC hx hb hK hP 1 0 rfl rfl kl_50 ki_50_51 dX10_digest_355 ?_
        refine lv_i2l (v := (Int32.toInt64 (c_s 50))) hx hb dX10_digest_356 rfl ?_
        obtain ⟨w7, hc357, hm⟩ := k_bds hm
        refine k_v_s (k_rV (As := [.long (Int32.toInt64 (c_s 50))]) (rest := []) ⟨hx, hb, hml, hown, hts⟩ hK hN hP hD (zX10_mix hc357) (cwV 1 hts gX10_digest_X10_mix rfl rfl rfl (by decide +kernel) ⟨Nat.le_of_ble_eq_true rfl, Nat.le_of_ble_eq_true rfl⟩) rfl rfl rfl hl.1 rfl (Nat.le_of_ble_eq_true rfl) dX10_digest_357 ⟨Nat.zero_le _, Nat.zero_le _⟩) hD hS hA (fun H locs hP hD hS => ?_)
        exact J_360 c_s c_aside c_thrown c_laid c_mine c_theirs c_many c_from0 c_from1 c_dice w7 _ _ hP hD hS _ (lv_sub hl [0] rfl) hm
    · have hm := k_in cc296 hm
      refine lv_aload_n hx hb dX10_digest_299 rfl (lv_at hl 0 rfl) ?_
      refine lv_aload_n hx hb dX10_digest_300 rfl (lv_at hl 0 rfl) ?_
      refine lv_iload_n hx hb dX10_digest_301 rfl (lv_at hl 1 rfl) ?_
      obtain ⟨r8, w9, w10, hc302, hm⟩ := k_bd3s hm
      refine k_i_s (k_rV (As := [.int l1]) (rest := [.ref (ad 0)]) ⟨hx, hb, hml, hown, hts⟩ hK hN hP hD (zX10_shotsAt hc302) (cwV 1 hts gX10_digest_X10_shotsAt rfl rfl rfl (by decide +kernel) ⟨Nat.le_of_ble_eq_true rfl, Nat.le_of_ble_eq_true rfl⟩) rfl rfl rfl hl.1 rfl (Nat.le_of_ble_eq_true rfl) dX10_digest_302 ⟨Nat.zero_le _, Nat.zero_le _⟩) hD hS hA (fun H locs hP hD hS => ?_)
      refine lv_i2l (v := (Int32.toInt64 r8)) hx hb dX10_digest_305 rfl ?_
      obtain ⟨w11, hc306, hm⟩ := k_bds hm
      refine k_v_s (k_rV (As := [.long (Int32.toInt64 r8)]) (rest := []) ⟨hx, hb, hml, hown, hts⟩ hK hN hP hD (zX10_mix hc306) (cwV 1 hts gX10_digest_X10_mix rfl rfl rfl (by decide +kernel) ⟨Nat.le_of_ble_eq_true rfl, Nat.le_of_ble_eq_true rfl⟩) rfl rfl rfl hl.1 rfl (Nat.le_of_ble_eq_true rfl) dX10_digest_306 ⟨Nat.zero_le _, Nat.zero_le _⟩) hD hS hA (fun H locs hP hD hS => ?_)
      refine lv_aload_n hx hb dX10_digest_309 rfl (lv_at hl 0 rfl) ?_
      refine lv_aload_n hx hb dX10_digest_310 rfl (lv_at hl 0 rfl) ?_
      refine lv_iload_n hx hb dX10_digest_311 rfl (lv_at hl 1 rfl) ?_
      obtain ⟨r12, w13, w14, hc312, hm⟩ := k_bd3s hm
      refine k_i_s (k_rV (As := [.int l1]) (rest := [.ref (ad 0)]) ⟨hx, hb, hml, hown, hts⟩ hK hN hP hD (zX10_shotsAt hc312) (cwV 1 hts gX10_digest_X10_shotsAt rfl rfl rfl (by decide +kernel) ⟨Nat.le_of_ble_eq_true rfl, Nat.le_of_ble_eq_true rfl⟩) rfl rfl rfl hl.1 rfl (Nat.le_of_ble_eq_true rfl) dX10_digest_312 ⟨Nat.zero_le _, Nat.zero_le _⟩) hD hS hA (fun H locs hP hD hS => ?_)
      refine lv_i2l (v := (Int32.toInt64 r12)) hx hb dX10_digest_315 rfl ?_
      obtain ⟨w15, hc316, hm⟩ := k_bds hm
      refine k_v_s (k_rV (As := [.long (Int32.toInt64 r12)]) (rest := []) ⟨hx, hb, hml, hown, hts⟩ hK hN hP hD (zX10_mix hc316) (cwV 1 hts gX10_digest_X10_mix rfl rfl rfl (by decide +kernel) ⟨Nat.le_of_ble_eq_true rfl, Nat.le_of_ble_eq_true rfl⟩) rfl rfl rfl hl.1 rfl (Nat.le_of_ble_eq_true rfl) dX10_digest_316 ⟨Nat.zero_le _, Nat.zero_le _⟩) hD hS hA (fun H locs hP hD hS => ?_)
      refine lv_iinc (v := (l1 + 1)) (lv' := [(1, .int (l1 + 1)), (0, .ref (ad 0))]) hx hb dX10_digest_319 hl (k := 1) rfl rfl (by decide) rfl (fun ls hl => ?_)
      refine lv_goto (tgt := 293) hx hb dX10_digest_322 (by decide) ?_
      exact ih293 (l1 + 1) w13 c_aside c_thrown w14 c_mine c_theirs c_many c_from0 c_from1 c_dice w15 _ _ hP hD hS _ (lv_sub hl [1, 0] rfl) hm) k_F
  have J_164 := k_loop (z := fun _ _ _ _ _ _ _ _ _ _ _ _ => none) (st := mX10_digest_164 c_known c_buffer c_length) (fun k164 : (Int32) → (Nat → Int32) → (Nat → Int32) → (Int32) → (Nat → Int32) → (Nat → Int64) → (Nat → Int64) → (Int32) → (Nat → Int64) → (Nat → Int64) → (Nat → Int32) → (Int64) → Option (Int64 × (Nat → Int32) × (Nat → Int32) × (Int32) × (Nat → Int32) × (Nat → Int64) × (Nat → Int64) × (Int32) × (Nat → Int64) × (Nat → Int64) × (Nat → Int32) × (Int64)) => ∀ (l1 : Int32) (c_s : Nat → Int32) (c_aside : Nat → Int32) (c_thrown : Int32) (c_laid : Nat → Int32) (c_mine : Nat → Int64) (c_theirs : Nat → Int64) (c_many : Int32) (c_from0 : Nat → Int64) (c_from1 : Nat → Int64) (c_dice : Nat → Int32) (c_hash : Int64) (H : Heap) (locs : List Loc), va_P D vwCl (wM cI cJ ad c_s c_before c_known c_kept c_isKept c_aside c_buffer c_length c_thrown c_laid c_spot c_isWrong c_isHalted c_mine c_theirs c_many c_from0 c_from1 c_dice c_hash) H → va_D A (wM cI cJ ad c_s c_before c_known c_kept c_isKept c_aside c_buffer c_length c_thrown c_laid c_spot c_isWrong c_isHalted c_mine c_theirs c_many c_from0 c_from1 c_dice c_hash) → va_S A z.heap H locs → ∀ ls : Array Slot, lv_has ls 3 [(0, .ref (ad 0)), (1, .int l1)] → k164 l1 c_s c_aside c_thrown c_laid c_mine c_theirs c_many c_from0 c_from1 c_dice c_hash = some (r, c_s', c_aside', c_thrown', c_laid', c_mine', c_theirs', c_many', c_from0', c_from1', c_dice', c_hash') → W p l e rmX10_digest z m ([.ref (ad 0)] : List Value).toArray below meth c H locs 0 0 (k_Ql below ([.ref (ad 0)] : List Value) D (kT cI cJ cC cG) z A (wM cI cJ ad c_s' c_before c_known c_kept c_isKept c_aside' c_buffer c_length c_thrown' c_laid' c_spot c_isWrong c_isHalted c_mine' c_theirs' c_many' c_from0' c_from1' c_dice' c_hash') r) (F0 m 164 ls [])) (by intros; rename_i h; cases h) (by
    intro k164 ih164
    have J_262 := k_loop (z := fun _ _ _ _ _ _ _ _ _ _ _ _ _ => none) (st := mX10_digest_262 c_known c_buffer c_length k164) (fun k262 : (Int32) → (Int32) → (Nat → Int32) → (Nat → Int32) → (Int32) → (Nat → Int32) → (Nat → Int64) → (Nat → Int64) → (Int32) → (Nat → Int64) → (Nat → Int64) → (Nat → Int32) → (Int64) → Option (Int64 × (Nat → Int32) × (Nat → Int32) × (Int32) × (Nat → Int32) × (Nat → Int64) × (Nat → Int64) × (Int32) × (Nat → Int64) × (Nat → Int64) × (Nat → Int32) × (Int64)) => ∀ (l1 : Int32) (l2 : Int32) (c_s : Nat → Int32) (c_aside : Nat → Int32) (c_thrown : Int32) (c_laid : Nat → Int32) (c_mine : Nat → Int64) (c_theirs : Nat → Int64) (c_many : Int32) (c_from0 : Nat → Int64) (c_from1 : Nat → Int64) (c_dice : Nat → Int32) (c_hash : Int64) (H : Heap) (locs : List Loc), va_P D vwCl (wM cI cJ ad c_s c_before c_known c_kept c_isKept c_aside c_buffer c_length c_thrown c_laid c_spot c_isWrong c_isHalted c_mine c_theirs c_many c_from0 c_from1 c_dice c_hash) H → va_D A (wM cI cJ ad c_s c_before c_known c_kept c_isKept c_aside c_buffer c_length c_thrown c_laid c_spot c_isWrong c_isHalted c_mine c_theirs c_many c_from0 c_from1 c_dice c_hash) → va_S A z.heap H locs → ∀ ls : Array Slot, lv_has ls 3 [(0, .ref (ad 0)), (1, .int l1), (2, .int l2)] → k262 l1 l2 c_s c_aside c_thrown c_laid c_mine c_theirs c_many c_from0 c_from1 c_dice c_hash = some (r, c_s', c_aside', c_thrown', c_laid', c_mine', c_theirs', c_many', c_from0', c_from1', c_dice', c_hash') → W p l e rmX10_digest z m ([.ref (ad 0)] : List Value).toArray below meth c H locs 0 0 (k_Ql below ([.ref (ad 0)] : List Value) D (kT cI cJ cC cG) z A (wM cI cJ ad c_s' c_before c_known c_kept c_isKept c_aside' c_buffer c_length c_thrown' c_laid' c_spot c_isWrong c_isHalted c_mine' c_theirs' c_many' c_from0' c_from1' c_dice' c_hash') r) (F0 m 262 ls [])) (by intros; rename_i h; cases h) (by
      intro k262 ih262
      intro l1 l2 c_s c_aside c_thrown c_laid c_mine c_theirs c_many c_from0 c_from1 c_dice c_hash H locs hP hD hS ls hl hm
      unfold mX10_digest_262 at hm
      refine lv_iload_n hx hb dX10_digest_262 rfl (lv_at hl 2 rfl) ?_
      refine lv_bipush (v := 16) hx hb dX10_digest_263 (by decide) ?_
      refine lv_icmp_ge (tgt := 285) hx hb dX10_digest_265 (by decide) (fun cc265 => ?_) (fun cc265 => ?_)
      · have hm := k_ip cc265 hm
        refine lv_iinc (v := (l1 + 1)) (lv' := [(1, .int (l1 + 1)), (0, .ref (ad 0)), (2, .int l2)]) hx hb dX10_digest_285 hl (k := 1) rfl rfl (by decide) rfl (fun ls hl => ?_)
        refine lv_goto (tgt := 164) hx hb dX10_digest_288 (by decide) ?_
        exact ih164 (l1 + 1) c_s c_aside c_thrown c_laid c_mine c_theirs c_many c_from0 c_from1 c_dice c_hash _ _ hP hD hS _ (lv_sub hl [1, 0] rfl) hm
      · have hm := k_in cc265 hm
        refine lv_aload_n hx hb dX10_digest_268 rfl (lv_at hl 0 rfl) ?_
        refine lv_aload_n hx hb dX10_digest_269 rfl (lv_at hl 0 rfl) ?_
        refine lv_iload_n hx hb dX10_digest_270 rfl (lv_at hl 1 rfl) ?_
        refine lv_iload_n hx hb dX10_digest_271 rfl (lv_at hl 2 rfl) ?_
        obtain ⟨r16, hc272, hm⟩ := k_bds hm
        refine k_i_s (k_rV (As := [.int l1, .int l2]) (rest := [.ref (ad 0)]) ⟨hx, hb, hml, hown, hts⟩ hK hN hP hD (zX10_at hc272) (cwV 2 hts gX10_digest_X10_at rfl rfl rfl (by decide +kernel) ⟨Nat.le_of_ble_eq_true rfl, Nat.le_of_ble_eq_true rfl⟩) rfl rfl rfl hl.1 rfl (Nat.le_of_ble_eq_true rfl) dX10_digest_272 ⟨Nat.zero_le _, Nat.zero_le _⟩) hD hS hA (fun H locs hP hD hS => ?_)
        refine lv_i2l (v := (Int32.toInt64 r16)) hx hb dX10_digest_275 rfl ?_
        obtain ⟨w17, hc276, hm⟩ := k_bds hm
        refine k_v_s (k_rV (As := [.long (Int32.toInt64 r16)]) (rest := []) ⟨hx, hb, hml, hown, hts⟩ hK hN hP hD (zX10_mix hc276) (cwV 1 hts gX10_digest_X10_mix rfl rfl rfl (by decide +kernel) ⟨Nat.le_of_ble_eq_true rfl, Nat.le_of_ble_eq_true rfl⟩) rfl rfl rfl hl.1 rfl (Nat.le_of_ble_eq_true rfl) dX10_digest_276 ⟨Nat.zero_le _, Nat.zero_le _⟩) hD hS hA (fun H locs hP hD hS => ?_)
        refine lv_iinc (v := (l2 + 1)) (lv' := [(2, .int (l2 + 1)), (0, .ref (ad 0)), (1, .int l1)]) hx hb dX10_digest_279 hl (k := 2) rfl rfl (by decide) rfl (fun ls hl => ?_)
        refine lv_goto (tgt := 262) hx hb dX10_digest_282 (by decide) ?_
        exact ih262 l1 (l2 + 1) c_s c_aside c_thrown c_laid c_mine c_theirs c_many c_from0 c_from1 c_dice w17 _ _ hP hD hS _ (lv_sub hl [1, 2, 0] rfl) hm) k_F
    intro l1 c_s c_aside c_thrown c_laid c_mine c_theirs c_many c_from0 c_from1 c_dice c_hash H locs hP hD hS ls hl hm
    unfold mX10_digest_164 at hm
    refine lv_iload_n hx hb dX10_digest_164 rfl (lv_at hl 1 rfl) ?_
    refine lv_iconst (v := 2) hx hb dX10_digest_165 (by decide) ?_
    refine lv_icmp_ge (tgt := 291) hx hb dX10_digest_166 (by decide) (fun cc166 => ?_) (fun cc166 => ?_)
    · have hm := k_ip cc166 hm
      refine lv_iconst (v := 0) hx hb dX10_digest_291 (by decide) ?_
      refine lv_istore_n (lv' := [(1, .int 0), (0, .ref (ad 0))]) hx hb dX10_digest_292 rfl hl (by decide) rfl (fun ls hl => ?_)
      exact J_293 0 c_s c_aside c_thrown c_laid c_mine c_theirs c_many c_from0 c_from1 c_dice c_hash _ _ hP hD hS _ (lv_sub hl [1, 0] rfl) hm
    · have hm := k_in cc166 hm
      refine lv_aload_n hx hb dX10_digest_169 rfl (lv_at hl 0 rfl) ?_
      refine lv_aload_n hx hb dX10_digest_170 rfl (lv_at hl 0 rfl) ?_
      refine lv_iload_n hx hb dX10_digest_171 rfl (lv_at hl 1 rfl) ?_
      refine lv_iconst (v := (-1)) hx hb dX10_digest_172 (by decide) ?_
      obtain ⟨r18, hc173, hm⟩ := k_bds hm
      refine k_i_s (k_rV (As := [.int l1, .int (-1)]) (rest := [.ref (ad 0)]) ⟨hx, hb, hml, hown, hts⟩ hK hN hP hD (zX10_at hc173) (cwV 2 hts gX10_digest_X10_at rfl rfl rfl (by decide +kernel) ⟨Nat.le_of_ble_eq_true rfl, Nat.le_of_ble_eq_true rfl⟩) rfl rfl rfl hl.1 rfl (Nat.le_of_ble_eq_true rfl) dX10_digest_173 ⟨Nat.zero_le _, Nat.zero_le _⟩) hD hS hA (fun H locs hP hD hS => ?_)
      refine lv_i2l (v := (Int32.toInt64 r18)) hx hb dX10_digest_176 rfl ?_
      obtain ⟨w19, hc177, hm⟩ := k_bds hm
      refine k_v_s (k_rV (As := [.long (Int32.toInt64 r18)]) (rest := []) ⟨hx, hb, hml, hown, hts⟩ hK hN hP hD (zX10_mix hc177) (cwV 1 hts gX10_digest_X10_mix rfl rfl rfl (by decide +kernel) ⟨Nat.le_of_ble_eq_true rfl, Nat.le_of_ble_eq_true rfl⟩) rfl rfl rfl hl.1 rfl (Nat.le_of_ble_eq_true rfl) dX10_digest_177 ⟨Nat.zero_le _, Nat.zero_le _⟩) hD hS hA (fun H locs hP hD hS => ?_)
      refine lv_aload_n hx hb dX10_digest_180 rfl (lv_at hl 0 rfl) ?_
      refine lv_aload_n hx hb dX10_digest_181 rfl (lv_at hl 0 rfl) ?_
      refine lv_iload_n hx hb dX10_digest_182 rfl (lv_at hl 1 rfl) ?_
      refine lv_bipush (v := 16) hx hb dX10_digest_183 (by decide) ?_
      obtain ⟨r20, hc185, hm⟩ := k_bds hm
      refine k_i_s (k_rV (As := [.int l1, .int 16]) (rest := [.ref (ad 0)]) ⟨hx, hb, hml, hown, hts⟩ hK hN hP hD (zX10_at hc185) (cwV 2 hts gX10_digest_X10_at rfl rfl rfl (by decide +kernel) ⟨Nat.le_of_ble_eq_true rfl, Nat.le_of_ble_eq_true rfl⟩) rfl rfl rfl hl.1 rfl (Nat.le_of_ble_eq_true rfl) dX10_digest_185 ⟨Nat.zero_le _, Nat.zero_le _⟩) hD hS hA (fun H locs hP hD hS => ?_)
      refine lv_i2l (v := (Int32.toInt64 r20)) hx hb dX10_digest_188 rfl ?_
      obtain ⟨w21, hc189, hm⟩ := k_bds hm
      refine k_v_s (k_rV (As := [.long (Int32.toInt64 r20)]) (rest := []) ⟨hx, hb, hml, hown, hts⟩ hK hN hP hD (zX10_mix hc189) (cwV 1 hts gX10_digest_X10_mix rfl rfl rfl (by decide +kernel) ⟨Nat.le_of_ble_eq_true rfl, Nat.le_of_ble_eq_true rfl⟩) rfl rfl rfl hl.1 rfl (Nat.le_of_ble_eq_true rfl) dX10_digest_189 ⟨Nat.zero_le _, Nat.zero_le _⟩) hD hS hA (fun H locs hP hD hS => ?_)
      refine lv_aload_n hx hb dX10_digest_192 rfl (lv_at hl 0 rfl) ?_
      refine lv_aload_n hx hb dX10_digest_193 rfl (lv_at hl 0 rfl) ?_
      refine lv_iload_n hx hb dX10_digest_194 rfl (lv_at hl 1 rfl) ?_
      obtain ⟨r22, hc195, hm⟩ := k_bds hm
      refine k_i_s (k_rV (As := [.int l1]) (rest := [.ref (ad 0)]) ⟨hx, hb, hml, hown, hts⟩ hK hN hP hD (zX10_pip hc195) (cwV 1 hts gX10_digest_X10_pip rfl rfl rfl (by decide +kernel) ⟨Nat.le_of_ble_eq_true rfl, Nat.le_of_ble_eq_true rfl⟩) rfl rfl rfl hl.1 rfl (Nat.le_of_ble_eq_true rfl) dX10_digest_195 ⟨Nat.zero_le _, Nat.zero_le _⟩) hD hS hA (fun H locs hP hD hS => ?_)
      refine lv_i2l (v := (Int32.toInt64 r22)) hx hb dX10_digest_198 rfl ?_
      obtain ⟨w23, hc199, hm⟩ := k_bds hm
      refine k_v_s (k_rV (As := [.long (Int32.toInt64 r22)]) (rest := []) ⟨hx, hb, hml, hown, hts⟩ hK hN hP hD (zX10_mix hc199) (cwV 1 hts gX10_digest_X10_mix rfl rfl rfl (by decide +kernel) ⟨Nat.le_of_ble_eq_true rfl, Nat.le_of_ble_eq_true rfl⟩) rfl rfl rfl hl.1 rfl (Nat.le_of_ble_eq_true rfl) dX10_digest_199 ⟨Nat.zero_le _, Nat.zero_le _⟩) hD hS hA (fun H locs hP hD hS => ?_)
      refine lv_aload_n hx hb dX10_digest_202 rfl (lv_at hl 0 rfl) ?_
      refine lv_aload_n hx hb dX10_digest_203 rfl (lv_at hl 0 rfl) ?_
      refine lv_iload_n hx hb dX10_digest_204 rfl (lv_at hl 1 rfl) ?_
      obtain ⟨r24, hc205, hm⟩ := k_bds hm
      refine k_i_s (k_rV (As := [.int l1]) (rest := [.ref (ad 0)]) ⟨hx, hb, hml, hown, hts⟩ hK hN hP hD (zX10_blot hc205) (cwV 1 hts gX10_digest_X10_blot rfl rfl rfl (by decide +kernel) ⟨Nat.le_of_ble_eq_true rfl, Nat.le_of_ble_eq_true rfl⟩) rfl rfl rfl hl.1 rfl (Nat.le_of_ble_eq_true rfl) dX10_digest_205 ⟨Nat.zero_le _, Nat.zero_le _⟩) hD hS hA (fun H locs hP hD hS => ?_)
      refine lv_i2l (v := (Int32.toInt64 r24)) hx hb dX10_digest_208 rfl ?_
      obtain ⟨w25, hc209, hm⟩ := k_bds hm
      refine k_v_s (k_rV (As := [.long (Int32.toInt64 r24)]) (rest := []) ⟨hx, hb, hml, hown, hts⟩ hK hN hP hD (zX10_mix hc209) (cwV 1 hts gX10_digest_X10_mix rfl rfl rfl (by decide +kernel) ⟨Nat.le_of_ble_eq_true rfl, Nat.le_of_ble_eq_true rfl⟩) rfl rfl rfl hl.1 rfl (Nat.le_of_ble_eq_true rfl) dX10_digest_209 ⟨Nat.zero_le _, Nat.zero_le _⟩) hD hS hA (fun H locs hP hD hS => ?_)
      refine lv_aload_n hx hb dX10_digest_212 rfl (lv_at hl 0 rfl) ?_
      refine lv_aload_n hx hb dX10_digest_213 rfl (lv_at hl 0 rfl) ?_
      refine lv_iload_n hx hb dX10_digest_214 rfl (lv_at hl 1 rfl) ?_
      obtain ⟨r26, hc215, hm⟩ := k_bds hm
      refine k_i_s (k_rV (As := [.int l1]) (rest := [.ref (ad 0)]) ⟨hx, hb, hml, hown, hts⟩ hK hN hP hD (zX10_wall hc215) (cwV 1 hts gX10_digest_X10_wall rfl rfl rfl (by decide +kernel) ⟨Nat.le_of_ble_eq_true rfl, Nat.le_of_ble_eq_true rfl⟩) rfl rfl rfl hl.1 rfl (Nat.le_of_ble_eq_true rfl) dX10_digest_215 ⟨Nat.zero_le _, Nat.zero_le _⟩) hD hS hA (fun H locs hP hD hS => ?_)
      refine lv_i2l (v := (Int32.toInt64 r26)) hx hb dX10_digest_218 rfl ?_
      obtain ⟨w27, hc219, hm⟩ := k_bds hm
      refine k_v_s (k_rV (As := [.long (Int32.toInt64 r26)]) (rest := []) ⟨hx, hb, hml, hown, hts⟩ hK hN hP hD (zX10_mix hc219) (cwV 1 hts gX10_digest_X10_mix rfl rfl rfl (by decide +kernel) ⟨Nat.le_of_ble_eq_true rfl, Nat.le_of_ble_eq_true rfl⟩) rfl rfl rfl hl.1 rfl (Nat.le_of_ble_eq_true rfl) dX10_digest_219 ⟨Nat.zero_le _, Nat.zero_le _⟩) hD hS hA (fun H locs hP hD hS => ?_)
      refine lv_aload_n hx hb dX10_digest_222 rfl (lv_at hl 0 rfl) ?_
      refine lv_aload_n hx hb dX10_digest_223 rfl (lv_at hl 0 rfl) ?_
      refine va_get (D := D) (ci := 6) (v := .ref (ad 1)) (C := RX10) (T := TX10) (N := 20) hx hb hts hinX10 hown hK hP 0 rfl rfl 0 (by decide) fl7 (fun _ h9 => h9) rfl dX10_digest_224 ?_
      refine lv_bipush (v := 45) hx hb dX10_digest_227 (by decide) ?_
      refine lv_iload_n hx hb dX10_digest_229 rfl (lv_at hl 1 rfl) ?_
      refine lv_iadd hx hb dX10_digest_230 ?_
      obtain ⟨gi231, hm⟩ := k_gs hm
      refine va_iald hx hb hK hP 1 0 rfl rfl gi231 dX10_digest_231 ?_
      refine lv_i2l (v := (Int32.toInt64 (c_s (Int32.toNatClampNeg (45 + l1))))) hx hb dX10_digest_232 rfl ?_
      obtain ⟨w28, hc233, hm⟩ := k_bds hm
      refine k_v_s (k_rV (As := [.long (Int32.toInt64 (c_s (Int32.toNatClampNeg (45 + l1))))]) (rest := []) ⟨hx, hb, hml, hown, hts⟩ hK hN hP hD (zX10_mix hc233) (cwV 1 hts gX10_digest_X10_mix rfl rfl rfl (by decide +kernel) ⟨Nat.le_of_ble_eq_true rfl, Nat.le_of_ble_eq_true rfl⟩) rfl rfl rfl hl.1 rfl (Nat.le_of_ble_eq_true rfl) dX10_digest_233 ⟨Nat.zero_le _, Nat.zero_le _⟩) hD hS hA (fun H locs hP hD hS => ?_)
      refine lv_aload_n hx hb dX10_digest_236 rfl (lv_at hl 0 rfl) ?_
      refine lv_aload_n hx hb dX10_digest_237 rfl (lv_at hl 0 rfl) ?_
      refine va_get (D := D) (ci := 6) (v := .ref (ad 1)) (C := RX10) (T := TX10) (N := 20) hx hb hts hinX10 hown hK hP 0 rfl rfl 0 (by decide) fl7 (fun _ h9 => h9) rfl dX10_digest_238 ?_
      refine lv_bipush (v := 47) hx hb dX10_digest_241 (by decide) ?_
      refine lv_iload_n hx hb dX10_digest_243 rfl (lv_at hl 1 rfl) ?_
      refine lv_iadd hx hb dX10_digest_244 ?_
      obtain ⟨gi245, hm⟩ := k_gs hm
      refine va_iald hx hb hK hP 1 0 rfl rfl gi245 dX10_digest_245 ?_
      refine lv_i2l (v := (Int32.toInt64 (c_s (Int32.toNatClampNeg (47 + l1))))) hx hb dX10_digest_246 rfl ?_
      obtain ⟨w29, hc247, hm⟩ := k_bds hm
      refine k_v_s (k_rV (As := [.long (Int32.toInt64 (c_s (Int32.toNatClampNeg (47 + l1))))]) (rest := []) ⟨hx, hb, hml, hown, hts⟩ hK hN hP hD (zX10_mix hc247) (cwV 1 hts gX10_digest_X10_mix rfl rfl rfl (by decide +kernel) ⟨Nat.le_of_ble_eq_true rfl, Nat.le_of_ble_eq_true rfl⟩) rfl rfl rfl hl.1 rfl (Nat.le_of_ble_eq_true rfl) dX10_digest_247 ⟨Nat.zero_le _, Nat.zero_le _⟩) hD hS hA (fun H locs hP hD hS => ?_)
      refine lv_aload_n hx hb dX10_digest_250 rfl (lv_at hl 0 rfl) ?_
      refine lv_aload_n hx hb dX10_digest_251 rfl (lv_at hl 0 rfl) ?_
      refine lv_iload_n hx hb dX10_digest_252 rfl (lv_at hl 1 rfl) ?_
      obtain ⟨r30, hc253, hm⟩ := k_bds hm
      refine k_i_s (k_rV (As := [.int l1]) (rest := [.ref (ad 0)]) ⟨hx, hb, hml, hown, hts⟩ hK hN hP hD (zX10_enters hc253) (cwV 1 hts gX10_digest_X10_enters rfl rfl rfl (by decide +kernel) ⟨Nat.le_of_ble_eq_true rfl, Nat.le_of_ble_eq_true rfl⟩) rfl rfl rfl hl.1 rfl (Nat.le_of_ble_eq_true rfl) dX10_digest_253 ⟨Nat.zero_le _, Nat.zero_le _⟩) hD hS hA (fun H locs hP hD hS => ?_)
      refine lv_i2l (v := (Int32.toInt64 r30)) hx hb dX10_digest_256 rfl ?_
      obtain ⟨w31, hc257, hm⟩ := k_bds hm
      refine k_v_s (k_rV (As := [.long (Int32.toInt64 r30)]) (rest := []) ⟨hx, hb, hml, hown, hts⟩ hK hN hP hD (zX10_mix hc257) (cwV 1 hts gX10_digest_X10_mix rfl rfl rfl (by decide +kernel) ⟨Nat.le_of_ble_eq_true rfl, Nat.le_of_ble_eq_true rfl⟩) rfl rfl rfl hl.1 rfl (Nat.le_of_ble_eq_true rfl) dX10_digest_257 ⟨Nat.zero_le _, Nat.zero_le _⟩) hD hS hA (fun H locs hP hD hS => ?_)
      refine lv_iconst (v := 0) hx hb dX10_digest_260 (by decide) ?_
      refine lv_istore_n (lv' := [(2, .int 0), (0, .ref (ad 0)), (1, .int l1)]) hx hb dX10_digest_261 rfl hl (by decide) rfl (fun ls hl => ?_)
      exact J_262 l1 0 c_s c_aside c_thrown c_laid c_mine c_theirs c_many c_from0 c_from1 c_dice w31 _ _ hP hD hS _ (lv_sub hl [1, 2, 0] rfl) hm) k_F
  have J_50 := k_loop (z := fun _ _ _ _ _ _ _ _ _ _ _ _ => none) (st := mX10_digest_50 c_known c_buffer c_length) (fun k50 : (Int32) → (Nat → Int32) → (Nat → Int32) → (Int32) → (Nat → Int32) → (Nat → Int64) → (Nat → Int64) → (Int32) → (Nat → Int64) → (Nat → Int64) → (Nat → Int32) → (Int64) → Option (Int64 × (Nat → Int32) × (Nat → Int32) × (Int32) × (Nat → Int32) × (Nat → Int64) × (Nat → Int64) × (Int32) × (Nat → Int64) × (Nat → Int64) × (Nat → Int32) × (Int64)) => ∀ (l1 : Int32) (c_s : Nat → Int32) (c_aside : Nat → Int32) (c_thrown : Int32) (c_laid : Nat → Int32) (c_mine : Nat → Int64) (c_theirs : Nat → Int64) (c_many : Int32) (c_from0 : Nat → Int64) (c_from1 : Nat → Int64) (c_dice : Nat → Int32) (c_hash : Int64) (H : Heap) (locs : List Loc), va_P D vwCl (wM cI cJ ad c_s c_before c_known c_kept c_isKept c_aside c_buffer c_length c_thrown c_laid c_spot c_isWrong c_isHalted c_mine c_theirs c_many c_from0 c_from1 c_dice c_hash) H → va_D A (wM cI cJ ad c_s c_before c_known c_kept c_isKept c_aside c_buffer c_length c_thrown c_laid c_spot c_isWrong c_isHalted c_mine c_theirs c_many c_from0 c_from1 c_dice c_hash) → va_S A z.heap H locs → ∀ ls : Array Slot, lv_has ls 3 [(0, .ref (ad 0)), (1, .int l1)] → k50 l1 c_s c_aside c_thrown c_laid c_mine c_theirs c_many c_from0 c_from1 c_dice c_hash = some (r, c_s', c_aside', c_thrown', c_laid', c_mine', c_theirs', c_many', c_from0', c_from1', c_dice', c_hash') → W p l e rmX10_digest z m ([.ref (ad 0)] : List Value).toArray below meth c H locs 0 0 (k_Ql below ([.ref (ad 0)] : List Value) D (kT cI cJ cC cG) z A (wM cI cJ ad c_s' c_before c_known c_kept c_isKept c_aside' c_buffer c_length c_thrown' c_laid' c_spot c_isWrong c_isHalted c_mine' c_theirs' c_many' c_from0' c_from1' c_dice' c_hash') r) (F0 m 50 ls [])) (by intros; rename_i h; cases h) (by
    intro k50 ih50
    intro l1 c_s c_aside c_thrown c_laid c_mine c_theirs c_many c_from0 c_from1 c_dice c_hash H locs hP hD hS ls hl hm
    unfold mX10_digest_50 at hm
    refine lv_iload_n hx hb dX10_digest_50 rfl (lv_at hl 1 rfl) ?_
    refine lv_aload_n hx hb dX10_digest_51 rfl (lv_at hl 0 rfl) ?_
    refine va_get (D := D) (ci := 6) (v := .ref (ad 1)) (C := RX10) (T := TX10) (N := 20) hx hb hts hinX10 hown hK hP 0 rfl rfl 0 (by decide) fl7 (fun _ h9 => h9) rfl dX10_digest_52 ?_
    refine lv_bipush (v := 38) hx hb dX10_digest_55 (by decide) ?_
    refine k_iaC hx hb hK hP 1 0 rfl rfl kl_38 ki_38_51 dX10_digest_57 ?_
    refine lv_icmp_ge (tgt := 81) hx hb dX10_digest_58 (by decide) (fun cc58 => ?_) (fun cc58 => ?_)
    · have hm := k_ip cc58 hm
      refine lv_aload_n hx hb dX10_digest_81 rfl (lv_at hl 0 rfl) ?_
      refine lv_aload_n hx hb dX10_digest_82 rfl (lv_at hl 0 rfl) ?_
      refine va_get (D := D) (ci := 6) (v := .ref (ad 1)) (C := RX10) (T := TX10) (N := 20) hx hb hts hinX10 hown hK hP 0 rfl rfl 0 (by decide) fl7 (fun _ h9 => h9) rfl dX10_digest_83 ?_
      refine lv_bipush (v := 43) hx hb dX10_digest_86 (by decide) ?_
      refine k_iaC hx hb hK hP 1 0 rfl rfl kl_43 ki_43_51 dX10_digest_88 ?_
      refine lv_i2l (v := (Int32.toInt64 (c_s 43))) hx hb dX10_digest_89 rfl ?_
      obtain ⟨w32, hc90, hm⟩ := k_bds hm
      refine k_v_s (k_rV (As := [.long (Int32.toInt64 (c_s 43))]) (rest := []) ⟨hx, hb, hml, hown, hts⟩ hK hN hP hD (zX10_mix hc90) (cwV 1 hts gX10_digest_X10_mix rfl rfl rfl (by decide +kernel) ⟨Nat.le_of_ble_eq_true rfl, Nat.le_of_ble_eq_true rfl⟩) rfl rfl rfl hl.1 rfl (Nat.le_of_ble_eq_true rfl) dX10_digest_90 ⟨Nat.zero_le _, Nat.zero_le _⟩) hD hS hA (fun H locs hP hD hS => ?_)
      refine lv_aload_n hx hb dX10_digest_93 rfl (lv_at hl 0 rfl) ?_
      refine lv_aload_n hx hb dX10_digest_94 rfl (lv_at hl 0 rfl) ?_
      refine va_get (D := D) (ci := 6) (v := .ref (ad 1)) (C := RX10) (T := TX10) (N := 20) hx hb hts hinX10 hown hK hP 0 rfl rfl 0 (by decide) fl7 (fun _ h9 => h9) rfl dX10_digest_95 ?_
      refine lv_bipush (v := 44) hx hb dX10_digest_98 (by decide) ?_
      refine k_iaC hx hb hK hP 1 0 rfl rfl kl_44 ki_44_51 dX10_digest_100 ?_
      refine lv_i2l (v := (Int32.toInt64 (c_s 44))) hx hb dX10_digest_101 rfl ?_
      obtain ⟨w33, hc102, hm⟩ := k_bds hm
      refine k_v_s (k_rV (As := [.long (Int32.toInt64 (c_s 44))]) (rest := []) ⟨hx, hb, hml, hown, hts⟩ hK hN hP hD (zX10_mix hc102) (cwV 1 hts gX10_digest_X10_mix rfl rfl rfl (by decide +kernel) ⟨Nat.le_of_ble_eq_true rfl, Nat.le_of_ble_eq_true rfl⟩) rfl rfl rfl hl.1 rfl (Nat.le_of_ble_eq_true rfl) dX10_digest_102 ⟨Nat.zero_le _, Nat.zero_le _⟩) hD hS hA (fun H locs hP hD hS => ?_)
      refine lv_aload_n hx hb dX10_digest_105 rfl (lv_at hl 0 rfl) ?_
      refine lv_aload_n hx hb dX10_digest_106 rfl (lv_at hl 0 rfl) ?_
      obtain ⟨r34, w35, w36, hc107, hm⟩ := k_bd3s hm
      refine k_i_s (k_rV (As := []) (rest := [.ref (ad 0)]) ⟨hx, hb, hml, hown, hts⟩ hK hN hP hD (zX10_possible hc107) (cwV 0 hts gX10_digest_X10_possible rfl rfl rfl (by decide +kernel) ⟨Nat.le_of_ble_eq_true rfl, Nat.le_of_ble_eq_true rfl⟩) rfl rfl rfl hl.1 rfl (Nat.le_of_ble_eq_true rfl) dX10_digest_107 ⟨Nat.zero_le _, Nat.zero_le _⟩) hD hS hA (fun H locs hP hD hS => ?_)
      refine lv_i2l (v := (Int32.toInt64 r34)) hx hb dX10_digest_110 rfl ?_
      obtain ⟨w37, hc111, hm⟩ := k_bds hm
      refine k_v_s (k_rV (As := [.long (Int32.toInt64 r34)]) (rest := []) ⟨hx, hb, hml, hown, hts⟩ hK hN hP hD (zX10_mix hc111) (cwV 1 hts gX10_digest_X10_mix rfl rfl rfl (by decide +kernel) ⟨Nat.le_of_ble_eq_true rfl, Nat.le_of_ble_eq_true rfl⟩) rfl rfl rfl hl.1 rfl (Nat.le_of_ble_eq_true rfl) dX10_digest_111 ⟨Nat.zero_le _, Nat.zero_le _⟩) hD hS hA (fun H locs hP hD hS => ?_)
      refine lv_aload_n hx hb dX10_digest_114 rfl (lv_at hl 0 rfl) ?_
      refine lv_aload_n hx hb dX10_digest_115 rfl (lv_at hl 0 rfl) ?_
      obtain ⟨r38, w39, w40, hc116, hm⟩ := k_bd3s hm
      refine k_i_s (k_rV (As := []) (rest := [.ref (ad 0)]) ⟨hx, hb, hml, hown, hts⟩ hK hN hP hD (zX10_reaches hc116) (cwV 0 hts gX10_digest_X10_reaches rfl rfl rfl (by decide +kernel) ⟨Nat.le_of_ble_eq_true rfl, Nat.le_of_ble_eq_true rfl⟩) rfl rfl rfl hl.1 rfl (Nat.le_of_ble_eq_true rfl) dX10_digest_116 ⟨Nat.zero_le _, Nat.zero_le _⟩) hD hS hA (fun H locs hP hD hS => ?_)
      refine lv_i2l (v := (Int32.toInt64 r38)) hx hb dX10_digest_119 rfl ?_
      obtain ⟨w41, hc120, hm⟩ := k_bds hm
      refine k_v_s (k_rV (As := [.long (Int32.toInt64 r38)]) (rest := []) ⟨hx, hb, hml, hown, hts⟩ hK hN hP hD (zX10_mix hc120) (cwV 1 hts gX10_digest_X10_mix rfl rfl rfl (by decide +kernel) ⟨Nat.le_of_ble_eq_true rfl, Nat.le_of_ble_eq_true rfl⟩) rfl rfl rfl hl.1 rfl (Nat.le_of_ble_eq_true rfl) dX10_digest_120 ⟨Nat.zero_le _, Nat.zero_le _⟩) hD hS hA (fun H locs hP hD hS => ?_)
      refine lv_aload_n hx hb dX10_digest_123 rfl (lv_at hl 0 rfl) ?_
      refine lv_aload_n hx hb dX10_digest_124 rfl (lv_at hl 0 rfl) ?_
      obtain ⟨r42, w43, w44, w45, w46, w47, w48, w49, w50, hc125, hm⟩ := k_bd9s hm
      refine k_i_s (k_rV (As := []) (rest := [.ref (ad 0)]) ⟨hx, hb, hml, hown, hts⟩ hK hN hP hD (zX10_allPlays hc125) (cwV 0 hts gX10_digest_X10_allPlays rfl rfl rfl (by decide +kernel) ⟨Nat.le_of_ble_eq_true rfl, Nat.le_of_ble_eq_true rfl⟩) rfl rfl rfl hl.1 rfl (Nat.le_of_ble_eq_true rfl) dX10_digest_125 ⟨Nat.zero_le _, Nat.zero_le _⟩) hD hS hA (fun H locs hP hD hS => ?_)
      refine lv_i2l (v := (Int32.toInt64 r42)) hx hb dX10_digest_128 rfl ?_
      obtain ⟨w51, hc129, hm⟩ := k_bds hm
      refine k_v_s (k_rV (As := [.long (Int32.toInt64 r42)]) (rest := []) ⟨hx, hb, hml, hown, hts⟩ hK hN hP hD (zX10_mix hc129) (cwV 1 hts gX10_digest_X10_mix rfl rfl rfl (by decide +kernel) ⟨Nat.le_of_ble_eq_true rfl, Nat.le_of_ble_eq_true rfl⟩) rfl rfl rfl hl.1 rfl (Nat.le_of_ble_eq_true rfl) dX10_digest_129 ⟨Nat.zero_le _, Nat.zero_le _⟩) hD hS hA (fun H locs hP hD hS => ?_)
      refine lv_aload_n hx hb dX10_digest_132 rfl (lv_at hl 0 rfl) ?_
      refine lv_aload_n hx hb dX10_digest_133 rfl (lv_at hl 0 rfl) ?_
      obtain ⟨r52, w53, w54, w55, w56, w57, w58, w59, w60, hc134, hm⟩ := k_bd9s hm
      refine k_i_s (k_rV (As := []) (rest := [.ref (ad 0)]) ⟨hx, hb, hml, hown, hts⟩ hK hN hP hD (zX10_allPlays hc134) (cwV 0 hts gX10_digest_X10_allPlays rfl rfl rfl (by decide +kernel) ⟨Nat.le_of_ble_eq_true rfl, Nat.le_of_ble_eq_true rfl⟩) rfl rfl rfl hl.1 rfl (Nat.le_of_ble_eq_true rfl) dX10_digest_134 ⟨Nat.zero_le _, Nat.zero_le _⟩) hD hS hA (fun H locs hP hD hS => ?_)
      refine lv_i2l (v := (Int32.toInt64 r52)) hx hb dX10_digest_137 rfl ?_
      obtain ⟨w61, hc138, hm⟩ := k_bds hm
      refine k_v_s (k_rV (As := [.long (Int32.toInt64 r52)]) (rest := []) ⟨hx, hb, hml, hown, hts⟩ hK hN hP hD (zX10_mix hc138) (cwV 1 hts gX10_digest_X10_mix rfl rfl rfl (by decide +kernel) ⟨Nat.le_of_ble_eq_true rfl, Nat.le_of_ble_eq_true rfl⟩) rfl rfl rfl hl.1 rfl (Nat.le_of_ble_eq_true rfl) dX10_digest_138 ⟨Nat.zero_le _, Nat.zero_le _⟩) hD hS hA (fun H locs hP hD hS => ?_)
      refine lv_aload_n hx hb dX10_digest_141 rfl (lv_at hl 0 rfl) ?_
      refine lv_aload_n hx hb dX10_digest_142 rfl (lv_at hl 0 rfl) ?_
      refine lv_bipush (v := 6) hx hb dX10_digest_143 (by decide) ?_
      refine lv_iconst (v := 5) hx hb dX10_digest_145 (by decide) ?_
      obtain ⟨r62, w63, w64, w65, w66, w67, w68, w69, w70, w71, hc146, hm⟩ := k_bd10s hm
      refine k_i_s (k_rV (As := [.int 6, .int 5]) (rest := [.ref (ad 0)]) ⟨hx, hb, hml, hown, hts⟩ hK hN hP hD (zX10_wouldPlay hc146) (cwV 2 hts gX10_digest_X10_wouldPlay rfl rfl rfl (by decide +kernel) ⟨Nat.le_of_ble_eq_true rfl, Nat.le_of_ble_eq_true rfl⟩) rfl rfl rfl hl.1 rfl (Nat.le_of_ble_eq_true rfl) dX10_digest_146 ⟨Nat.zero_le _, Nat.zero_le _⟩) hD hS hA (fun H locs hP hD hS => ?_)
      refine lv_i2l (v := (Int32.toInt64 r62)) hx hb dX10_digest_149 rfl ?_
      obtain ⟨w72, hc150, hm⟩ := k_bds hm
      refine k_v_s (k_rV (As := [.long (Int32.toInt64 r62)]) (rest := []) ⟨hx, hb, hml, hown, hts⟩ hK hN hP hD (zX10_mix hc150) (cwV 1 hts gX10_digest_X10_mix rfl rfl rfl (by decide +kernel) ⟨Nat.le_of_ble_eq_true rfl, Nat.le_of_ble_eq_true rfl⟩) rfl rfl rfl hl.1 rfl (Nat.le_of_ble_eq_true rfl) dX10_digest_150 ⟨Nat.zero_le _, Nat.zero_le _⟩) hD hS hA (fun H locs hP hD hS => ?_)
      refine lv_aload_n hx hb dX10_digest_153 rfl (lv_at hl 0 rfl) ?_
      refine lv_aload_n hx hb dX10_digest_154 rfl (lv_at hl 0 rfl) ?_
      refine va_get (D := D) (ci := 6) (v := .int c_known) (C := RX10) (T := TX10) (N := 20) hx hb hts hinX10 hown hK hP 0 rfl rfl 2 (by decide) fl56 (fun _ h9 => h9) rfl dX10_digest_155 ?_
      refine lv_i2l (v := (Int32.toInt64 c_known)) hx hb dX10_digest_158 rfl ?_
      obtain ⟨w73, hc159, hm⟩ := k_bds hm
      refine k_v_s (k_rV (As := [.long (Int32.toInt64 c_known)]) (rest := []) ⟨hx, hb, hml, hown, hts⟩ hK hN hP hD (zX10_mix hc159) (cwV 1 hts gX10_digest_X10_mix rfl rfl rfl (by decide +kernel) ⟨Nat.le_of_ble_eq_true rfl, Nat.le_of_ble_eq_true rfl⟩) rfl rfl rfl hl.1 rfl (Nat.le_of_ble_eq_true rfl) dX10_digest_159 ⟨Nat.zero_le _, Nat.zero_le _⟩) hD hS hA (fun H locs hP hD hS => ?_)
      refine lv_iconst (v := 0) hx hb dX10_digest_162 (by decide) ?_
      refine lv_istore_n (lv' := [(1, .int 0), (0, .ref (ad 0))]) hx hb dX10_digest_163 rfl hl (by decide) rfl (fun ls hl => ?_)
      exact J_164 0 w63 w64 c_thrown w65 w66 w67 w68 w69 w70 w71 w73 _ _ hP hD hS _ (lv_sub hl [1, 0] rfl) hm
    · have hm := k_in cc58 hm
      refine lv_aload_n hx hb dX10_digest_61 rfl (lv_at hl 0 rfl) ?_
      refine lv_aload_n hx hb dX10_digest_62 rfl (lv_at hl 0 rfl) ?_
      refine va_get (D := D) (ci := 6) (v := .ref (ad 1)) (C := RX10) (T := TX10) (N := 20) hx hb hts hinX10 hown hK hP 0 rfl rfl 0 (by decide) fl7 (fun _ h9 => h9) rfl dX10_digest_63 ?_
      refine lv_bipush (v := 39) hx hb dX10_digest_66 (by decide) ?_
      refine lv_iload_n hx hb dX10_digest_68 rfl (lv_at hl 1 rfl) ?_
      refine lv_iadd hx hb dX10_digest_69 ?_
      obtain ⟨gi70, hm⟩ := k_gs hm
      refine va_iald hx hb hK hP 1 0 rfl rfl gi70 dX10_digest_70 ?_
      refine lv_i2l (v := (Int32.toInt64 (c_s (Int32.toNatClampNeg (39 + l1))))) hx hb dX10_digest_71 rfl ?_
      obtain ⟨w74, hc72, hm⟩ := k_bds hm
      refine k_v_s (k_rV (As := [.long (Int32.toInt64 (c_s (Int32.toNatClampNeg (39 + l1))))]) (rest := []) ⟨hx, hb, hml, hown, hts⟩ hK hN hP hD (zX10_mix hc72) (cwV 1 hts gX10_digest_X10_mix rfl rfl rfl (by decide +kernel) ⟨Nat.le_of_ble_eq_true rfl, Nat.le_of_ble_eq_true rfl⟩) rfl rfl rfl hl.1 rfl (Nat.le_of_ble_eq_true rfl) dX10_digest_72 ⟨Nat.zero_le _, Nat.zero_le _⟩) hD hS hA (fun H locs hP hD hS => ?_)
      refine lv_iinc (v := (l1 + 1)) (lv' := [(1, .int (l1 + 1)), (0, .ref (ad 0))]) hx hb dX10_digest_75 hl (k := 1) rfl rfl (by decide) rfl (fun ls hl => ?_)
      refine lv_goto (tgt := 50) hx hb dX10_digest_78 (by decide) ?_
      exact ih50 (l1 + 1) c_s c_aside c_thrown c_laid c_mine c_theirs c_many c_from0 c_from1 c_dice w74 _ _ hP hD hS _ (lv_sub hl [1, 0] rfl) hm) k_F
  unfold mX10_digest at hm
  refine lv_aload_n hx hb dX10_digest_0 rfl (lv_at hl 0 rfl) ?_
  refine lv_iconst (v := 0) hx hb dX10_digest_1 (by decide) ?_
  refine va_put (D := D) (ci := 6) (v := .int 0) (ty := .int) (C := RX10) (T := TX10) (N := 20) hx hb hts hinX10 tyX10 tyX10_ok nmX10 hown hK hP hD hS 0 rfl rfl 8 (by decide) fl48 (fun _ h9 => h9) rfl (by decide +kernel) rfl rfl (Nat.le_of_ble_eq_true rfl) dX10_digest_2 (fun H locs hP hD hS => ?_)
  have hP : va_P D vwCl (wM cI cJ ad c_s c_before c_known c_kept c_isKept c_aside c_buffer c_length 0 c_laid c_spot c_isWrong c_isHalted c_mine c_theirs c_many c_from0 c_from1 c_dice c_hash) H := hP
  have hD : va_D A (wM cI cJ ad c_s c_before c_known c_kept c_isKept c_aside c_buffer c_length 0 c_laid c_spot c_isWrong c_isHalted c_mine c_theirs c_many c_from0 c_from1 c_dice c_hash) := hD
  refine lv_aload_n hx hb dX10_digest_5 rfl (lv_at hl 0 rfl) ?_
  refine lv_ldc2 hx hb hown (hts (.constantLong RX10 275 4517) (by decide +kernel)) dX10_digest_6 ?_
  refine va_put (D := D) (ci := 6) (v := .long (4517)) (ty := .long) (C := RX10) (T := TX10) (N := 20) hx hb hts hinX10 tyX10 tyX10_ok nmX10 hown hK hP hD hS 0 rfl rfl 19 (by decide) fl271 (fun _ h9 => h9) rfl (by decide +kernel) rfl rfl (Nat.le_of_ble_eq_true rfl) dX10_digest_9 (fun H locs hP hD hS => ?_)
  have hP : va_P D vwCl (wM cI cJ ad c_s c_before c_known c_kept c_isKept c_aside c_buffer c_length 0 c_laid c_spot c_isWrong c_isHalted c_mine c_theirs c_many c_from0 c_from1 c_dice (4517)) H := hP
  have hD : va_D A (wM cI cJ ad c_s c_before c_known c_kept c_isKept c_aside c_buffer c_length 0 c_laid c_spot c_isWrong c_isHalted c_mine c_theirs c_many c_from0 c_from1 c_dice (4517)) := hD
  refine lv_aload_n hx hb dX10_digest_12 rfl (lv_at hl 0 rfl) ?_
  refine lv_aload_n hx hb dX10_digest_13 rfl (lv_at hl 0 rfl) ?_
  refine va_get (D := D) (ci := 6) (v := .ref (ad 1)) (C := RX10) (T := TX10) (N := 20) hx hb hts hinX10 hown hK hP 0 rfl rfl 0 (by decide) fl7 (fun _ h9 => h9) rfl dX10_digest_14 ?_
  refine lv_bipush (v := 36) hx hb dX10_digest_17 (by decide) ?_
  refine k_iaC hx hb hK hP 1 0 rfl rfl kl_36 ki_36_51 dX10_digest_19 ?_
  refine lv_i2l (v := (Int32.toInt64 (c_s 36))) hx hb dX10_digest_20 rfl ?_
  obtain ⟨w75, hc21, hm⟩ := k_bds hm
  refine k_v_s (k_rV (As := [.long (Int32.toInt64 (c_s 36))]) (rest := []) ⟨hx, hb, hml, hown, hts⟩ hK hN hP hD (zX10_mix hc21) (cwV 1 hts gX10_digest_X10_mix rfl rfl rfl (by decide +kernel) ⟨Nat.le_of_ble_eq_true rfl, Nat.le_of_ble_eq_true rfl⟩) rfl rfl rfl hl.1 rfl (Nat.le_of_ble_eq_true rfl) dX10_digest_21 ⟨Nat.zero_le _, Nat.zero_le _⟩) hD hS hA (fun H locs hP hD hS => ?_)
  refine lv_aload_n hx hb dX10_digest_24 rfl (lv_at hl 0 rfl) ?_
  refine lv_aload_n hx hb dX10_digest_25 rfl (lv_at hl 0 rfl) ?_
  refine va_get (D := D) (ci := 6) (v := .ref (ad 1)) (C := RX10) (T := TX10) (N := 20) hx hb hts hinX10 hown hK hP 0 rfl rfl 0 (by decide) fl7 (fun _ h9 => h9) rfl dX10_digest_26 ?_
  refine lv_bipush (v := 37) hx hb dX10_digest_29 (by decide) ?_
  refine k_iaC hx hb hK hP 1 0 rfl rfl kl_37 ki_37_51 dX10_digest_31 ?_
  refine lv_i2l (v := (Int32.toInt64 (c_s 37))) hx hb dX10_digest_32 rfl ?_
  obtain ⟨w76, hc33, hm⟩ := k_bds hm
  refine k_v_s (k_rV (As := [.long (Int32.toInt64 (c_s 37))]) (rest := []) ⟨hx, hb, hml, hown, hts⟩ hK hN hP hD (zX10_mix hc33) (cwV 1 hts gX10_digest_X10_mix rfl rfl rfl (by decide +kernel) ⟨Nat.le_of_ble_eq_true rfl, Nat.le_of_ble_eq_true rfl⟩) rfl rfl rfl hl.1 rfl (Nat.le_of_ble_eq_true rfl) dX10_digest_33 ⟨Nat.zero_le _, Nat.zero_le _⟩) hD hS hA (fun H locs hP hD hS => ?_)
  refine lv_aload_n hx hb dX10_digest_36 rfl (lv_at hl 0 rfl) ?_
  refine lv_aload_n hx hb dX10_digest_37 rfl (lv_at hl 0 rfl) ?_
  refine va_get (D := D) (ci := 6) (v := .ref (ad 1)) (C := RX10) (T := TX10) (N := 20) hx hb hts hinX10 hown hK hP 0 rfl rfl 0 (by decide) fl7 (fun _ h9 => h9) rfl dX10_digest_38 ?_
  refine lv_bipush (v := 38) hx hb dX10_digest_41 (by decide) ?_
  refine k_iaC hx hb hK hP 1 0 rfl rfl kl_38 ki_38_51 dX10_digest_43 ?_
  refine lv_i2l (v := (Int32.toInt64 (c_s 38))) hx hb dX10_digest_44 rfl ?_
  obtain ⟨w77, hc45, hm⟩ := k_bds hm
  refine k_v_s (k_rV (As := [.long (Int32.toInt64 (c_s 38))]) (rest := []) ⟨hx, hb, hml, hown, hts⟩ hK hN hP hD (zX10_mix hc45) (cwV 1 hts gX10_digest_X10_mix rfl rfl rfl (by decide +kernel) ⟨Nat.le_of_ble_eq_true rfl, Nat.le_of_ble_eq_true rfl⟩) rfl rfl rfl hl.1 rfl (Nat.le_of_ble_eq_true rfl) dX10_digest_45 ⟨Nat.zero_le _, Nat.zero_le _⟩) hD hS hA (fun H locs hP hD hS => ?_)
  refine lv_iconst (v := 0) hx hb dX10_digest_48 (by decide) ?_
  refine lv_istore_n (lv' := [(1, .int 0), (0, .ref (ad 0))]) hx hb dX10_digest_49 rfl hl (by decide) rfl (fun ls hl => ?_)
  exact J_50 0 c_s c_aside 0 c_laid c_mine c_theirs c_many c_from0 c_from1 c_dice w77 _ _ hP hD hS _ (lv_sub hl [1, 0] rfl) hm

