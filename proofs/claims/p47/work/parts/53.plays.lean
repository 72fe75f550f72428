abbrev rmX4_goOn : Room := { frames := 11, cells := 0, slots := 0, locals := 342 }
set_option maxHeartbeats 4000000 in
set_option maxRecDepth 100000 in
theorem zX4_goOn {l : Launch} {D : va_G} {cI cJ cC cG : ClassId} {sz : Nat} {h0 : Nat} {pa pb pc : Nat → Nat} {p_mine : Nat → Int64} {p_theirs : Nat → Int64} {p_dice : Nat → Int32} {p_size : Int32} {f_mine : Nat → Int64} {f_theirs : Nat → Int64} {f_dice : Nat → Int32} {f_size : Int32} {e_mine : Nat → Int64} {e_theirs : Nat → Int64} {e_dice : Nat → Int32} {e_size : Int32} {a1 : Int64} {a3 : Int64} {a5 : Int32} {a6 : Bool} {f_mine' : Nat → Int64} {f_theirs' : Nat → Int64} {f_dice' : Nat → Int32} {f_size' : Int32} {e_mine' : Nat → Int64} {e_theirs' : Nat → Int64} {e_dice' : Nat → Int32} {e_size' : Int32} (hm : mX4_goOn f_mine f_theirs f_dice f_size e_mine e_theirs e_dice e_size a1 a3 a5 a6 = some (f_mine', f_theirs', f_dice', f_size', e_mine', e_theirs', e_dice', e_size')) : k_Mv l yX4_goOn wsX4_goOn rmX4_goOn D (kT cI cJ cC cG) sz ([.ref h0, .long a1, .long a3, .int a5, .int (k_b a6)] : List Value) (wPl cI cJ h0 (pa 0) (pb 0) (pc 0) pa pb pc p_mine p_theirs p_dice p_size f_mine f_theirs f_dice f_size e_mine e_theirs e_dice e_size) (wPl cI cJ h0 (pa 0) (pb 0) (pc 0) pa pb pc p_mine p_theirs p_dice p_size f_mine' f_theirs' f_dice' f_size' e_mine' e_theirs' e_dice' e_size') := by
  refine k_st_v (cc := cX4_goOn) (maxL := 12) (by decide) rfl (Nat.le_of_ble_eq_true rfl) ?_
  intro p e z m below meth c A hx hb hr hml hts hown hlocks hsz hN hA hK hP hD hS ls hl
  have hown : z.vm.findClass RX4 = some m.cls := hown
  have hinX4 : ∀ w ∈ wsX40, w ∈ wsX4_goOn := by decide +kernel
  have fl16 := hts (.fieldLink RX4 16 "MagpieRuns$Plays" "following" "LMagpieRuns$Positions;") (by decide +kernel)
  have fl19 := hts (.fieldLink RX4 19 "MagpieRuns$Plays" "ends" "LMagpieRuns$Positions;") (by decide +kernel)
  have hl : lv_has ls 12 [(0, .ref h0), (1, .long a1), (3, .long a3), (5, .int a5), (6, .int (k_b a6))] := hl
  have J_116 : ∀ (l8 : Bool) (f_mine : Nat → Int64) (f_theirs : Nat → Int64) (f_dice : Nat → Int32) (f_size : Int32) (e_mine : Nat → Int64) (e_theirs : Nat → Int64) (e_dice : Nat → Int32) (e_size : Int32) (H : Heap) (locs : List Loc), va_P D vwCl (wPl cI cJ h0 (pa 0) (pb 0) (pc 0) pa pb pc p_mine p_theirs p_dice p_size f_mine f_theirs f_dice f_size e_mine e_theirs e_dice e_size) H → va_D A (wPl cI cJ h0 (pa 0) (pb 0) (pc 0) pa pb pc p_mine p_theirs p_dice p_size f_mine f_theirs f_dice f_size e_mine e_theirs e_dice e_size) → va_S A z.heap H locs → ∀ ls : Array Slot, lv_has ls 12 [(0, .ref h0), (1, .long a1), (3, .long a3), (8, .int (k_b l8))] → mX4_goOn_116 a1 a3 a5 a6 l8 f_mine f_theirs f_dice f_size e_mine e_theirs e_dice e_size = some (f_mine', f_theirs', f_dice', f_size', e_mine', e_theirs', e_dice', e_size') → W p l e rmX4_goOn z m ([.ref h0, .long a1, .long a3, .int a5, .int (k_b a6)] : List Value).toArray below meth c H locs 0 0 (k_Qv below ([.ref h0, .long a1, .long a3, .int a5, .int (k_b a6)] : List Value) D (kT cI cJ cC cG) z A (wPl cI cJ h0 (pa 0) (pb 0) (pc 0) pa pb pc p_mine p_theirs p_dice p_size f_mine' f_theirs' f_dice' f_size' e_mine' e_theirs' e_dice' e_size')) (F0 m 116 ls []) := by
    intro l8 f_mine f_theirs f_dice f_size e_mine e_theirs e_dice e_size H locs hP hD hS ls hl hm
    unfold mX4_goOn_116 at hm
    refine lv_iload hx hb dX4_goOn_116 (lv_at hl 3 rfl) ?_
    refine lv_if_ne (tgt := 131) hx hb dX4_goOn_118 (by decide) (fun cc118 => ?_) (fun cc118 => ?_)
    · have hm := k_in cc118 hm
      cases hm
      exact k_end_v hx hb hr hlocks hK hP hD hS dX4_goOn_131
    · have hm := k_ip cc118 hm
      refine lv_aload_n hx hb dX4_goOn_121 rfl (lv_at hl 0 rfl) ?_
      refine va_get (D := D) (ci := 2) (v := .ref (pc 0)) (C := RX4) (T := TX4) (N := 3) hx hb hts hinX4 hown hK hP 0 rfl rfl 2 (by decide) fl19 (fun _ h9 => h9) rfl dX4_goOn_122 ?_
      refine lv_lload_n hx hb dX4_goOn_125 rfl (lv_at hl 1 rfl) ?_
      refine lv_lload_n hx hb dX4_goOn_126 rfl (lv_at hl 2 rfl) ?_
      refine lv_iconst (v := 0) hx hb dX4_goOn_127 (by decide) ?_
      obtain ⟨w1, w2, w3, w4, hc128, hm⟩ := k_bd4s hm
      have hPc : va_P D vwCl (wPo cI cJ pc e_mine e_theirs e_dice e_size) _ := k_Psub hP [9, 10, 11, 12] rfl
      have hDc : va_D A (wPo cI cJ pc e_mine e_theirs e_dice e_size) := hD.sub [9, 10, 11, 12] (by decide) rfl
      refine k_v_c (Wf := (wPl cI cJ h0 (pa 0) (pb 0) (pc 0) pa pb pc p_mine p_theirs p_dice p_size f_mine f_theirs f_dice f_size w1 w2 w3 w4)) [9, 10, 11, 12] [0, 1, 2, 3, 4, 5, 6, 7, 8] [0, 1, 2, 3, 4, 5, 6, 7, 8, 9, 10, 11, 12] (k_rV (As := [.long a1, .long a3, .int 0]) (rest := []) ⟨hx, hb, hml, hown, hts⟩ hK hN hPc hDc (zX5_add hc128) (cwV 3 hts gX4_goOn_X5_add rfl rfl rfl (by decide +kernel) ⟨Nat.le_of_ble_eq_true rfl, Nat.le_of_ble_eq_true rfl⟩) rfl rfl rfl hl.1 rfl (Nat.le_of_ble_eq_true rfl) dX4_goOn_128 ⟨Nat.zero_le _, Nat.zero_le _⟩) hP hD hS hA rfl rfl (by decide) (by decide) rfl (by decide) (fun H locs hP hD hS => ?_)
      cases hm
      exact k_end_v hx hb hr hlocks hK hP hD hS dX4_goOn_131
  have J_16 := k_loop (z := fun _ _ _ _ _ _ _ _ _ _ _ => none) (st := mX4_goOn_16 a1 a3 a5 a6) (fun k16 : (Int32) → (Bool) → (Int32) → (Nat → Int64) → (Nat → Int64) → (Nat → Int32) → (Int32) → (Nat → Int64) → (Nat → Int64) → (Nat → Int32) → (Int32) → Option ((Nat → Int64) × (Nat → Int64) × (Nat → Int32) × (Int32) × (Nat → Int64) × (Nat → Int64) × (Nat → Int32) × (Int32)) => ∀ (l7 : Int32) (l8 : Bool) (l9 : Int32) (f_mine : Nat → Int64) (f_theirs : Nat → Int64) (f_dice : Nat → Int32) (f_size : Int32) (e_mine : Nat → Int64) (e_theirs : Nat → Int64) (e_dice : Nat → Int32) (e_size : Int32) (H : Heap) (locs : List Loc), va_P D vwCl (wPl cI cJ h0 (pa 0) (pb 0) (pc 0) pa pb pc p_mine p_theirs p_dice p_size f_mine f_theirs f_dice f_size e_mine e_theirs e_dice e_size) H → va_D A (wPl cI cJ h0 (pa 0) (pb 0) (pc 0) pa pb pc p_mine p_theirs p_dice p_size f_mine f_theirs f_dice f_size e_mine e_theirs e_dice e_size) → va_S A z.heap H locs → ∀ ls : Array Slot, lv_has ls 12 [(0, .ref h0), (1, .long a1), (3, .long a3), (5, .int a5), (6, .int (k_b a6)), (7, .int l7), (8, .int (k_b l8)), (9, .int l9)] → k16 l7 l8 l9 f_mine f_theirs f_dice f_size e_mine e_theirs e_dice e_size = some (f_mine', f_theirs', f_dice', f_size', e_mine', e_theirs', e_dice', e_size') → W p l e rmX4_goOn z m ([.ref h0, .long a1, .long a3, .int a5, .int (k_b a6)] : List Value).toArray below meth c H locs 0 0 (k_Qv below ([.ref h0, .long a1, .long a3, .int a5, .int (k_b a6)] : List Value) D (kT cI cJ cC cG) z A (wPl cI cJ h0 (pa 0) (pb 0) (pc 0) pa pb pc p_mine p_theirs p_dice p_size f_mine' f_theirs' f_dice' f_size' e_mine' e_theirs' e_dice' e_size')) (F0 m 16 ls [])) (by intros; contradiction) (by
    intro k16 ih16
    have J_48 := k_loop (z := fun _ _ _ _ _ _ _ _ _ _ _ _ _ => none) (st := mX4_goOn_48 a1 a3 a5 a6 k16) (fun k48 : (Int32) → (Bool) → (Int32) → (Int32) → (Int32) → (Nat → Int64) → (Nat → Int64) → (Nat → Int32) → (Int32) → (Nat → Int64) → (Nat → Int64) → (Nat → Int32) → (Int32) → Option ((Nat → Int64) × (Nat → Int64) × (Nat → Int32) × (Int32) × (Nat → Int64) × (Nat → Int64) × (Nat → Int32) × (Int32)) => ∀ (l7 : Int32) (l8 : Bool) (l9 : Int32) (l10 : Int32) (l11 : Int32) (f_mine : Nat → Int64) (f_theirs : Nat → Int64) (f_dice : Nat → Int32) (f_size : Int32) (e_mine : Nat → Int64) (e_theirs : Nat → Int64) (e_dice : Nat → Int32) (e_size : Int32) (H : Heap) (locs : List Loc), va_P D vwCl (wPl cI cJ h0 (pa 0) (pb 0) (pc 0) pa pb pc p_mine p_theirs p_dice p_size f_mine f_theirs f_dice f_size e_mine e_theirs e_dice e_size) H → va_D A (wPl cI cJ h0 (pa 0) (pb 0) (pc 0) pa pb pc p_mine p_theirs p_dice p_size f_mine f_theirs f_dice f_size e_mine e_theirs e_dice e_size) → va_S A z.heap H locs → ∀ ls : Array Slot, lv_has ls 12 [(0, .ref h0), (1, .long a1), (3, .long a3), (5, .int a5), (6, .int (k_b a6)), (7, .int l7), (8, .int (k_b l8)), (9, .int l9), (10, .int l10), (11, .int l11)] → k48 l7 l8 l9 l10 l11 f_mine f_theirs f_dice f_size e_mine e_theirs e_dice e_size = some (f_mine', f_theirs', f_dice', f_size', e_mine', e_theirs', e_dice', e_size') → W p l e rmX4_goOn z m ([.ref h0, .long a1, .long a3, .int a5, .int (k_b a6)] : List Value).toArray below meth c H locs 0 0 (k_Qv below ([.ref h0, .long a1, .long a3, .int a5, .int (k_b a6)] : List Value) D (kT cI cJ cC cG) z A (wPl cI cJ h0 (pa 0) (pb 0) (pc 0) pa pb pc p_mine p_theirs p_dice p_size f_mine' f_theirs' f_dice' f_size' e_mine' e_theirs' e_dice' e_size')) (F0 m 48 ls [])) (by intros; contradiction) (by
      intro k48 ih48
      intro l7 l8 l9 l10 l11 f_mine f_theirs f_dice f_size e_mine e_theirs e_dice e_size H locs hP hD hS ls hl hm
      unfold mX4_goOn_48 at hm
      refine lv_iload hx hb dX4_goOn_48 (lv_at hl 9 rfl) ?_
      refine lv_bipush (v := 17) hx hb dX4_goOn_50 (by decide) ?_
      refine lv_icmp_gt (tgt := 110) hx hb dX4_goOn_52 (by decide) (fun cc52 => ?_) (fun cc52 => ?_)
      · have hm := k_ip cc52 hm
        refine lv_iinc (v := (l9 + 1)) (lv' := [(9, .int (l9 + 1)), (0, .ref h0), (1, .long a1), (3, .long a3), (5, .int a5), (6, .int (k_b a6)), (7, .int l7), (8, .int (k_b l8)), (10, .int l10), (11, .int l11)]) hx hb dX4_goOn_110 hl (k := 7) rfl rfl (by decide) rfl (fun ls hl => ?_)
        refine lv_goto (tgt := 16) hx hb dX4_goOn_113 (by decide) ?_
        exact ih16 l7 l8 (l9 + 1) f_mine f_theirs f_dice f_size e_mine e_theirs e_dice e_size _ _ hP hD hS _ (lv_sub hl [1, 2, 3, 4, 5, 6, 7, 0] rfl) hm
      · have hm := k_in cc52 hm
        refine lv_lload_n hx hb dX4_goOn_55 rfl (lv_at hl 1 rfl) ?_
        refine lv_lload_n hx hb dX4_goOn_56 rfl (lv_at hl 2 rfl) ?_
        refine lv_iload hx hb dX4_goOn_57 (lv_at hl 3 rfl) ?_
        refine lv_iload hx hb dX4_goOn_59 (lv_at hl 9 rfl) ?_
        refine lv_iload hx hb dX4_goOn_61 (lv_at hl 8 rfl) ?_
        refine lv_iload hx hb dX4_goOn_63 (lv_at hl 5 rfl) ?_
        obtain ⟨r5, hc65, hm⟩ := k_bds hm
        refine k_i_0 (k_rS (As := [.long a1, .long a3, .int a5, .int l11, .int l10, .int l7]) (rest := []) ⟨hx, hb, hml, hown, hts⟩ hK hN k_P0 (k_D0 (A := A)) (zX7_reason hc65) (va_cwS 6 hts gX4_goOn_X7_reason rfl rfl rfl (by decide +kernel) ⟨Nat.le_of_ble_eq_true rfl, Nat.le_of_ble_eq_true rfl⟩) rfl hl.1 rfl (Nat.le_of_ble_eq_true rfl) dX4_goOn_65 ⟨Nat.zero_le _, Nat.zero_le _⟩) hP hS hA (fun H locs hP hS => ?_)
        refine lv_if_ne (tgt := 104) hx hb dX4_goOn_68 (by decide) (fun cc68 => ?_) (fun cc68 => ?_)
        · have hm := k_in cc68 hm
          refine lv_iinc (v := (l11 + 1)) (lv' := [(11, .int (l11 + 1)), (0, .ref h0), (1, .long a1), (3, .long a3), (5, .int a5), (6, .int (k_b a6)), (7, .int l7), (8, .int (k_b l8)), (9, .int l9), (10, .int l10)]) hx hb dX4_goOn_104 hl (k := 9) rfl rfl (by decide) rfl (fun ls hl => ?_)
          refine lv_goto (tgt := 48) hx hb dX4_goOn_107 (by decide) ?_
          exact ih48 l7 l8 l9 l10 (l11 + 1) f_mine f_theirs f_dice f_size e_mine e_theirs e_dice e_size _ _ hP hD hS _ (lv_sub hl [1, 2, 3, 4, 5, 6, 7, 8, 9, 0] rfl) hm
        · have hm := k_ip cc68 hm
          refine lv_iconst (v := 1) hx hb dX4_goOn_71 (by decide) ?_
          refine lv_istore (lv' := [(8, .int 1), (0, .ref h0), (1, .long a1), (3, .long a3), (5, .int a5), (6, .int (k_b a6)), (7, .int l7), (9, .int l9), (10, .int l10), (11, .int l11)]) hx hb dX4_goOn_72 hl (by decide) rfl (fun ls hl => ?_)
          refine lv_aload_n hx hb dX4_goOn_74 rfl (lv_at hl 1 rfl) ?_
          refine va_get (D := D) (ci := 2) (v := .ref (pb 0)) (C := RX4) (T := TX4) (N := 3) hx hb hts hinX4 hown hK hP 0 rfl rfl 1 (by decide) fl16 (fun _ h9 => h9) rfl dX4_goOn_75 ?_
          refine lv_lload_n hx hb dX4_goOn_78 rfl (lv_at hl 2 rfl) ?_
          refine lv_iload hx hb dX4_goOn_79 (lv_at hl 9 rfl) ?_
          refine lv_iload hx hb dX4_goOn_81 (lv_at hl 8 rfl) ?_
          obtain ⟨r6, hc83, hm⟩ := k_bds hm
          refine k_l_0 (k_rS (As := [.long a1, .int l11, .int l10]) (rest := [.ref (pb 0)]) ⟨hx, hb, hml, hown, hts⟩ hK hN k_P0 (k_D0 (A := A)) (zX7_mineBehind hc83) (va_cwS 3 hts gX4_goOn_X7_mineBehind rfl rfl rfl (by decide +kernel) ⟨Nat.le_of_ble_eq_true rfl, Nat.le_of_ble_eq_true rfl⟩) rfl hl.1 rfl (Nat.le_of_ble_eq_true rfl) dX4_goOn_83 ⟨Nat.zero_le _, Nat.zero_le _⟩) hP hS hA (fun H locs hP hS => ?_)
          refine lv_lload_n hx hb dX4_goOn_86 rfl (lv_at hl 3 rfl) ?_
          refine lv_iload hx hb dX4_goOn_87 (lv_at hl 9 rfl) ?_
          refine lv_iload hx hb dX4_goOn_89 (lv_at hl 8 rfl) ?_
          obtain ⟨r7, hc91, hm⟩ := k_bds hm
          refine k_l_0 (k_rS (As := [.long a3, .int l11, .int l10]) (rest := [.long r6, .ref (pb 0)]) ⟨hx, hb, hml, hown, hts⟩ hK hN k_P0 (k_D0 (A := A)) (zX7_theirsBehind hc91) (va_cwS 3 hts gX4_goOn_X7_theirsBehind rfl rfl rfl (by decide +kernel) ⟨Nat.le_of_ble_eq_true rfl, Nat.le_of_ble_eq_true rfl⟩) rfl hl.1 rfl (Nat.le_of_ble_eq_true rfl) dX4_goOn_91 ⟨Nat.zero_le _, Nat.zero_le _⟩) hP hS hA (fun H locs hP hS => ?_)
          refine lv_iload hx hb dX4_goOn_94 (lv_at hl 4 rfl) ?_
          refine lv_iload hx hb dX4_goOn_96 (lv_at hl 8 rfl) ?_
          obtain ⟨r8, hc98, hm⟩ := k_bds hm
          refine k_i_0 (k_rS (As := [.int a5, .int l10]) (rest := [.long r7, .long r6, .ref (pb 0)]) ⟨hx, hb, hml, hown, hts⟩ hK hN k_P0 (k_D0 (A := A)) (zX0_without hc98) (va_cwS 2 hts gX4_goOn_X0_without rfl rfl rfl (by decide +kernel) ⟨Nat.le_of_ble_eq_true rfl, Nat.le_of_ble_eq_true rfl⟩) rfl hl.1 rfl (Nat.le_of_ble_eq_true rfl) dX4_goOn_98 ⟨Nat.zero_le _, Nat.zero_le _⟩) hP hS hA (fun H locs hP hS => ?_)
          obtain ⟨w9, w10, w11, w12, hc101, hm⟩ := k_bd4s hm
          have hPc : va_P D vwCl (wPo cI cJ pb f_mine f_theirs f_dice f_size) _ := k_Psub hP [5, 6, 7, 8] rfl
          have hDc : va_D A (wPo cI cJ pb f_mine f_theirs f_dice f_size) := hD.sub [5, 6, 7, 8] (by decide) rfl
          refine k_v_c (Wf := (wPl cI cJ h0 (pa 0) (pb 0) (pc 0) pa pb pc p_mine p_theirs p_dice p_size w9 w10 w11 w12 e_mine e_theirs e_dice e_size)) [5, 6, 7, 8] [0, 1, 2, 3, 4, 9, 10, 11, 12] [0, 1, 2, 3, 4, 9, 10, 11, 12, 5, 6, 7, 8] (k_rV (As := [.long r6, .long r7, .int r8]) (rest := []) ⟨hx, hb, hml, hown, hts⟩ hK hN hPc hDc (zX5_add hc101) (cwV 3 hts gX4_goOn_X5_add rfl rfl rfl (by decide +kernel) ⟨Nat.le_of_ble_eq_true rfl, Nat.le_of_ble_eq_true rfl⟩) rfl rfl rfl hl.1 rfl (Nat.le_of_ble_eq_true rfl) dX4_goOn_101 ⟨Nat.zero_le _, Nat.zero_le _⟩) hP hD hS hA rfl rfl (by decide) (by decide) rfl (by decide) (fun H locs hP hD hS => ?_)
          refine lv_iinc (v := (l11 + 1)) (lv' := [(11, .int (l11 + 1)), (8, .int 1), (0, .ref h0), (1, .long a1), (3, .long a3), (5, .int a5), (6, .int (k_b a6)), (7, .int l7), (9, .int l9), (10, .int l10)]) hx hb dX4_goOn_104 hl (k := 9) rfl rfl (by decide) rfl (fun ls hl => ?_)
          refine lv_goto (tgt := 48) hx hb dX4_goOn_107 (by decide) ?_
          exact ih48 l7 true l9 l10 (l11 + 1) w9 w10 w11 w12 e_mine e_theirs e_dice e_size _ _ hP hD hS _ (lv_sub hl [2, 3, 4, 5, 6, 7, 1, 8, 9, 0] rfl) hm) k_F
    have J_36 : ∀ (l7 : Int32) (l8 : Bool) (l9 : Int32) (f_mine : Nat → Int64) (f_theirs : Nat → Int64) (f_dice : Nat → Int32) (f_size : Int32) (e_mine : Nat → Int64) (e_theirs : Nat → Int64) (e_dice : Nat → Int32) (e_size : Int32) (H : Heap) (locs : List Loc), va_P D vwCl (wPl cI cJ h0 (pa 0) (pb 0) (pc 0) pa pb pc p_mine p_theirs p_dice p_size f_mine f_theirs f_dice f_size e_mine e_theirs e_dice e_size) H → va_D A (wPl cI cJ h0 (pa 0) (pb 0) (pc 0) pa pb pc p_mine p_theirs p_dice p_size f_mine f_theirs f_dice f_size e_mine e_theirs e_dice e_size) → va_S A z.heap H locs → ∀ ls : Array Slot, lv_has ls 12 [(0, .ref h0), (1, .long a1), (3, .long a3), (5, .int a5), (6, .int (k_b a6)), (7, .int l7), (8, .int (k_b l8)), (9, .int l9)] → mX4_goOn_36 a1 a3 a5 a6 k16 l7 l8 l9 f_mine f_theirs f_dice f_size e_mine e_theirs e_dice e_size = some (f_mine', f_theirs', f_dice', f_size', e_mine', e_theirs', e_dice', e_size') → W p l e rmX4_goOn z m ([.ref h0, .long a1, .long a3, .int a5, .int (k_b a6)] : List Value).toArray below meth c H locs 0 0 (k_Qv below ([.ref h0, .long a1, .long a3, .int a5, .int (k_b a6)] : List Value) D (kT cI cJ cC cG) z A (wPl cI cJ h0 (pa 0) (pb 0) (pc 0) pa pb pc p_mine p_theirs p_dice p_size f_mine' f_theirs' f_dice' f_size' e_mine' e_theirs' e_dice' e_size')) (F0 m 36 ls []) := by
      intro l7 l8 l9 f_mine f_theirs f_dice f_size e_mine e_theirs e_dice e_size H locs hP hD hS ls hl hm
      unfold mX4_goOn_36 at hm
      refine lv_iload hx hb dX4_goOn_36 (lv_at hl 3 rfl) ?_
      refine lv_iload hx hb dX4_goOn_38 (lv_at hl 7 rfl) ?_
      obtain ⟨r13, hc40, hm⟩ := k_bds hm
      refine k_i_0 (k_rS (As := [.int a5, .int l9]) (rest := []) ⟨hx, hb, hml, hown, hts⟩ hK hN k_P0 (k_D0 (A := A)) (zX0_at hc40) (va_cwS 2 hts gX4_goOn_X0_at rfl rfl rfl (by decide +kernel) ⟨Nat.le_of_ble_eq_true rfl, Nat.le_of_ble_eq_true rfl⟩) rfl hl.1 rfl (Nat.le_of_ble_eq_true rfl) dX4_goOn_40 ⟨Nat.zero_le _, Nat.zero_le _⟩) hP hS hA (fun H locs hP hS => ?_)
      refine lv_istore (lv' := [(10, .int r13), (0, .ref h0), (1, .long a1), (3, .long a3), (5, .int a5), (6, .int (k_b a6)), (7, .int l7), (8, .int (k_b l8)), (9, .int l9)]) hx hb dX4_goOn_43 hl (by decide) rfl (fun ls hl => ?_)
      refine lv_iconst (v := 1) hx hb dX4_goOn_45 (by decide) ?_
      refine lv_istore (lv' := [(11, .int 1), (10, .int r13), (0, .ref h0), (1, .long a1), (3, .long a3), (5, .int a5), (6, .int (k_b a6)), (7, .int l7), (8, .int (k_b l8)), (9, .int l9)]) hx hb dX4_goOn_46 hl (by decide) rfl (fun ls hl => ?_)
      exact J_48 l7 l8 l9 r13 1 f_mine f_theirs f_dice f_size e_mine e_theirs e_dice e_size _ _ hP hD hS _ (lv_sub hl [2, 3, 4, 5, 6, 7, 8, 9, 1, 0] rfl) hm
    intro l7 l8 l9 f_mine f_theirs f_dice f_size e_mine e_theirs e_dice e_size H locs hP hD hS ls hl hm
    unfold mX4_goOn_16 at hm
    refine lv_iload hx hb dX4_goOn_16 (lv_at hl 7 rfl) ?_
    refine lv_iload hx hb dX4_goOn_18 (lv_at hl 3 rfl) ?_
    obtain ⟨r14, hc20, hm⟩ := k_bds hm
    refine k_i_0 (k_rS (As := [.int a5]) (rest := [.int l9]) ⟨hx, hb, hml, hown, hts⟩ hK hN k_P0 (k_D0 (A := A)) (zX0_kinds hc20) (va_cwS 1 hts gX4_goOn_X0_kinds rfl rfl rfl (by decide +kernel) ⟨Nat.le_of_ble_eq_true rfl, Nat.le_of_ble_eq_true rfl⟩) rfl hl.1 rfl (Nat.le_of_ble_eq_true rfl) dX4_goOn_20 ⟨Nat.zero_le _, Nat.zero_le _⟩) hP hS hA (fun H locs hP hS => ?_)
    refine lv_icmp_ge (tgt := 116) hx hb dX4_goOn_23 (by decide) (fun cc23 => ?_) (fun cc23 => ?_)
    · have hm := k_ip cc23 hm
      exact J_116 l8 f_mine f_theirs f_dice f_size e_mine e_theirs e_dice e_size _ _ hP hD hS _ (lv_sub hl [0, 1, 2, 6] rfl) hm
    · have hm := k_in cc23 hm
      refine lv_iload hx hb dX4_goOn_26 (lv_at hl 4 rfl) ?_
      refine lv_if_eq (tgt := 36) hx hb dX4_goOn_28 (by decide) (fun cc28 => ?_) (fun cc28 => ?_)
      · have hm := k_ip cc28 hm
        exact J_36 l7 l8 l9 f_mine f_theirs f_dice f_size e_mine e_theirs e_dice e_size _ _ hP hD hS _ (lv_sub hl [0, 1, 2, 3, 4, 5, 6, 7] rfl) hm
      · have hm := k_in cc28 hm
        refine lv_iload hx hb dX4_goOn_31 (lv_at hl 6 rfl) ?_
        refine lv_if_ne (tgt := 116) hx hb dX4_goOn_33 (by decide) (fun cc33 => ?_) (fun cc33 => ?_)
        · have hm := k_in cc33 hm
          exact J_116 l8 f_mine f_theirs f_dice f_size e_mine e_theirs e_dice e_size _ _ hP hD hS _ (lv_sub hl [0, 1, 2, 6] rfl) hm
        · have hm := k_ip cc33 hm
          exact J_36 l7 l8 l9 f_mine f_theirs f_dice f_size e_mine e_theirs e_dice e_size _ _ hP hD hS _ (lv_sub hl [0, 1, 2, 3, 4, 5, 6, 7] rfl) hm) k_F
  unfold mX4_goOn at hm
  refine lv_lload_n hx hb dX4_goOn_0 rfl (lv_at hl 1 rfl) ?_
  refine lv_lload_n hx hb dX4_goOn_1 rfl (lv_at hl 2 rfl) ?_
  refine lv_iload hx hb dX4_goOn_2 (lv_at hl 3 rfl) ?_
  refine lv_iconst (v := 4) hx hb dX4_goOn_4 (by decide) ?_
  obtain ⟨r15, hc5, hm⟩ := k_bds hm
  refine k_i_0 (k_rSN (As := [.long a1, .long a3, .int a5, .int 4]) (rest := []) ⟨hx, hb, hml, hown, hts⟩ hK hN k_P0 (k_D0 (A := A)) (zX7_reachOf 6 hc5) ⟨va_cnB 4 hts gX4_goOn_X7_reachOf_n53 rfl rfl rfl hN.2 (hts (.initialized RX7) (by decide +kernel)) (by decide +kernel) ⟨Nat.le_of_ble_eq_true rfl, Nat.le_of_ble_eq_true rfl⟩, hts (.static yX7_reachOf) (by decide +kernel), trivial⟩ rfl hl.1 rfl (Nat.le_of_ble_eq_true rfl) dX4_goOn_5 ⟨Nat.zero_le _, Nat.zero_le _⟩) hP hS hA (fun H locs hP hS => ?_)
  refine lv_istore (lv' := [(7, .int r15), (0, .ref h0), (1, .long a1), (3, .long a3), (5, .int a5), (6, .int (k_b a6))]) hx hb dX4_goOn_8 hl (by decide) rfl (fun ls hl => ?_)
  refine lv_iconst (v := 0) hx hb dX4_goOn_10 (by decide) ?_
  refine lv_istore (lv' := [(8, .int 0), (7, .int r15), (0, .ref h0), (1, .long a1), (3, .long a3), (5, .int a5), (6, .int (k_b a6))]) hx hb dX4_goOn_11 hl (by decide) rfl (fun ls hl => ?_)
  refine lv_iconst (v := 0) hx hb dX4_goOn_13 (by decide) ?_
  refine lv_istore (lv' := [(9, .int 0), (8, .int 0), (7, .int r15), (0, .ref h0), (1, .long a1), (3, .long a3), (5, .int a5), (6, .int (k_b a6))]) hx hb dX4_goOn_14 hl (by decide) rfl (fun ls hl => ?_)
  exact J_16 r15 false 0 f_mine f_theirs f_dice f_size e_mine e_theirs e_dice e_size _ _ hP hD hS _ (lv_sub hl [3, 4, 5, 6, 7, 2, 1, 0] rfl) hm

abbrev rmX4_countEnds : Room := { frames := 12, cells := 0, slots := 0, locals := 373 }
set_option maxHeartbeats 4000000 in
set_option maxRecDepth 100000 in
theorem zX4_countEnds {l : Launch} {D : va_G} {cI cJ cC cG : ClassId} {sz : Nat} {h0 : Nat} {pa pb pc : Nat → Nat} {p_mine : Nat → Int64} {p_theirs : Nat → Int64} {p_dice : Nat → Int32} {p_size : Int32} {f_mine : Nat → Int64} {f_theirs : Nat → Int64} {f_dice : Nat → Int32} {f_size : Int32} {e_mine : Nat → Int64} {e_theirs : Nat → Int64} {e_dice : Nat → Int32} {e_size : Int32} {a1 : Int64} {a3 : Int64} {a5 : Int32} {a6 : Bool} {r : Int32} {p_mine' : Nat → Int64} {p_theirs' : Nat → Int64} {p_dice' : Nat → Int32} {p_size' : Int32} {f_mine' : Nat → Int64} {f_theirs' : Nat → Int64} {f_dice' : Nat → Int32} {f_size' : Int32} {e_mine' : Nat → Int64} {e_theirs' : Nat → Int64} {e_dice' : Nat → Int32} {e_size' : Int32} (hm : mX4_countEnds p_mine p_theirs p_dice p_size f_mine f_theirs f_dice f_size e_mine e_theirs e_dice e_size a1 a3 a5 a6 = some (r, p_mine', p_theirs', p_dice', p_size', f_mine', f_theirs', f_dice', f_size', e_mine', e_theirs', e_dice', e_size')) : k_MiE l yX4_countEnds wsX4_countEnds rmX4_countEnds D (kT cI cJ cC cG) sz ([.ref h0, .long a1, .long a3, .int a5, .int (k_b a6)] : List Value) (wPl cI cJ h0 (pa 0) (pb 0) (pc 0) pa pb pc p_mine p_theirs p_dice p_size f_mine f_theirs f_dice f_size e_mine e_theirs e_dice e_size) (fun u : (Nat → Nat) × (Nat → Nat) => (wPl cI cJ h0 ((u.1) 0) ((u.2) 0) (pc 0) (u.1) (u.2) pc p_mine' p_theirs' p_dice' p_size' f_mine' f_theirs' f_dice' f_size' e_mine' e_theirs' e_dice' e_size')) r := by
  refine k_st_iE (cc := cX4_countEnds) (maxL := 10) (by decide) rfl (Nat.le_of_ble_eq_true rfl) ?_
  intro p e z m below meth c A hx hb hr hml hts hown hlocks hsz hN hA hK hP hD hS ls hl
  have hown : z.vm.findClass RX4 = some m.cls := hown
  have hinX4 : ∀ w ∈ wsX40, w ∈ wsX4_countEnds := by decide +kernel
  have hinX5 : ∀ w ∈ wsX50, w ∈ wsX4_countEnds := by decide +kernel
  have fl10 := hts (.fieldLink RX4 10 "MagpieRuns$Plays" "current" "LMagpieRuns$Positions;") (by decide +kernel)
  have fl16 := hts (.fieldLink RX4 16 "MagpieRuns$Plays" "following" "LMagpieRuns$Positions;") (by decide +kernel)
  have fl19 := hts (.fieldLink RX4 19 "MagpieRuns$Plays" "ends" "LMagpieRuns$Positions;") (by decide +kernel)
  have fl35 := hts (.fieldLink RX4 35 "MagpieRuns$Positions" "size" "I") (by decide +kernel)
  have hl : lv_has ls 10 [(0, .ref h0), (1, .long a1), (3, .long a3), (5, .int a5), (6, .int (k_b a6))] := hl
  have J_47 := k_loop (z := fun _ _ _ _ _ _ _ _ _ _ _ _ _ => none) (st := mX4_countEnds_47 a1 a3 a5 a6) (fun k47 : (Int32) → (Nat → Int64) → (Nat → Int64) → (Nat → Int32) → (Int32) → (Nat → Int64) → (Nat → Int64) → (Nat → Int32) → (Int32) → (Nat → Int64) → (Nat → Int64) → (Nat → Int32) → (Int32) → Option (Int32 × (Nat → Int64) × (Nat → Int64) × (Nat → Int32) × (Int32) × (Nat → Int64) × (Nat → Int64) × (Nat → Int32) × (Int32) × (Nat → Int64) × (Nat → Int64) × (Nat → Int32) × (Int32)) => ∀ (pa : Nat → Nat) (pb : Nat → Nat) (l7 : Int32) (p_mine : Nat → Int64) (p_theirs : Nat → Int64) (p_dice : Nat → Int32) (p_size : Int32) (f_mine : Nat → Int64) (f_theirs : Nat → Int64) (f_dice : Nat → Int32) (f_size : Int32) (e_mine : Nat → Int64) (e_theirs : Nat → Int64) (e_dice : Nat → Int32) (e_size : Int32) (H : Heap) (locs : List Loc), va_P D vwCl (wPl cI cJ h0 (pa 0) (pb 0) (pc 0) pa pb pc p_mine p_theirs p_dice p_size f_mine f_theirs f_dice f_size e_mine e_theirs e_dice e_size) H → va_D A (wPl cI cJ h0 (pa 0) (pb 0) (pc 0) pa pb pc p_mine p_theirs p_dice p_size f_mine f_theirs f_dice f_size e_mine e_theirs e_dice e_size) → va_S A z.heap H locs → ∀ ls : Array Slot, lv_has ls 10 [(0, .ref h0), (6, .int (k_b a6)), (7, .int l7)] → k47 l7 p_mine p_theirs p_dice p_size f_mine f_theirs f_dice f_size e_mine e_theirs e_dice e_size = some (r, p_mine', p_theirs', p_dice', p_size', f_mine', f_theirs', f_dice', f_size', e_mine', e_theirs', e_dice', e_size') → W p l e rmX4_countEnds z m ([.ref h0, .long a1, .long a3, .int a5, .int (k_b a6)] : List Value).toArray below meth c H locs 0 0 (k_QiE below ([.ref h0, .long a1, .long a3, .int a5, .int (k_b a6)] : List Value) D (kT cI cJ cC cG) z A (fun u : (Nat → Nat) × (Nat → Nat) => (wPl cI cJ h0 ((u.1) 0) ((u.2) 0) (pc 0) (u.1) (u.2) pc p_mine' p_theirs' p_dice' p_size' f_mine' f_theirs' f_dice' f_size' e_mine' e_theirs' e_dice' e_size')) r) (F0 m 47 ls [])) (by intros; contradiction) (by
    intro k47 ih47
    have J_72 := k_loop (z := fun _ _ _ _ _ _ _ _ _ _ _ _ _ _ _ => none) (st := mX4_countEnds_72 a1 a3 a5 a6 k47) (fun k72 : (Int32) → (Int32) → (Int32) → (Nat → Int64) → (Nat → Int64) → (Nat → Int32) → (Int32) → (Nat → Int64) → (Nat → Int64) → (Nat → Int32) → (Int32) → (Nat → Int64) → (Nat → Int64) → (Nat → Int32) → (Int32) → Option (Int32 × (Nat → Int64) × (Nat → Int64) × (Nat → Int32) × (Int32) × (Nat → Int64) × (Nat → Int64) × (Nat → Int32) × (Int32) × (Nat → Int64) × (Nat → Int64) × (Nat → Int32) × (Int32)) => ∀ (pa : Nat → Nat) (pb : Nat → Nat) (l7 : Int32) (l8 : Int32) (l9 : Int32) (p_mine : Nat → Int64) (p_theirs : Nat → Int64) (p_dice : Nat → Int32) (p_size : Int32) (f_mine : Nat → Int64) (f_theirs : Nat → Int64) (f_dice : Nat → Int32) (f_size : Int32) (e_mine : Nat → Int64) (e_theirs : Nat → Int64) (e_dice : Nat → Int32) (e_size : Int32) (H : Heap) (locs : List Loc), va_P D vwCl (wPl cI cJ h0 (pa 0) (pb 0) (pc 0) pa pb pc p_mine p_theirs p_dice p_size f_mine f_theirs f_dice f_size e_mine e_theirs e_dice e_size) H → va_D A (wPl cI cJ h0 (pa 0) (pb 0) (pc 0) pa pb pc p_mine p_theirs p_dice p_size f_mine f_theirs f_dice f_size e_mine e_theirs e_dice e_size) → va_S A z.heap H locs → ∀ ls : Array Slot, lv_has ls 10 [(0, .ref h0), (6, .int (k_b a6)), (7, .int l7), (8, .int l8), (9, .int l9)] → k72 l7 l8 l9 p_mine p_theirs p_dice p_size f_mine f_theirs f_dice f_size e_mine e_theirs e_dice e_size = some (r, p_mine', p_theirs', p_dice', p_size', f_mine', f_theirs', f_dice', f_size', e_mine', e_theirs', e_dice', e_size') → W p l e rmX4_countEnds z m ([.ref h0, .long a1, .long a3, .int a5, .int (k_b a6)] : List Value).toArray below meth c H locs 0 0 (k_QiE below ([.ref h0, .long a1, .long a3, .int a5, .int (k_b a6)] : List Value) D (kT cI cJ cC cG) z A (fun u : (Nat → Nat) × (Nat → Nat) => (wPl cI cJ h0 ((u.1) 0) ((u.2) 0) (pc 0) (u.1) (u.2) pc p_mine' p_theirs' p_dice' p_size' f_mine' f_theirs' f_dice' f_size' e_mine' e_theirs' e_dice' e_size')) r) (F0 m 72 ls [])) (by intros; contradiction) (by
      intro k72 ih72
      intro pa pb l7 l8 l9 p_mine p_theirs p_dice p_size f_mine f_theirs f_dice f_size e_mine e_theirs e_dice e_size H locs hP hD hS ls hl hm
      unfold mX4_countEnds_72 at hm
      refine lv_iload hx hb dX4_countEnds_72 (lv_at hl 4 rfl) ?_
      refine lv_iload hx hb dX4_countEnds_74 (lv_at hl 3 rfl) ?_
      refine lv_icmp_ge (tgt := 118) hx hb dX4_countEnds_76 (by decide) (fun cc76 => ?_) (fun cc76 => ?_)
      · have hm := k_ip cc76 hm
        refine lv_aload_n hx hb dX4_countEnds_118 rfl (lv_at hl 0 rfl) ?_
        refine va_get (D := D) (ci := 2) (v := .ref (pa 0)) (C := RX4) (T := TX4) (N := 3) hx hb hts hinX4 hown hK hP 0 rfl rfl 0 (by decide) fl10 (fun _ h9 => h9) rfl dX4_countEnds_119 ?_
        refine lv_astore (lv' := [(9, .ref (pa 0)), (0, .ref h0), (6, .int (k_b a6)), (7, .int l7), (8, .int l8)]) hx hb dX4_countEnds_122 hl (by decide) rfl (fun ls hl => ?_)
        refine lv_aload_n hx hb dX4_countEnds_124 rfl (lv_at hl 1 rfl) ?_
        refine lv_aload_n hx hb dX4_countEnds_125 rfl (lv_at hl 1 rfl) ?_
        refine va_get (D := D) (ci := 2) (v := .ref (pb 0)) (C := RX4) (T := TX4) (N := 3) hx hb hts hinX4 hown hK hP 0 rfl rfl 1 (by decide) fl16 (fun _ h9 => h9) rfl dX4_countEnds_126 ?_
        refine va_put (D := D) (ci := 2) (v := .ref (pb 0)) (ty := (.object "MagpieRuns$Positions")) (C := RX4) (T := TX4) (N := 3) hx hb hts hinX4 tyX4 tyX4_ok nmX4 hown hK hP hD hS 0 rfl rfl 0 (by decide) fl10 (fun _ h9 => h9) rfl (by decide +kernel) rfl rfl (Nat.le_of_ble_eq_true rfl) dX4_countEnds_129 (fun H locs hP hD hS => ?_)
        have hP : va_P D vwCl (wPl cI cJ h0 (pb 0) (pb 0) (pc 0) pa pb pc p_mine p_theirs p_dice p_size f_mine f_theirs f_dice f_size e_mine e_theirs e_dice e_size) H := hP
        have hD : va_D A (wPl cI cJ h0 (pb 0) (pb 0) (pc 0) pa pb pc p_mine p_theirs p_dice p_size f_mine f_theirs f_dice f_size e_mine e_theirs e_dice e_size) := hD
        refine lv_aload_n hx hb dX4_countEnds_132 rfl (lv_at hl 1 rfl) ?_
        refine lv_aload hx hb dX4_countEnds_133 (lv_at hl 0 rfl) ?_
        refine va_put (D := D) (ci := 2) (v := .ref (pa 0)) (ty := (.object "MagpieRuns$Positions")) (C := RX4) (T := TX4) (N := 3) hx hb hts hinX4 tyX4 tyX4_ok nmX4 hown hK hP hD hS 0 rfl rfl 1 (by decide) fl16 (fun _ h9 => h9) rfl (by decide +kernel) rfl rfl (Nat.le_of_ble_eq_true rfl) dX4_countEnds_135 (fun H locs hP hD hS => ?_)
        have hP : va_P D vwCl (wPl cI cJ h0 (pb 0) (pa 0) (pc 0) pa pb pc p_mine p_theirs p_dice p_size f_mine f_theirs f_dice f_size e_mine e_theirs e_dice e_size) H := hP
        have hD : va_D A (wPl cI cJ h0 (pb 0) (pa 0) (pc 0) pa pb pc p_mine p_theirs p_dice p_size f_mine f_theirs f_dice f_size e_mine e_theirs e_dice e_size) := hD
        refine lv_iinc (v := (l7 + 1)) (lv' := [(7, .int (l7 + 1)), (9, .ref (pa 0)), (0, .ref h0), (6, .int (k_b a6)), (8, .int l8)]) hx hb dX4_countEnds_138 hl (k := 3) rfl rfl (by decide) rfl (fun ls hl => ?_)
        refine lv_goto (tgt := 47) hx hb dX4_countEnds_141 (by decide) ?_
        exact ih47 pb pa (l7 + 1) f_mine f_theirs f_dice f_size p_mine p_theirs p_dice p_size e_mine e_theirs e_dice e_size _ _ (k_Psub hP [0, 5, 6, 7, 8, 1, 2, 3, 4, 9, 10, 11, 12] rfl) (hD.sub [0, 5, 6, 7, 8, 1, 2, 3, 4, 9, 10, 11, 12] (by decide) rfl) hS _ (lv_sub hl [2, 3, 0] rfl) hm
      · have hm := k_in cc76 hm
        refine lv_aload_n hx hb dX4_countEnds_79 rfl (lv_at hl 0 rfl) ?_
        refine lv_aload_n hx hb dX4_countEnds_80 rfl (lv_at hl 0 rfl) ?_
        refine va_get (D := D) (ci := 2) (v := .ref (pa 0)) (C := RX4) (T := TX4) (N := 3) hx hb hts hinX4 hown hK hP 0 rfl rfl 0 (by decide) fl10 (fun _ h9 => h9) rfl dX4_countEnds_81 ?_
        refine lv_iload hx hb dX4_countEnds_84 (lv_at hl 4 rfl) ?_
        obtain ⟨r1, hc86, hm⟩ := k_bds hm
        have hPc : va_P D vwCl (wPo cI cJ pa p_mine p_theirs p_dice p_size) _ := k_Psub hP [1, 2, 3, 4] rfl
        have hDc : va_D A (wPo cI cJ pa p_mine p_theirs p_dice p_size) := hD.sub [1, 2, 3, 4] (by decide) rfl
        refine k_l_c (Wf := (wPl cI cJ h0 (pa 0) (pb 0) (pc 0) pa pb pc p_mine p_theirs p_dice p_size f_mine f_theirs f_dice f_size e_mine e_theirs e_dice e_size)) [1, 2, 3, 4] [0, 5, 6, 7, 8, 9, 10, 11, 12] [0, 9, 10, 11, 12, 1, 2, 3, 4, 5, 6, 7, 8] (k_rV (As := [.int l9]) (rest := [.ref h0]) ⟨hx, hb, hml, hown, hts⟩ hK hN hPc hDc (zX5_mineAt hc86) (cwV 1 hts gX4_countEnds_X5_mineAt rfl rfl rfl (by decide +kernel) ⟨Nat.le_of_ble_eq_true rfl, Nat.le_of_ble_eq_true rfl⟩) rfl rfl rfl hl.1 rfl (Nat.le_of_ble_eq_true rfl) dX4_countEnds_86 ⟨Nat.zero_le _, Nat.zero_le _⟩) hP hD hS hA rfl rfl (by decide) (by decide) rfl (by decide) (fun H locs hP hD hS => ?_)
        refine lv_aload_n hx hb dX4_countEnds_89 rfl (lv_at hl 0 rfl) ?_
        refine va_get (D := D) (ci := 2) (v := .ref (pa 0)) (C := RX4) (T := TX4) (N := 3) hx hb hts hinX4 hown hK hP 0 rfl rfl 0 (by decide) fl10 (fun _ h9 => h9) rfl dX4_countEnds_90 ?_
        refine lv_iload hx hb dX4_countEnds_93 (lv_at hl 4 rfl) ?_
        obtain ⟨r2, hc95, hm⟩ := k_bds hm
        have hPc : va_P D vwCl (wPo cI cJ pa p_mine p_theirs p_dice p_size) _ := k_Psub hP [1, 2, 3, 4] rfl
        have hDc : va_D A (wPo cI cJ pa p_mine p_theirs p_dice p_size) := hD.sub [1, 2, 3, 4] (by decide) rfl
        refine k_l_c (Wf := (wPl cI cJ h0 (pa 0) (pb 0) (pc 0) pa pb pc p_mine p_theirs p_dice p_size f_mine f_theirs f_dice f_size e_mine e_theirs e_dice e_size)) [1, 2, 3, 4] [0, 5, 6, 7, 8, 9, 10, 11, 12] [0, 9, 10, 11, 12, 1, 2, 3, 4, 5, 6, 7, 8] (k_rV (As := [.int l9]) (rest := [.long r1, .ref h0]) ⟨hx, hb, hml, hown, hts⟩ hK hN hPc hDc (zX5_theirsAt hc95) (cwV 1 hts gX4_countEnds_X5_theirsAt rfl rfl rfl (by decide +kernel) ⟨Nat.le_of_ble_eq_true rfl, Nat.le_of_ble_eq_true rfl⟩) rfl rfl rfl hl.1 rfl (Nat.le_of_ble_eq_true rfl) dX4_countEnds_95 ⟨Nat.zero_le _, Nat.zero_le _⟩) hP hD hS hA rfl rfl (by decide) (by decide) rfl (by decide) (fun H locs hP hD hS => ?_)
        refine lv_aload_n hx hb dX4_countEnds_98 rfl (lv_at hl 0 rfl) ?_
        refine va_get (D := D) (ci := 2) (v := .ref (pa 0)) (C := RX4) (T := TX4) (N := 3) hx hb hts hinX4 hown hK hP 0 rfl rfl 0 (by decide) fl10 (fun _ h9 => h9) rfl dX4_countEnds_99 ?_
        refine lv_iload hx hb dX4_countEnds_102 (lv_at hl 4 rfl) ?_
        obtain ⟨r3, hc104, hm⟩ := k_bds hm
        have hPc : va_P D vwCl (wPo cI cJ pa p_mine p_theirs p_dice p_size) _ := k_Psub hP [1, 2, 3, 4] rfl
        have hDc : va_D A (wPo cI cJ pa p_mine p_theirs p_dice p_size) := hD.sub [1, 2, 3, 4] (by decide) rfl
        refine k_i_c (Wf := (wPl cI cJ h0 (pa 0) (pb 0) (pc 0) pa pb pc p_mine p_theirs p_dice p_size f_mine f_theirs f_dice f_size e_mine e_theirs e_dice e_size)) [1, 2, 3, 4] [0, 5, 6, 7, 8, 9, 10, 11, 12] [0, 9, 10, 11, 12, 1, 2, 3, 4, 5, 6, 7, 8] (k_rV (As := [.int l9]) (rest := [.long r2, .long r1, .ref h0]) ⟨hx, hb, hml, hown, hts⟩ hK hN hPc hDc (zX5_diceAt hc104) (cwV 1 hts gX4_countEnds_X5_diceAt rfl rfl rfl (by decide +kernel) ⟨Nat.le_of_ble_eq_true rfl, Nat.le_of_ble_eq_true rfl⟩) rfl rfl rfl hl.1 rfl (Nat.le_of_ble_eq_true rfl) dX4_countEnds_104 ⟨Nat.zero_le _, Nat.zero_le _⟩) hP hD hS hA rfl rfl (by decide) (by decide) rfl (by decide) (fun H locs hP hD hS => ?_)
        refine lv_iload hx hb dX4_countEnds_107 (lv_at hl 1 rfl) ?_
        obtain ⟨w4, w5, w6, w7, w8, w9, w10, w11, hc109, hm⟩ := k_bd8s hm
        refine k_v_s (k_rV (As := [.long r1, .long r2, .int r3, .int (k_b a6)]) (rest := []) ⟨hx, hb, hml, hown, hts⟩ hK hN hP hD (zX4_goOn hc109) (cwV 4 hts gX4_countEnds_X4_goOn rfl rfl rfl (by decide +kernel) ⟨Nat.le_of_ble_eq_true rfl, Nat.le_of_ble_eq_true rfl⟩) rfl rfl rfl hl.1 rfl (Nat.le_of_ble_eq_true rfl) dX4_countEnds_109 ⟨Nat.zero_le _, Nat.zero_le _⟩) hD hS hA (fun H locs hP hD hS => ?_)
        refine lv_iinc (v := (l9 + 1)) (lv' := [(9, .int (l9 + 1)), (0, .ref h0), (6, .int (k_b a6)), (7, .int l7), (8, .int l8)]) hx hb dX4_countEnds_112 hl (k := 4) rfl rfl (by decide) rfl (fun ls hl => ?_)
        refine lv_goto (tgt := 72) hx hb dX4_countEnds_115 (by decide) ?_
        exact ih72 pa pb l7 l8 (l9 + 1) p_mine p_theirs p_dice p_size w4 w5 w6 w7 w8 w9 w10 w11 _ _ hP hD hS _ (lv_sub hl [1, 2, 3, 4, 0] rfl) hm) k_F
    intro pa pb l7 p_mine p_theirs p_dice p_size f_mine f_theirs f_dice f_size e_mine e_theirs e_dice e_size H locs hP hD hS ls hl hm
    unfold mX4_countEnds_47 at hm
    refine lv_iload hx hb dX4_countEnds_47 (lv_at hl 2 rfl) ?_
    refine lv_iconst (v := 4) hx hb dX4_countEnds_49 (by decide) ?_
    refine lv_icmp_gt (tgt := 144) hx hb dX4_countEnds_50 (by decide) (fun cc50 => ?_) (fun cc50 => ?_)
    · have hm := k_ip cc50 hm
      refine lv_aload_n hx hb dX4_countEnds_144 rfl (lv_at hl 0 rfl) ?_
      refine va_get (D := D) (ci := 2) (v := .ref (pc 0)) (C := RX4) (T := TX4) (N := 3) hx hb hts hinX4 hown hK hP 0 rfl rfl 2 (by decide) fl19 (fun _ h9 => h9) rfl dX4_countEnds_145 ?_
      refine va_get (D := D) (ci := 3) (v := .int e_size) (C := RX5) (T := TX5) (N := 4) hx hb hts hinX5 hown hK hP 9 rfl rfl 3 (by decide) fl35 (fun _ h9 => h9) rfl dX4_countEnds_148 ?_
      cases hm
      exact k_end_iE (pa, pb) hx hb hr hlocks hK hP hD hS dX4_countEnds_151
    · have hm := k_in cc50 hm
      refine lv_aload_n hx hb dX4_countEnds_53 rfl (lv_at hl 0 rfl) ?_
      refine va_get (D := D) (ci := 2) (v := .ref (pb 0)) (C := RX4) (T := TX4) (N := 3) hx hb hts hinX4 hown hK hP 0 rfl rfl 1 (by decide) fl16 (fun _ h9 => h9) rfl dX4_countEnds_54 ?_
      obtain ⟨w12, hc57, hm⟩ := k_bds hm
      have hPc : va_P D vwCl (wPo cI cJ pb f_mine f_theirs f_dice f_size) _ := k_Psub hP [5, 6, 7, 8] rfl
      have hDc : va_D A (wPo cI cJ pb f_mine f_theirs f_dice f_size) := hD.sub [5, 6, 7, 8] (by decide) rfl
      refine k_v_c (Wf := (wPl cI cJ h0 (pa 0) (pb 0) (pc 0) pa pb pc p_mine p_theirs p_dice p_size f_mine f_theirs f_dice w12 e_mine e_theirs e_dice e_size)) [5, 6, 7, 8] [0, 1, 2, 3, 4, 9, 10, 11, 12] [0, 1, 2, 3, 4, 9, 10, 11, 12, 5, 6, 7, 8] (k_rV (As := []) (rest := []) ⟨hx, hb, hml, hown, hts⟩ hK hN hPc hDc (zX5_clear hc57) (cwV 0 hts gX4_countEnds_X5_clear rfl rfl rfl (by decide +kernel) ⟨Nat.le_of_ble_eq_true rfl, Nat.le_of_ble_eq_true rfl⟩) rfl rfl rfl hl.1 rfl (Nat.le_of_ble_eq_true rfl) dX4_countEnds_57 ⟨Nat.zero_le _, Nat.zero_le _⟩) hP hD hS hA rfl rfl (by decide) (by decide) rfl (by decide) (fun H locs hP hD hS => ?_)
      refine lv_aload_n hx hb dX4_countEnds_60 rfl (lv_at hl 0 rfl) ?_
      refine va_get (D := D) (ci := 2) (v := .ref (pa 0)) (C := RX4) (T := TX4) (N := 3) hx hb hts hinX4 hown hK hP 0 rfl rfl 0 (by decide) fl10 (fun _ h9 => h9) rfl dX4_countEnds_61 ?_
      refine va_get (D := D) (ci := 3) (v := .int p_size) (C := RX5) (T := TX5) (N := 4) hx hb hts hinX5 hown hK hP 1 rfl rfl 3 (by decide) fl35 (fun _ h9 => h9) rfl dX4_countEnds_64 ?_
      refine lv_istore (lv' := [(8, .int p_size), (0, .ref h0), (6, .int (k_b a6)), (7, .int l7)]) hx hb dX4_countEnds_67 hl (by decide) rfl (fun ls hl => ?_)
      refine lv_iconst (v := 0) hx hb dX4_countEnds_69 (by decide) ?_
      refine lv_istore (lv' := [(9, .int 0), (8, .int p_size), (0, .ref h0), (6, .int (k_b a6)), (7, .int l7)]) hx hb dX4_countEnds_70 hl (by decide) rfl (fun ls hl => ?_)
      exact J_72 pa pb l7 p_size 0 p_mine p_theirs p_dice p_size f_mine f_theirs f_dice w12 e_mine e_theirs e_dice e_size _ _ hP hD hS _ (lv_sub hl [2, 3, 4, 1, 0] rfl) hm) k_F
  have J_44 : ∀ (pa : Nat → Nat) (pb : Nat → Nat) (p_mine : Nat → Int64) (p_theirs : Nat → Int64) (p_dice : Nat → Int32) (p_size : Int32) (f_mine : Nat → Int64) (f_theirs : Nat → Int64) (f_dice : Nat → Int32) (f_size : Int32) (e_mine : Nat → Int64) (e_theirs : Nat → Int64) (e_dice : Nat → Int32) (e_size : Int32) (H : Heap) (locs : List Loc), va_P D vwCl (wPl cI cJ h0 (pa 0) (pb 0) (pc 0) pa pb pc p_mine p_theirs p_dice p_size f_mine f_theirs f_dice f_size e_mine e_theirs e_dice e_size) H → va_D A (wPl cI cJ h0 (pa 0) (pb 0) (pc 0) pa pb pc p_mine p_theirs p_dice p_size f_mine f_theirs f_dice f_size e_mine e_theirs e_dice e_size) → va_S A z.heap H locs → ∀ ls : Array Slot, lv_has ls 10 [(0, .ref h0), (6, .int (k_b a6))] → mX4_countEnds_44 a1 a3 a5 a6 p_mine p_theirs p_dice p_size f_mine f_theirs f_dice f_size e_mine e_theirs e_dice e_size = some (r, p_mine', p_theirs', p_dice', p_size', f_mine', f_theirs', f_dice', f_size', e_mine', e_theirs', e_dice', e_size') → W p l e rmX4_countEnds z m ([.ref h0, .long a1, .long a3, .int a5, .int (k_b a6)] : List Value).toArray below meth c H locs 0 0 (k_QiE below ([.ref h0, .long a1, .long a3, .int a5, .int (k_b a6)] : List Value) D (kT cI cJ cC cG) z A (fun u : (Nat → Nat) × (Nat → Nat) => (wPl cI cJ h0 ((u.1) 0) ((u.2) 0) (pc 0) (u.1) (u.2) pc p_mine' p_theirs' p_dice' p_size' f_mine' f_theirs' f_dice' f_size' e_mine' e_theirs' e_dice' e_size')) r) (F0 m 44 ls []) := by
    intro pa pb p_mine p_theirs p_dice p_size f_mine f_theirs f_dice f_size e_mine e_theirs e_dice e_size H locs hP hD hS ls hl hm
    unfold mX4_countEnds_44 at hm
    refine lv_iconst (v := 0) hx hb dX4_countEnds_44 (by decide) ?_
    refine lv_istore (lv' := [(7, .int 0), (0, .ref h0), (6, .int (k_b a6))]) hx hb dX4_countEnds_45 hl (by decide) rfl (fun ls hl => ?_)
    exact J_47 pa pb 0 p_mine p_theirs p_dice p_size f_mine f_theirs f_dice f_size e_mine e_theirs e_dice e_size _ _ hP hD hS _ (lv_sub hl [1, 2, 0] rfl) hm
  unfold mX4_countEnds at hm
  refine lv_aload_n hx hb dX4_countEnds_0 rfl (lv_at hl 0 rfl) ?_
  refine va_get (D := D) (ci := 2) (v := .ref (pc 0)) (C := RX4) (T := TX4) (N := 3) hx hb hts hinX4 hown hK hP 0 rfl rfl 2 (by decide) fl19 (fun _ h9 => h9) rfl dX4_countEnds_1 ?_
  obtain ⟨w13, hc4, hm⟩ := k_bds hm
  have hPc : va_P D vwCl (wPo cI cJ pc e_mine e_theirs e_dice e_size) _ := k_Psub hP [9, 10, 11, 12] rfl
  have hDc : va_D A (wPo cI cJ pc e_mine e_theirs e_dice e_size) := hD.sub [9, 10, 11, 12] (by decide) rfl
  refine k_v_c (Wf := (wPl cI cJ h0 (pa 0) (pb 0) (pc 0) pa pb pc p_mine p_theirs p_dice p_size f_mine f_theirs f_dice f_size e_mine e_theirs e_dice w13)) [9, 10, 11, 12] [0, 1, 2, 3, 4, 5, 6, 7, 8] [0, 1, 2, 3, 4, 5, 6, 7, 8, 9, 10, 11, 12] (k_rV (As := []) (rest := []) ⟨hx, hb, hml, hown, hts⟩ hK hN hPc hDc (zX5_clear hc4) (cwV 0 hts gX4_countEnds_X5_clear rfl rfl rfl (by decide +kernel) ⟨Nat.le_of_ble_eq_true rfl, Nat.le_of_ble_eq_true rfl⟩) rfl rfl rfl hl.1 rfl (Nat.le_of_ble_eq_true rfl) dX4_countEnds_4 ⟨Nat.zero_le _, Nat.zero_le _⟩) hP hD hS hA rfl rfl (by decide) (by decide) rfl (by decide) (fun H locs hP hD hS => ?_)
  refine lv_aload_n hx hb dX4_countEnds_7 rfl (lv_at hl 0 rfl) ?_
  refine va_get (D := D) (ci := 2) (v := .ref (pa 0)) (C := RX4) (T := TX4) (N := 3) hx hb hts hinX4 hown hK hP 0 rfl rfl 0 (by decide) fl10 (fun _ h9 => h9) rfl dX4_countEnds_8 ?_
  obtain ⟨w14, hc11, hm⟩ := k_bds hm
  have hPc : va_P D vwCl (wPo cI cJ pa p_mine p_theirs p_dice p_size) _ := k_Psub hP [1, 2, 3, 4] rfl
  have hDc : va_D A (wPo cI cJ pa p_mine p_theirs p_dice p_size) := hD.sub [1, 2, 3, 4] (by decide) rfl
  refine k_v_c (Wf := (wPl cI cJ h0 (pa 0) (pb 0) (pc 0) pa pb pc p_mine p_theirs p_dice w14 f_mine f_theirs f_dice f_size e_mine e_theirs e_dice w13)) [1, 2, 3, 4] [0, 5, 6, 7, 8, 9, 10, 11, 12] [0, 9, 10, 11, 12, 1, 2, 3, 4, 5, 6, 7, 8] (k_rV (As := []) (rest := []) ⟨hx, hb, hml, hown, hts⟩ hK hN hPc hDc (zX5_clear hc11) (cwV 0 hts gX4_countEnds_X5_clear rfl rfl rfl (by decide +kernel) ⟨Nat.le_of_ble_eq_true rfl, Nat.le_of_ble_eq_true rfl⟩) rfl rfl rfl hl.1 rfl (Nat.le_of_ble_eq_true rfl) dX4_countEnds_11 ⟨Nat.zero_le _, Nat.zero_le _⟩) hP hD hS hA rfl rfl (by decide) (by decide) rfl (by decide) (fun H locs hP hD hS => ?_)
  refine lv_aload_n hx hb dX4_countEnds_14 rfl (lv_at hl 0 rfl) ?_
  refine va_get (D := D) (ci := 2) (v := .ref (pa 0)) (C := RX4) (T := TX4) (N := 3) hx hb hts hinX4 hown hK hP 0 rfl rfl 0 (by decide) fl10 (fun _ h9 => h9) rfl dX4_countEnds_15 ?_
  refine lv_lload_n hx hb dX4_countEnds_18 rfl (lv_at hl 1 rfl) ?_
  refine lv_lload_n hx hb dX4_countEnds_19 rfl (lv_at hl 2 rfl) ?_
  refine lv_iload hx hb dX4_countEnds_20 (lv_at hl 3 rfl) ?_
  obtain ⟨w15, w16, w17, w18, hc22, hm⟩ := k_bd4s hm
  have hPc : va_P D vwCl (wPo cI cJ pa p_mine p_theirs p_dice w14) _ := k_Psub hP [1, 2, 3, 4] rfl
  have hDc : va_D A (wPo cI cJ pa p_mine p_theirs p_dice w14) := hD.sub [1, 2, 3, 4] (by decide) rfl
  refine k_v_c (Wf := (wPl cI cJ h0 (pa 0) (pb 0) (pc 0) pa pb pc w15 w16 w17 w18 f_mine f_theirs f_dice f_size e_mine e_theirs e_dice w13)) [1, 2, 3, 4] [0, 5, 6, 7, 8, 9, 10, 11, 12] [0, 9, 10, 11, 12, 1, 2, 3, 4, 5, 6, 7, 8] (k_rV (As := [.long a1, .long a3, .int a5]) (rest := []) ⟨hx, hb, hml, hown, hts⟩ hK hN hPc hDc (zX5_add hc22) (cwV 3 hts gX4_countEnds_X5_add rfl rfl rfl (by decide +kernel) ⟨Nat.le_of_ble_eq_true rfl, Nat.le_of_ble_eq_true rfl⟩) rfl rfl rfl hl.1 rfl (Nat.le_of_ble_eq_true rfl) dX4_countEnds_22 ⟨Nat.zero_le _, Nat.zero_le _⟩) hP hD hS hA rfl rfl (by decide) (by decide) rfl (by decide) (fun H locs hP hD hS => ?_)
  refine lv_iload hx hb dX4_countEnds_25 (lv_at hl 4 rfl) ?_
  refine lv_if_eq (tgt := 44) hx hb dX4_countEnds_27 (by decide) (fun cc27 => ?_) (fun cc27 => ?_)
  · have hm := k_ip cc27 hm
    exact J_44 pa pb w15 w16 w17 w18 f_mine f_theirs f_dice f_size e_mine e_theirs e_dice w13 _ _ hP hD hS _ (lv_sub hl [0, 4] rfl) hm
  · have hm := k_in cc27 hm
    refine lv_aload_n hx hb dX4_countEnds_30 rfl (lv_at hl 0 rfl) ?_
    refine va_get (D := D) (ci := 2) (v := .ref (pa 0)) (C := RX4) (T := TX4) (N := 3) hx hb hts hinX4 hown hK hP 0 rfl rfl 0 (by decide) fl10 (fun _ h9 => h9) rfl dX4_countEnds_31 ?_
    refine lv_lload_n hx hb dX4_countEnds_34 rfl (lv_at hl 1 rfl) ?_
    refine lv_lload_n hx hb dX4_countEnds_35 rfl (lv_at hl 2 rfl) ?_
    refine lv_iload hx hb dX4_countEnds_36 (lv_at hl 3 rfl) ?_
    obtain ⟨r19, hc38, hm⟩ := k_bds hm
    refine k_i_0 (k_rS (As := [.int a5]) (rest := [.long a3, .long a1, .ref (pa 0)]) ⟨hx, hb, hml, hown, hts⟩ hK hN k_P0 (k_D0 (A := A)) (zX0_turned hc38) (va_cwS 1 hts gX4_countEnds_X0_turned rfl rfl rfl (by decide +kernel) ⟨Nat.le_of_ble_eq_true rfl, Nat.le_of_ble_eq_true rfl⟩) rfl hl.1 rfl (Nat.le_of_ble_eq_true rfl) dX4_countEnds_38 ⟨Nat.zero_le _, Nat.zero_le _⟩) hP hS hA (fun H locs hP hS => ?_)
    obtain ⟨w20, w21, w22, w23, hc41, hm⟩ := k_bd4s hm
    have hPc : va_P D vwCl (wPo cI cJ pa w15 w16 w17 w18) _ := k_Psub hP [1, 2, 3, 4] rfl
    have hDc : va_D A (wPo cI cJ pa w15 w16 w17 w18) := hD.sub [1, 2, 3, 4] (by decide) rfl
    refine k_v_c (Wf := (wPl cI cJ h0 (pa 0) (pb 0) (pc 0) pa pb pc w20 w21 w22 w23 f_mine f_theirs f_dice f_size e_mine e_theirs e_dice w13)) [1, 2, 3, 4] [0, 5, 6, 7, 8, 9, 10, 11, 12] [0, 9, 10, 11, 12, 1, 2, 3, 4, 5, 6, 7, 8] (k_rV (As := [.long a1, .long a3, .int r19]) (rest := []) ⟨hx, hb, hml, hown, hts⟩ hK hN hPc hDc (zX5_add hc41) (cwV 3 hts gX4_countEnds_X5_add rfl rfl rfl (by decide +kernel) ⟨Nat.le_of_ble_eq_true rfl, Nat.le_of_ble_eq_true rfl⟩) rfl rfl rfl hl.1 rfl (Nat.le_of_ble_eq_true rfl) dX4_countEnds_41 ⟨Nat.zero_le _, Nat.zero_le _⟩) hP hD hS hA rfl rfl (by decide) (by decide) rfl (by decide) (fun H locs hP hD hS => ?_)
    exact J_44 pa pb w20 w21 w22 w23 f_mine f_theirs f_dice f_size e_mine e_theirs e_dice w13 _ _ hP hD hS _ (lv_sub hl [0, 4] rfl) hm

