abbrev rmX0_isDie : Room := { frames := 0, cells := 0, slots := 0, locals := 0 }
set_option maxHeartbeats 4000000 in
set_option maxRecDepth 100000 in
theorem zX0_isDie {l : Launch} {D : va_G} {cI cJ cC cG : ClassId} {sz : Nat}  {a0 : Int32} {r : Bool} (hm : mX0_isDie a0 = some (r)) : k_Mi l yX0_isDie wsX0_isDie rmX0_isDie D (kT cI cJ cC cG) sz ([.int a0] : List Value) [] [] (k_b r) := by
  refine k_st_i (cc := cX0_isDie) (maxL := 1) (by decide) rfl (Nat.le_of_ble_eq_true rfl) ?_
  intro p e z m below meth c A hx hb hr hml hts hown hlocks hsz hN hA hK hP hD hS ls hl
  have hown : z.vm.findClass RX0 = some m.cls := hown
  have hl : lv_has ls 1 [(0, .int a0)] := hl
  unfold mX0_isDie at hm
  refine lv_iload_n hx hb dX0_isDie_0 rfl (lv_at hl 0 rfl) ?_
  refine lv_iconst (v := 1) hx hb dX0_isDie_1 (by decide) ?_
  refine lv_icmp_lt (tgt := 15) hx hb dX0_isDie_2 (by decide) (fun cc2 => ?_) (fun cc2 => ?_)
  · have hm := k_ip cc2 hm
    refine lv_iconst (v := 0) hx hb dX0_isDie_15 (by decide) ?_
    cases hm
    exact k_end_z false hx hb hr hlocks hK hP hD hS dX0_isDie_16
  · have hm := k_in cc2 hm
    refine lv_iload_n hx hb dX0_isDie_5 rfl (lv_at hl 0 rfl) ?_
    refine lv_bipush (v := 6) hx hb dX0_isDie_6 (by decide) ?_
    refine lv_icmp_gt (tgt := 15) hx hb dX0_isDie_8 (by decide) (fun cc8 => ?_) (fun cc8 => ?_)
    · have hm := k_ip cc8 hm
      refine lv_iconst (v := 0) hx hb dX0_isDie_15 (by decide) ?_
      cases hm
      exact k_end_z false hx hb hr hlocks hK hP hD hS dX0_isDie_16
    · have hm := k_in cc8 hm
      refine lv_iconst (v := 1) hx hb dX0_isDie_11 (by decide) ?_
      refine lv_goto (tgt := 16) hx hb dX0_isDie_12 (by decide) ?_
      cases hm
      exact k_end_z true hx hb hr hlocks hK hP hD hS dX0_isDie_16

abbrev rmX0_rolled : Room := { frames := 0, cells := 0, slots := 0, locals := 0 }
set_option maxHeartbeats 4000000 in
set_option maxRecDepth 100000 in
theorem zX0_rolled {l : Launch} {D : va_G} {cI cJ cC cG : ClassId} {sz : Nat}  {a0 : Int32} {a1 : Int32} {r : Int32} (hm : mX0_rolled a0 a1 = some (r)) : k_Mi l yX0_rolled wsX0_rolled rmX0_rolled D (kT cI cJ cC cG) sz ([.int a0, .int a1] : List Value) [] [] r := by
  refine k_st_i (cc := cX0_rolled) (maxL := 3) (by decide) rfl (Nat.le_of_ble_eq_true rfl) ?_
  intro p e z m below meth c A hx hb hr hml hts hown hlocks hsz hN hA hK hP hD hS ls hl
  have hown : z.vm.findClass RX0 = some m.cls := hown
  have hl : lv_has ls 3 [(0, .int a0), (1, .int a1)] := hl
  unfold mX0_rolled at hm
  refine lv_iload_n hx hb dX0_rolled_0 rfl (lv_at hl 0 rfl) ?_
  refine lv_iload_n hx hb dX0_rolled_1 rfl (lv_at hl 1 rfl) ?_
  refine lv_iconst (v := 3) hx hb dX0_rolled_2 (by decide) ?_
  refine lv_ishl hx hb dX0_rolled_3 ?_
  refine lv_ior hx hb dX0_rolled_4 ?_
  refine lv_istore_n (lv' := [(2, .int (a0 ||| (a1 <<< ((3 : Int32) &&& 31)))), (0, .int a0), (1, .int a1)]) hx hb dX0_rolled_5 rfl hl (by decide) rfl (fun ls hl => ?_)
  refine lv_iload_n hx hb dX0_rolled_6 rfl (lv_at hl 1 rfl) ?_
  refine lv_iload_n hx hb dX0_rolled_7 rfl (lv_at hl 2 rfl) ?_
  refine lv_icmp_ne (tgt := 20) hx hb dX0_rolled_8 (by decide) (fun cc8 => ?_) (fun cc8 => ?_)
  · have hm := k_in cc8 hm
    refine lv_iload_n hx hb dX0_rolled_20 rfl (lv_at hl 0 rfl) ?_
    cases hm
    exact k_end_i hx hb hr hlocks hK hP hD hS dX0_rolled_21
  · have hm := k_ip cc8 hm
    refine lv_iload_n hx hb dX0_rolled_11 rfl (lv_at hl 0 rfl) ?_
    refine lv_iload_n hx hb dX0_rolled_12 rfl (lv_at hl 0 rfl) ?_
    refine lv_bipush (v := 6) hx hb dX0_rolled_13 (by decide) ?_
    refine lv_ishl hx hb dX0_rolled_15 ?_
    refine lv_ior hx hb dX0_rolled_16 ?_
    refine lv_goto (tgt := 21) hx hb dX0_rolled_17 (by decide) ?_
    cases hm
    exact k_end_i hx hb hr hlocks hK hP hD hS dX0_rolled_21

abbrev rmX0_at : Room := { frames := 0, cells := 0, slots := 0, locals := 0 }
set_option maxHeartbeats 4000000 in
set_option maxRecDepth 100000 in
theorem zX0_at {l : Launch} {D : va_G} {cI cJ cC cG : ClassId} {sz : Nat}  {a0 : Int32} {a1 : Int32} {r : Int32} (hm : mX0_at a0 a1 = some (r)) : k_Mi l yX0_at wsX0_at rmX0_at D (kT cI cJ cC cG) sz ([.int a0, .int a1] : List Value) [] [] r := by
  refine k_st_i (cc := cX0_at) (maxL := 2) (by decide) rfl (Nat.le_of_ble_eq_true rfl) ?_
  intro p e z m below meth c A hx hb hr hml hts hown hlocks hsz hN hA hK hP hD hS ls hl
  have hown : z.vm.findClass RX0 = some m.cls := hown
  have hl : lv_has ls 2 [(0, .int a0), (1, .int a1)] := hl
  unfold mX0_at at hm
  refine lv_iload_n hx hb dX0_at_0 rfl (lv_at hl 0 rfl) ?_
  refine lv_iconst (v := 3) hx hb dX0_at_1 (by decide) ?_
  refine lv_iload_n hx hb dX0_at_2 rfl (lv_at hl 1 rfl) ?_
  refine lv_imul hx hb dX0_at_3 ?_
  refine lv_iushr (v := (k_iushr a0 (3 * a1))) hx hb dX0_at_4 rfl ?_
  refine lv_bipush (v := 7) hx hb dX0_at_5 (by decide) ?_
  refine lv_iand hx hb dX0_at_7 ?_
  cases hm
  exact k_end_i hx hb hr hlocks hK hP hD hS dX0_at_8

abbrev rmX0_count : Room := { frames := 1, cells := 0, slots := 0, locals := 21 }
set_option maxHeartbeats 4000000 in
set_option maxRecDepth 100000 in
theorem zX0_count {l : Launch} {D : va_G} {cI cJ cC cG : ClassId} {sz : Nat}  {a0 : Int32} {r : Int32} (hm : mX0_count a0 = some (r)) : k_Mi l yX0_count wsX0_count rmX0_count D (kT cI cJ cC cG) sz ([.int a0] : List Value) [] [] r := by
  refine k_st_i (cc := cX0_count) (maxL := 3) (by decide) rfl (Nat.le_of_ble_eq_true rfl) ?_
  intro p e z m below meth c A hx hb hr hml hts hown hlocks hsz hN hA hK hP hD hS ls hl
  have hown : z.vm.findClass RX0 = some m.cls := hown
  have hl : lv_has ls 3 [(0, .int a0)] := hl
  have J_4 := k_loop (z := fun _ _ => none) (st := mX0_count_4 a0) (fun k4 : (Int32) → (Int32) → Option (Int32) => ∀ (l1 : Int32) (l2 : Int32) (H : Heap) (locs : List Loc), va_P D vwCl [] H → va_D A [] → va_S A z.heap H locs → ∀ ls : Array Slot, lv_has ls 3 [(0, .int a0), (1, .int l1), (2, .int l2)] → k4 l1 l2 = some (r) → W p l e rmX0_count z m ([.int a0] : List Value).toArray below meth c H locs 0 0 (k_Qi below ([.int a0] : List Value) D (kT cI cJ cC cG) z A [] r) (F0 m 4 ls [])) (by intros; contradiction) (by
    intro k4 ih4
    intro l1 l2 H locs hP hD hS ls hl hm
    unfold mX0_count_4 at hm
    refine lv_iload_n hx hb dX0_count_4 rfl (lv_at hl 2 rfl) ?_
    refine lv_iconst (v := 4) hx hb dX0_count_5 (by decide) ?_
    refine lv_icmp_ge (tgt := 31) hx hb dX0_count_6 (by decide) (fun cc6 => ?_) (fun cc6 => ?_)
    · have hm := k_ip cc6 hm
      refine lv_iload_n hx hb dX0_count_31 rfl (lv_at hl 1 rfl) ?_
      cases hm
      exact k_end_i hx hb hr hlocks hK hP hD hS dX0_count_32
    · have hm := k_in cc6 hm
      refine lv_iload_n hx hb dX0_count_9 rfl (lv_at hl 1 rfl) ?_
      refine lv_iload_n hx hb dX0_count_10 rfl (lv_at hl 0 rfl) ?_
      refine lv_iload_n hx hb dX0_count_11 rfl (lv_at hl 2 rfl) ?_
      obtain ⟨r1, hc12, hm⟩ := k_bds hm
      refine k_i_0 (k_rS (As := [.int a0, .int l2]) (rest := [.int l1]) ⟨hx, hb, hml, hown, hts⟩ hK hN k_P0 (k_D0 (A := A)) (zX0_at hc12) (va_cwS 2 hts gX0_count_X0_at rfl rfl rfl (by decide +kernel) ⟨Nat.le_of_ble_eq_true rfl, Nat.le_of_ble_eq_true rfl⟩) rfl hl.1 rfl (Nat.le_of_ble_eq_true rfl) dX0_count_12 ⟨Nat.zero_le _, Nat.zero_le _⟩) hP hS hA (fun H locs hP hS => ?_)
      refine lv_if_ne (tgt := 22) hx hb dX0_count_15 (by decide) (fun cc15 => ?_) (fun cc15 => ?_)
      · have hm := k_in cc15 hm
        refine lv_iconst (v := 1) hx hb dX0_count_22 (by decide) ?_
        refine lv_iadd hx hb dX0_count_23 ?_
        refine lv_istore_n (lv' := [(1, .int (l1 + 1)), (0, .int a0), (2, .int l2)]) hx hb dX0_count_24 rfl hl (by decide) rfl (fun ls hl => ?_)
        refine lv_iinc (v := (l2 + 1)) (lv' := [(2, .int (l2 + 1)), (1, .int (l1 + 1)), (0, .int a0)]) hx hb dX0_count_25 hl (k := 2) rfl rfl (by decide) rfl (fun ls hl => ?_)
        refine lv_goto (tgt := 4) hx hb dX0_count_28 (by decide) ?_
        exact ih4 (l1 + 1) (l2 + 1) _ _ hP hD hS _ (lv_sub hl [2, 1, 0] rfl) hm
      · have hm := k_ip cc15 hm
        refine lv_iconst (v := 0) hx hb dX0_count_18 (by decide) ?_
        refine lv_goto (tgt := 23) hx hb dX0_count_19 (by decide) ?_
        refine lv_iadd hx hb dX0_count_23 ?_
        refine lv_istore_n (lv' := [(1, .int (l1 + 0)), (0, .int a0), (2, .int l2)]) hx hb dX0_count_24 rfl hl (by decide) rfl (fun ls hl => ?_)
        refine lv_iinc (v := (l2 + 1)) (lv' := [(2, .int (l2 + 1)), (1, .int (l1 + 0)), (0, .int a0)]) hx hb dX0_count_25 hl (k := 2) rfl rfl (by decide) rfl (fun ls hl => ?_)
        refine lv_goto (tgt := 4) hx hb dX0_count_28 (by decide) ?_
        exact ih4 (l1 + 0) (l2 + 1) _ _ hP hD hS _ (lv_sub hl [2, 1, 0] rfl) hm) k_F
  unfold mX0_count at hm
  refine lv_iconst (v := 0) hx hb dX0_count_0 (by decide) ?_
  refine lv_istore_n (lv' := [(1, .int 0), (0, .int a0)]) hx hb dX0_count_1 rfl hl (by decide) rfl (fun ls hl => ?_)
  refine lv_iconst (v := 0) hx hb dX0_count_2 (by decide) ?_
  refine lv_istore_n (lv' := [(2, .int 0), (1, .int 0), (0, .int a0)]) hx hb dX0_count_3 rfl hl (by decide) rfl (fun ls hl => ?_)
  exact J_4 0 0 _ _ hP hD hS _ (lv_sub hl [2, 1, 0] rfl) hm

abbrev rmX0_kinds : Room := { frames := 1, cells := 0, slots := 0, locals := 21 }
set_option maxHeartbeats 4000000 in
set_option maxRecDepth 100000 in
theorem zX0_kinds {l : Launch} {D : va_G} {cI cJ cC cG : ClassId} {sz : Nat}  {a0 : Int32} {r : Int32} (hm : mX0_kinds a0 = some (r)) : k_Mi l yX0_kinds wsX0_kinds rmX0_kinds D (kT cI cJ cC cG) sz ([.int a0] : List Value) [] [] r := by
  refine k_st_i (cc := cX0_kinds) (maxL := 1) (by decide) rfl (Nat.le_of_ble_eq_true rfl) ?_
  intro p e z m below meth c A hx hb hr hml hts hown hlocks hsz hN hA hK hP hD hS ls hl
  have hown : z.vm.findClass RX0 = some m.cls := hown
  have hl : lv_has ls 1 [(0, .int a0)] := hl
  unfold mX0_kinds at hm
  refine lv_iload_n hx hb dX0_kinds_0 rfl (lv_at hl 0 rfl) ?_
  refine lv_if_ne (tgt := 6) hx hb dX0_kinds_1 (by decide) (fun cc1 => ?_) (fun cc1 => ?_)
  · have hm := k_in cc1 hm
    refine lv_iload_n hx hb dX0_kinds_6 rfl (lv_at hl 0 rfl) ?_
    refine lv_iconst (v := 1) hx hb dX0_kinds_7 (by decide) ?_
    obtain ⟨r1, hc8, hm⟩ := k_bds hm
    refine k_i_0 (k_rS (As := [.int a0, .int 1]) (rest := []) ⟨hx, hb, hml, hown, hts⟩ hK hN k_P0 (k_D0 (A := A)) (zX0_at hc8) (va_cwS 2 hts gX0_kinds_X0_at rfl rfl rfl (by decide +kernel) ⟨Nat.le_of_ble_eq_true rfl, Nat.le_of_ble_eq_true rfl⟩) rfl hl.1 rfl (Nat.le_of_ble_eq_true rfl) dX0_kinds_8 ⟨Nat.zero_le _, Nat.zero_le _⟩) hP hS hA (fun H locs hP hS => ?_)
    refine lv_if_eq (tgt := 31) hx hb dX0_kinds_11 (by decide) (fun cc11 => ?_) (fun cc11 => ?_)
    · have hm := k_ip cc11 hm
      refine lv_iconst (v := 1) hx hb dX0_kinds_31 (by decide) ?_
      cases hm
      exact k_end_i hx hb hr hlocks hK hP hD hS dX0_kinds_32
    · have hm := k_in cc11 hm
      refine lv_iload_n hx hb dX0_kinds_14 rfl (lv_at hl 0 rfl) ?_
      refine lv_iconst (v := 0) hx hb dX0_kinds_15 (by decide) ?_
      obtain ⟨r2, hc16, hm⟩ := k_bds hm
      refine k_i_0 (k_rS (As := [.int a0, .int 0]) (rest := []) ⟨hx, hb, hml, hown, hts⟩ hK hN k_P0 (k_D0 (A := A)) (zX0_at hc16) (va_cwS 2 hts gX0_kinds_X0_at rfl rfl rfl (by decide +kernel) ⟨Nat.le_of_ble_eq_true rfl, Nat.le_of_ble_eq_true rfl⟩) rfl hl.1 rfl (Nat.le_of_ble_eq_true rfl) dX0_kinds_16 ⟨Nat.zero_le _, Nat.zero_le _⟩) hP hS hA (fun H locs hP hS => ?_)
      refine lv_iload_n hx hb dX0_kinds_19 rfl (lv_at hl 0 rfl) ?_
      refine lv_iconst (v := 1) hx hb dX0_kinds_20 (by decide) ?_
      obtain ⟨r3, hc21, hm⟩ := k_bds hm
      refine k_i_0 (k_rS (As := [.int a0, .int 1]) (rest := [.int r2]) ⟨hx, hb, hml, hown, hts⟩ hK hN k_P0 (k_D0 (A := A)) (zX0_at hc21) (va_cwS 2 hts gX0_kinds_X0_at rfl rfl rfl (by decide +kernel) ⟨Nat.le_of_ble_eq_true rfl, Nat.le_of_ble_eq_true rfl⟩) rfl hl.1 rfl (Nat.le_of_ble_eq_true rfl) dX0_kinds_21 ⟨Nat.zero_le _, Nat.zero_le _⟩) hP hS hA (fun H locs hP hS => ?_)
      refine lv_icmp_eq (tgt := 31) hx hb dX0_kinds_24 (by decide) (fun cc24 => ?_) (fun cc24 => ?_)
      · have hm := k_ip cc24 hm
        refine lv_iconst (v := 1) hx hb dX0_kinds_31 (by decide) ?_
        cases hm
        exact k_end_i hx hb hr hlocks hK hP hD hS dX0_kinds_32
      · have hm := k_in cc24 hm
        refine lv_iconst (v := 2) hx hb dX0_kinds_27 (by decide) ?_
        refine lv_goto (tgt := 32) hx hb dX0_kinds_28 (by decide) ?_
        cases hm
        exact k_end_i hx hb hr hlocks hK hP hD hS dX0_kinds_32
  · have hm := k_ip cc1 hm
    refine lv_iconst (v := 0) hx hb dX0_kinds_4 (by decide) ?_
    cases hm
    exact k_end_i hx hb hr hlocks hK hP hD hS dX0_kinds_5

abbrev rmX0_has : Room := { frames := 0, cells := 0, slots := 0, locals := 0 }
set_option maxHeartbeats 4000000 in
set_option maxRecDepth 100000 in
theorem zX0_has {l : Launch} {D : va_G} {cI cJ cC cG : ClassId} {sz : Nat}  {a0 : Int32} {a1 : Int32} {r : Bool} (hm : mX0_has a0 a1 = some (r)) : k_Mi l yX0_has wsX0_has rmX0_has D (kT cI cJ cC cG) sz ([.int a0, .int a1] : List Value) [] [] (k_b r) := by
  refine k_st_i (cc := cX0_has) (maxL := 2) (by decide) rfl (Nat.le_of_ble_eq_true rfl) ?_
  intro p e z m below meth c A hx hb hr hml hts hown hlocks hsz hN hA hK hP hD hS ls hl
  have hown : z.vm.findClass RX0 = some m.cls := hown
  have hl : lv_has ls 2 [(0, .int a0), (1, .int a1)] := hl
  unfold mX0_has at hm
  refine lv_iload_n hx hb dX0_has_0 rfl (lv_at hl 0 rfl) ?_
  refine lv_bipush (v := 7) hx hb dX0_has_1 (by decide) ?_
  refine lv_iand hx hb dX0_has_3 ?_
  refine lv_iload_n hx hb dX0_has_4 rfl (lv_at hl 1 rfl) ?_
  refine lv_icmp_eq (tgt := 18) hx hb dX0_has_5 (by decide) (fun cc5 => ?_) (fun cc5 => ?_)
  · have hm := k_ip cc5 hm
    refine lv_iconst (v := 1) hx hb dX0_has_18 (by decide) ?_
    refine lv_goto (tgt := 23) hx hb dX0_has_19 (by decide) ?_
    cases hm
    exact k_end_z true hx hb hr hlocks hK hP hD hS dX0_has_23
  · have hm := k_in cc5 hm
    refine lv_iload_n hx hb dX0_has_8 rfl (lv_at hl 0 rfl) ?_
    refine lv_iconst (v := 3) hx hb dX0_has_9 (by decide) ?_
    refine lv_iushr (v := (k_iushr a0 3)) hx hb dX0_has_10 rfl ?_
    refine lv_bipush (v := 7) hx hb dX0_has_11 (by decide) ?_
    refine lv_iand hx hb dX0_has_13 ?_
    refine lv_iload_n hx hb dX0_has_14 rfl (lv_at hl 1 rfl) ?_
    refine lv_icmp_ne (tgt := 22) hx hb dX0_has_15 (by decide) (fun cc15 => ?_) (fun cc15 => ?_)
    · have hm := k_in cc15 hm
      refine lv_iconst (v := 0) hx hb dX0_has_22 (by decide) ?_
      cases hm
      exact k_end_z false hx hb hr hlocks hK hP hD hS dX0_has_23
    · have hm := k_ip cc15 hm
      refine lv_iconst (v := 1) hx hb dX0_has_18 (by decide) ?_
      refine lv_goto (tgt := 23) hx hb dX0_has_19 (by decide) ?_
      cases hm
      exact k_end_z true hx hb hr hlocks hK hP hD hS dX0_has_23

abbrev rmX0_without : Room := { frames := 1, cells := 0, slots := 0, locals := 21 }
set_option maxHeartbeats 4000000 in
set_option maxRecDepth 100000 in
theorem zX0_without {l : Launch} {D : va_G} {cI cJ cC cG : ClassId} {sz : Nat}  {a0 : Int32} {a1 : Int32} {r : Int32} (hm : mX0_without a0 a1 = some (r)) : k_Mi l yX0_without wsX0_without rmX0_without D (kT cI cJ cC cG) sz ([.int a0, .int a1] : List Value) [] [] r := by
  refine k_st_i (cc := cX0_without) (maxL := 2) (by decide) rfl (Nat.le_of_ble_eq_true rfl) ?_
  intro p e z m below meth c A hx hb hr hml hts hown hlocks hsz hN hA hK hP hD hS ls hl
  have hown : z.vm.findClass RX0 = some m.cls := hown
  have hl : lv_has ls 2 [(0, .int a0), (1, .int a1)] := hl
  unfold mX0_without at hm
  refine lv_iload_n hx hb dX0_without_0 rfl (lv_at hl 0 rfl) ?_
  refine lv_iconst (v := 0) hx hb dX0_without_1 (by decide) ?_
  obtain ⟨r1, hc2, hm⟩ := k_bds hm
  refine k_i_0 (k_rS (As := [.int a0, .int 0]) (rest := []) ⟨hx, hb, hml, hown, hts⟩ hK hN k_P0 (k_D0 (A := A)) (zX0_at hc2) (va_cwS 2 hts gX0_without_X0_at rfl rfl rfl (by decide +kernel) ⟨Nat.le_of_ble_eq_true rfl, Nat.le_of_ble_eq_true rfl⟩) rfl hl.1 rfl (Nat.le_of_ble_eq_true rfl) dX0_without_2 ⟨Nat.zero_le _, Nat.zero_le _⟩) hP hS hA (fun H locs hP hS => ?_)
  refine lv_iload_n hx hb dX0_without_5 rfl (lv_at hl 1 rfl) ?_
  refine lv_icmp_ne (tgt := 13) hx hb dX0_without_6 (by decide) (fun cc6 => ?_) (fun cc6 => ?_)
  · have hm := k_in cc6 hm
    refine lv_iload_n hx hb dX0_without_13 rfl (lv_at hl 0 rfl) ?_
    refine lv_iconst (v := 1) hx hb dX0_without_14 (by decide) ?_
    obtain ⟨r2, hc15, hm⟩ := k_bds hm
    refine k_i_0 (k_rS (As := [.int a0, .int 1]) (rest := []) ⟨hx, hb, hml, hown, hts⟩ hK hN k_P0 (k_D0 (A := A)) (zX0_at hc15) (va_cwS 2 hts gX0_without_X0_at rfl rfl rfl (by decide +kernel) ⟨Nat.le_of_ble_eq_true rfl, Nat.le_of_ble_eq_true rfl⟩) rfl hl.1 rfl (Nat.le_of_ble_eq_true rfl) dX0_without_15 ⟨Nat.zero_le _, Nat.zero_le _⟩) hP hS hA (fun H locs hP hS => ?_)
    refine lv_iload_n hx hb dX0_without_18 rfl (lv_at hl 1 rfl) ?_
    refine lv_icmp_ne (tgt := 30) hx hb dX0_without_19 (by decide) (fun cc19 => ?_) (fun cc19 => ?_)
    · have hm := k_in cc19 hm
      refine lv_iload_n hx hb dX0_without_30 rfl (lv_at hl 0 rfl) ?_
      cases hm
      exact k_end_i hx hb hr hlocks hK hP hD hS dX0_without_31
    · have hm := k_ip cc19 hm
      refine lv_iload_n hx hb dX0_without_22 rfl (lv_at hl 0 rfl) ?_
      refine lv_iconst (v := 0) hx hb dX0_without_23 (by decide) ?_
      obtain ⟨r3, hc24, hm⟩ := k_bds hm
      refine k_i_0 (k_rS (As := [.int a0, .int 0]) (rest := []) ⟨hx, hb, hml, hown, hts⟩ hK hN k_P0 (k_D0 (A := A)) (zX0_at hc24) (va_cwS 2 hts gX0_without_X0_at rfl rfl rfl (by decide +kernel) ⟨Nat.le_of_ble_eq_true rfl, Nat.le_of_ble_eq_true rfl⟩) rfl hl.1 rfl (Nat.le_of_ble_eq_true rfl) dX0_without_24 ⟨Nat.zero_le _, Nat.zero_le _⟩) hP hS hA (fun H locs hP hS => ?_)
      refine lv_goto (tgt := 31) hx hb dX0_without_27 (by decide) ?_
      cases hm
      exact k_end_i hx hb hr hlocks hK hP hD hS dX0_without_31
  · have hm := k_ip cc6 hm
    refine lv_iload_n hx hb dX0_without_9 rfl (lv_at hl 0 rfl) ?_
    refine lv_iconst (v := 3) hx hb dX0_without_10 (by decide) ?_
    refine lv_iushr (v := (k_iushr a0 3)) hx hb dX0_without_11 rfl ?_
    cases hm
    exact k_end_i hx hb hr hlocks hK hP hD hS dX0_without_12

abbrev rmX0_turned : Room := { frames := 2, cells := 0, slots := 0, locals := 41 }
set_option maxHeartbeats 4000000 in
set_option maxRecDepth 100000 in
theorem zX0_turned {l : Launch} {D : va_G} {cI cJ cC cG : ClassId} {sz : Nat}  {a0 : Int32} {r : Int32} (hm : mX0_turned a0 = some (r)) : k_Mi l yX0_turned wsX0_turned rmX0_turned D (kT cI cJ cC cG) sz ([.int a0] : List Value) [] [] r := by
  refine k_st_i (cc := cX0_turned) (maxL := 1) (by decide) rfl (Nat.le_of_ble_eq_true rfl) ?_
  intro p e z m below meth c A hx hb hr hml hts hown hlocks hsz hN hA hK hP hD hS ls hl
  have hown : z.vm.findClass RX0 = some m.cls := hown
  have hl : lv_has ls 1 [(0, .int a0)] := hl
  unfold mX0_turned at hm
  refine lv_iload_n hx hb dX0_turned_0 rfl (lv_at hl 0 rfl) ?_
  obtain ⟨r1, hc1, hm⟩ := k_bds hm
  refine k_i_0 (k_rS (As := [.int a0]) (rest := []) ⟨hx, hb, hml, hown, hts⟩ hK hN k_P0 (k_D0 (A := A)) (zX0_kinds hc1) (va_cwS 1 hts gX0_turned_X0_kinds rfl rfl rfl (by decide +kernel) ⟨Nat.le_of_ble_eq_true rfl, Nat.le_of_ble_eq_true rfl⟩) rfl hl.1 rfl (Nat.le_of_ble_eq_true rfl) dX0_turned_1 ⟨Nat.zero_le _, Nat.zero_le _⟩) hP hS hA (fun H locs hP hS => ?_)
  refine lv_iconst (v := 2) hx hb dX0_turned_4 (by decide) ?_
  refine lv_icmp_ne (tgt := 24) hx hb dX0_turned_5 (by decide) (fun cc5 => ?_) (fun cc5 => ?_)
  · have hm := k_in cc5 hm
    refine lv_iload_n hx hb dX0_turned_24 rfl (lv_at hl 0 rfl) ?_
    cases hm
    exact k_end_i hx hb hr hlocks hK hP hD hS dX0_turned_25
  · have hm := k_ip cc5 hm
    refine lv_iload_n hx hb dX0_turned_8 rfl (lv_at hl 0 rfl) ?_
    refine lv_iconst (v := 1) hx hb dX0_turned_9 (by decide) ?_
    obtain ⟨r2, hc10, hm⟩ := k_bds hm
    refine k_i_0 (k_rS (As := [.int a0, .int 1]) (rest := []) ⟨hx, hb, hml, hown, hts⟩ hK hN k_P0 (k_D0 (A := A)) (zX0_at hc10) (va_cwS 2 hts gX0_turned_X0_at rfl rfl rfl (by decide +kernel) ⟨Nat.le_of_ble_eq_true rfl, Nat.le_of_ble_eq_true rfl⟩) rfl hl.1 rfl (Nat.le_of_ble_eq_true rfl) dX0_turned_10 ⟨Nat.zero_le _, Nat.zero_le _⟩) hP hS hA (fun H locs hP hS => ?_)
    refine lv_iload_n hx hb dX0_turned_13 rfl (lv_at hl 0 rfl) ?_
    refine lv_iconst (v := 0) hx hb dX0_turned_14 (by decide) ?_
    obtain ⟨r3, hc15, hm⟩ := k_bds hm
    refine k_i_0 (k_rS (As := [.int a0, .int 0]) (rest := [.int r2]) ⟨hx, hb, hml, hown, hts⟩ hK hN k_P0 (k_D0 (A := A)) (zX0_at hc15) (va_cwS 2 hts gX0_turned_X0_at rfl rfl rfl (by decide +kernel) ⟨Nat.le_of_ble_eq_true rfl, Nat.le_of_ble_eq_true rfl⟩) rfl hl.1 rfl (Nat.le_of_ble_eq_true rfl) dX0_turned_15 ⟨Nat.zero_le _, Nat.zero_le _⟩) hP hS hA (fun H locs hP hS => ?_)
    obtain ⟨r4, hc18, hm⟩ := k_bds hm
    refine k_i_0 (k_rS (As := [.int r2, .int r3]) (rest := []) ⟨hx, hb, hml, hown, hts⟩ hK hN k_P0 (k_D0 (A := A)) (zX0_rolled hc18) (va_cwS 2 hts gX0_turned_X0_rolled rfl rfl rfl (by decide +kernel) ⟨Nat.le_of_ble_eq_true rfl, Nat.le_of_ble_eq_true rfl⟩) rfl hl.1 rfl (Nat.le_of_ble_eq_true rfl) dX0_turned_18 ⟨Nat.zero_le _, Nat.zero_le _⟩) hP hS hA (fun H locs hP hS => ?_)
    refine lv_goto (tgt := 25) hx hb dX0_turned_21 (by decide) ?_
    cases hm
    exact k_end_i hx hb hr hlocks hK hP hD hS dX0_turned_25

abbrev rmX0_greater : Room := { frames := 1, cells := 0, slots := 0, locals := 21 }
set_option maxHeartbeats 4000000 in
set_option maxRecDepth 100000 in
theorem zX0_greater {l : Launch} {D : va_G} {cI cJ cC cG : ClassId} {sz : Nat}  {a0 : Int32} {r : Int32} (hm : mX0_greater a0 = some (r)) : k_Mi l yX0_greater wsX0_greater rmX0_greater D (kT cI cJ cC cG) sz ([.int a0] : List Value) [] [] r := by
  refine k_st_i (cc := cX0_greater) (maxL := 1) (by decide) rfl (Nat.le_of_ble_eq_true rfl) ?_
  intro p e z m below meth c A hx hb hr hml hts hown hlocks hsz hN hA hK hP hD hS ls hl
  have hown : z.vm.findClass RX0 = some m.cls := hown
  have hl : lv_has ls 1 [(0, .int a0)] := hl
  unfold mX0_greater at hm
  refine lv_iload_n hx hb dX0_greater_0 rfl (lv_at hl 0 rfl) ?_
  refine lv_iconst (v := 0) hx hb dX0_greater_1 (by decide) ?_
  obtain ⟨r1, hc2, hm⟩ := k_bds hm
  refine k_i_0 (k_rS (As := [.int a0, .int 0]) (rest := []) ⟨hx, hb, hml, hown, hts⟩ hK hN k_P0 (k_D0 (A := A)) (zX0_at hc2) (va_cwS 2 hts gX0_greater_X0_at rfl rfl rfl (by decide +kernel) ⟨Nat.le_of_ble_eq_true rfl, Nat.le_of_ble_eq_true rfl⟩) rfl hl.1 rfl (Nat.le_of_ble_eq_true rfl) dX0_greater_2 ⟨Nat.zero_le _, Nat.zero_le _⟩) hP hS hA (fun H locs hP hS => ?_)
  refine lv_iload_n hx hb dX0_greater_5 rfl (lv_at hl 0 rfl) ?_
  refine lv_iconst (v := 1) hx hb dX0_greater_6 (by decide) ?_
  obtain ⟨r2, hc7, hm⟩ := k_bds hm
  refine k_i_0 (k_rS (As := [.int a0, .int 1]) (rest := [.int r1]) ⟨hx, hb, hml, hown, hts⟩ hK hN k_P0 (k_D0 (A := A)) (zX0_at hc7) (va_cwS 2 hts gX0_greater_X0_at rfl rfl rfl (by decide +kernel) ⟨Nat.le_of_ble_eq_true rfl, Nat.le_of_ble_eq_true rfl⟩) rfl hl.1 rfl (Nat.le_of_ble_eq_true rfl) dX0_greater_7 ⟨Nat.zero_le _, Nat.zero_le _⟩) hP hS hA (fun H locs hP hS => ?_)
  refine va_mmax hx hb (hml.trans hl.1.symm) hown (hts (.methodLink RX0 20 Lib.Math.max.name) (by decide +kernel)) (hts (.static Lib.Math.max.name) (by decide +kernel)) (hts (.initialized "java/lang/Math") (by decide +kernel)) (hts (.code Lib.Math.max.name Lib.Math.max.code 2 (some .int)) (by decide +kernel)) (Nat.le_of_ble_eq_true rfl) (Nat.le_of_ble_eq_true rfl) (Nat.zero_le _) (Nat.zero_le _) dX0_greater_10 ?_
  refine W.eq (g2 := F0 m 13 _ (.int (k_max r1 r2) :: [])) rfl ?_
  cases hm
  exact k_end_i hx hb hr hlocks hK hP hD hS dX0_greater_13

abbrev rmX3_on : Room := { frames := 0, cells := 0, slots := 0, locals := 0 }
set_option maxHeartbeats 4000000 in
set_option maxRecDepth 100000 in
theorem zX3_on {l : Launch} {D : va_G} {cI cJ cC cG : ClassId} {sz : Nat}  {a0 : Int64} {a2 : Int32} {r : Int32} (hm : mX3_on a0 a2 = some (r)) : k_Mi l yX3_on wsX3_on rmX3_on D (kT cI cJ cC cG) sz ([.long a0, .int a2] : List Value) [] [] r := by
  refine k_st_i (cc := cX3_on) (maxL := 3) (by decide) rfl (Nat.le_of_ble_eq_true rfl) ?_
  intro p e z m below meth c A hx hb hr hml hts hown hlocks hsz hN hA hK hP hD hS ls hl
  have hown : z.vm.findClass RX3 = some m.cls := hown
  have hl : lv_has ls 3 [(0, .long a0), (2, .int a2)] := hl
  unfold mX3_on at hm
  refine lv_lload_n hx hb dX3_on_0 rfl (lv_at hl 0 rfl) ?_
  refine lv_iconst (v := 3) hx hb dX3_on_1 (by decide) ?_
  refine lv_iload_n hx hb dX3_on_2 rfl (lv_at hl 1 rfl) ?_
  refine lv_imul hx hb dX3_on_3 ?_
  refine lv_lushr (v := (k_lushr a0 (3 * a2))) hx hb dX3_on_4 rfl ?_
  refine lv_l2i (v := (Int64.toInt32 (k_lushr a0 (3 * a2)))) hx hb dX3_on_5 rfl ?_
  refine lv_bipush (v := 7) hx hb dX3_on_6 (by decide) ?_
  refine lv_iand hx hb dX3_on_8 ?_
  cases hm
  exact k_end_i hx hb hr hlocks hK hP hD hS dX3_on_9

abbrev rmX3_moved : Room := { frames := 0, cells := 0, slots := 0, locals := 0 }
set_option maxHeartbeats 4000000 in
set_option maxRecDepth 100000 in
theorem zX3_moved {l : Launch} {D : va_G} {cI cJ cC cG : ClassId} {sz : Nat}  {a0 : Int64} {a2 : Int32} {a3 : Int32} {r : Int64} (hm : mX3_moved a0 a2 a3 = some (r)) : k_Ml l yX3_moved wsX3_moved rmX3_moved D (kT cI cJ cC cG) sz ([.long a0, .int a2, .int a3] : List Value) [] [] r := by
  refine k_st_l (cc := cX3_moved) (maxL := 4) (by decide) rfl (Nat.le_of_ble_eq_true rfl) ?_
  intro p e z m below meth c A hx hb hr hml hts hown hlocks hsz hN hA hK hP hD hS ls hl
  have hown : z.vm.findClass RX3 = some m.cls := hown
  have hl : lv_has ls 4 [(0, .long a0), (2, .int a2), (3, .int a3)] := hl
  unfold mX3_moved at hm
  refine lv_lload_n hx hb dX3_moved_0 rfl (lv_at hl 0 rfl) ?_
  refine lv_lconst (v := 1) hx hb dX3_moved_1 (by decide) ?_
  refine lv_iconst (v := 3) hx hb dX3_moved_2 (by decide) ?_
  refine lv_iload_n hx hb dX3_moved_3 rfl (lv_at hl 1 rfl) ?_
  refine lv_imul hx hb dX3_moved_4 ?_
  refine lv_lshl (v := (k_lshl 1 (3 * a2))) hx hb dX3_moved_5 rfl ?_
  refine lv_lsub hx hb dX3_moved_6 ?_
  refine lv_lconst (v := 1) hx hb dX3_moved_7 (by decide) ?_
  refine lv_iconst (v := 3) hx hb dX3_moved_8 (by decide) ?_
  refine lv_iload_n hx hb dX3_moved_9 rfl (lv_at hl 2 rfl) ?_
  refine lv_imul hx hb dX3_moved_10 ?_
  refine lv_lshl (v := (k_lshl 1 (3 * a3))) hx hb dX3_moved_11 rfl ?_
  refine lv_ladd hx hb dX3_moved_12 ?_
  cases hm
  exact k_end_l hx hb hr hlocks hK hP hD hS dX3_moved_13

abbrev rmX3_anyBeyond : Room := { frames := 0, cells := 0, slots := 0, locals := 0 }
set_option maxHeartbeats 4000000 in
set_option maxRecDepth 100000 in
theorem zX3_anyBeyond {l : Launch} {D : va_G} {cI cJ cC cG : ClassId} {sz : Nat}  {a0 : Int64} {a2 : Int32} {r : Bool} (hm : mX3_anyBeyond a0 a2 = some (r)) : k_Mi l yX3_anyBeyond wsX3_anyBeyond rmX3_anyBeyond D (kT cI cJ cC cG) sz ([.long a0, .int a2] : List Value) [] [] (k_b r) := by
  refine k_st_i (cc := cX3_anyBeyond) (maxL := 3) (by decide) rfl (Nat.le_of_ble_eq_true rfl) ?_
  intro p e z m below meth c A hx hb hr hml hts hown hlocks hsz hN hA hK hP hD hS ls hl
  have hown : z.vm.findClass RX3 = some m.cls := hown
  have hl : lv_has ls 3 [(0, .long a0), (2, .int a2)] := hl
  unfold mX3_anyBeyond at hm
  refine lv_lload_n hx hb dX3_anyBeyond_0 rfl (lv_at hl 0 rfl) ?_
  refine lv_iconst (v := 3) hx hb dX3_anyBeyond_1 (by decide) ?_
  refine lv_iload_n hx hb dX3_anyBeyond_2 rfl (lv_at hl 1 rfl) ?_
  refine lv_imul hx hb dX3_anyBeyond_3 ?_
  refine lv_iconst (v := 3) hx hb dX3_anyBeyond_4 (by decide) ?_
  refine lv_iadd hx hb dX3_anyBeyond_5 ?_
  refine lv_lushr (v := (k_lushr a0 ((3 * a2) + 3))) hx hb dX3_anyBeyond_6 rfl ?_
  refine lv_lconst (v := 0) hx hb dX3_anyBeyond_7 (by decide) ?_
  refine W.lcmp hx hb dX3_anyBeyond_8 ?_
  refine lv_if_eq (tgt := 16) hx hb dX3_anyBeyond_9 (by decide) (fun cc9 => ?_) (fun cc9 => ?_)
  · have hm := k_ip cc9 hm
    refine lv_iconst (v := 0) hx hb dX3_anyBeyond_16 (by decide) ?_
    cases hm
    exact k_end_z false hx hb hr hlocks hK hP hD hS dX3_anyBeyond_17
  · have hm := k_in cc9 hm
    refine lv_iconst (v := 1) hx hb dX3_anyBeyond_12 (by decide) ?_
    refine lv_goto (tgt := 17) hx hb dX3_anyBeyond_13 (by decide) ?_
    cases hm
    exact k_end_z true hx hb hr hlocks hK hP hD hS dX3_anyBeyond_17

abbrev rmX3_allOff : Room := { frames := 1, cells := 0, slots := 0, locals := 22 }
set_option maxHeartbeats 4000000 in
set_option maxRecDepth 100000 in
theorem zX3_allOff {l : Launch} {D : va_G} {cI cJ cC cG : ClassId} {sz : Nat}  {a0 : Int64} {r : Bool} (hm : mX3_allOff a0 = some (r)) : k_Mi l yX3_allOff wsX3_allOff rmX3_allOff D (kT cI cJ cC cG) sz ([.long a0] : List Value) [] [] (k_b r) := by
  refine k_st_i (cc := cX3_allOff) (maxL := 2) (by decide) rfl (Nat.le_of_ble_eq_true rfl) ?_
  intro p e z m below meth c A hx hb hr hml hts hown hlocks hsz hN hA hK hP hD hS ls hl
  have hown : z.vm.findClass RX3 = some m.cls := hown
  have hl : lv_has ls 2 [(0, .long a0)] := hl
  unfold mX3_allOff at hm
  refine lv_lload_n hx hb dX3_allOff_0 rfl (lv_at hl 0 rfl) ?_
  refine lv_iconst (v := 0) hx hb dX3_allOff_1 (by decide) ?_
  obtain ⟨r1, hc2, hm⟩ := k_bds hm
  refine k_i_0 (k_rS (As := [.long a0, .int 0]) (rest := []) ⟨hx, hb, hml, hown, hts⟩ hK hN k_P0 (k_D0 (A := A)) (zX3_anyBeyond hc2) (va_cwS 2 hts gX3_allOff_X3_anyBeyond rfl rfl rfl (by decide +kernel) ⟨Nat.le_of_ble_eq_true rfl, Nat.le_of_ble_eq_true rfl⟩) rfl hl.1 rfl (Nat.le_of_ble_eq_true rfl) dX3_allOff_2 ⟨Nat.zero_le _, Nat.zero_le _⟩) hP hS hA (fun H locs hP hS => ?_)
  refine lv_if_ne (tgt := 12) hx hb dX3_allOff_5 (by decide) (fun cc5 => ?_) (fun cc5 => ?_)
  · have hm := k_in cc5 hm
    refine lv_iconst (v := 0) hx hb dX3_allOff_12 (by decide) ?_
    cases hm
    exact k_end_z false hx hb hr hlocks hK hP hD hS dX3_allOff_13
  · have hm := k_ip cc5 hm
    refine lv_iconst (v := 1) hx hb dX3_allOff_8 (by decide) ?_
    refine lv_goto (tgt := 13) hx hb dX3_allOff_9 (by decide) ?_
    cases hm
    exact k_end_z true hx hb hr hlocks hK hP hD hS dX3_allOff_13

abbrev rmX3_across : Room := { frames := 0, cells := 0, slots := 0, locals := 0 }
set_option maxHeartbeats 4000000 in
set_option maxRecDepth 100000 in
theorem zX3_across {l : Launch} {D : va_G} {cI cJ cC cG : ClassId} {sz : Nat}  {a0 : Int64} {a2 : Int32} {r : Int32} (hm : mX3_across a0 a2 = some (r)) : k_Mi l yX3_across wsX3_across rmX3_across D (kT cI cJ cC cG) sz ([.long a0, .int a2] : List Value) [] [] r := by
  refine k_st_i (cc := cX3_across) (maxL := 3) (by decide) rfl (Nat.le_of_ble_eq_true rfl) ?_
  intro p e z m below meth c A hx hb hr hml hts hown hlocks hsz hN hA hK hP hD hS ls hl
  have hown : z.vm.findClass RX3 = some m.cls := hown
  have hl : lv_has ls 3 [(0, .long a0), (2, .int a2)] := hl
  unfold mX3_across at hm
  refine lv_lload_n hx hb dX3_across_0 rfl (lv_at hl 0 rfl) ?_
  refine lv_iconst (v := 3) hx hb dX3_across_1 (by decide) ?_
  refine lv_bipush (v := 17) hx hb dX3_across_2 (by decide) ?_
  refine lv_iload_n hx hb dX3_across_4 rfl (lv_at hl 1 rfl) ?_
  refine lv_isub hx hb dX3_across_5 ?_
  refine lv_imul hx hb dX3_across_6 ?_
  refine lv_lushr (v := (k_lushr a0 (3 * (17 - a2)))) hx hb dX3_across_7 rfl ?_
  refine lv_l2i (v := (Int64.toInt32 (k_lushr a0 (3 * (17 - a2))))) hx hb dX3_across_8 rfl ?_
  refine lv_bipush (v := 7) hx hb dX3_across_9 (by decide) ?_
  refine lv_iand hx hb dX3_across_11 ?_
  cases hm
  exact k_end_i hx hb hr hlocks hK hP hD hS dX3_across_12

abbrev rmX3_sumOfWays : Room := { frames := 1, cells := 0, slots := 0, locals := 22 }
set_option maxHeartbeats 4000000 in
set_option maxRecDepth 100000 in
theorem zX3_sumOfWays {l : Launch} {D : va_G} {cI cJ cC cG : ClassId} {sz : Nat}  {a0 : Int64} {r : Int32} (hm : mX3_sumOfWays a0 = some (r)) : k_Mi l yX3_sumOfWays wsX3_sumOfWays rmX3_sumOfWays D (kT cI cJ cC cG) sz ([.long a0] : List Value) [] [] r := by
  refine k_st_i (cc := cX3_sumOfWays) (maxL := 4) (by decide) rfl (Nat.le_of_ble_eq_true rfl) ?_
  intro p e z m below meth c A hx hb hr hml hts hown hlocks hsz hN hA hK hP hD hS ls hl
  have hown : z.vm.findClass RX3 = some m.cls := hown
  have hl : lv_has ls 4 [(0, .long a0)] := hl
  have J_4 := k_loop (z := fun _ _ => none) (st := mX3_sumOfWays_4 a0) (fun k4 : (Int32) → (Int32) → Option (Int32) => ∀ (l2 : Int32) (l3 : Int32) (H : Heap) (locs : List Loc), va_P D vwCl [] H → va_D A [] → va_S A z.heap H locs → ∀ ls : Array Slot, lv_has ls 4 [(0, .long a0), (2, .int l2), (3, .int l3)] → k4 l2 l3 = some (r) → W p l e rmX3_sumOfWays z m ([.long a0] : List Value).toArray below meth c H locs 0 0 (k_Qi below ([.long a0] : List Value) D (kT cI cJ cC cG) z A [] r) (F0 m 4 ls [])) (by intros; contradiction) (by
    intro k4 ih4
    intro l2 l3 H locs hP hD hS ls hl hm
    unfold mX3_sumOfWays_4 at hm
    refine lv_iload_n hx hb dX3_sumOfWays_4 rfl (lv_at hl 2 rfl) ?_
    refine lv_bipush (v := 17) hx hb dX3_sumOfWays_5 (by decide) ?_
    refine lv_icmp_gt (tgt := 26) hx hb dX3_sumOfWays_7 (by decide) (fun cc7 => ?_) (fun cc7 => ?_)
    · have hm := k_ip cc7 hm
      refine lv_iload_n hx hb dX3_sumOfWays_26 rfl (lv_at hl 1 rfl) ?_
      cases hm
      exact k_end_i hx hb hr hlocks hK hP hD hS dX3_sumOfWays_27
    · have hm := k_in cc7 hm
      refine lv_iload_n hx hb dX3_sumOfWays_10 rfl (lv_at hl 1 rfl) ?_
      refine lv_iload_n hx hb dX3_sumOfWays_11 rfl (lv_at hl 2 rfl) ?_
      refine lv_lload_n hx hb dX3_sumOfWays_12 rfl (lv_at hl 0 rfl) ?_
      refine lv_iload_n hx hb dX3_sumOfWays_13 rfl (lv_at hl 2 rfl) ?_
      obtain ⟨r1, hc14, hm⟩ := k_bds hm
      refine k_i_0 (k_rS (As := [.long a0, .int l3]) (rest := [.int l3, .int l2]) ⟨hx, hb, hml, hown, hts⟩ hK hN k_P0 (k_D0 (A := A)) (zX3_on hc14) (va_cwS 2 hts gX3_sumOfWays_X3_on rfl rfl rfl (by decide +kernel) ⟨Nat.le_of_ble_eq_true rfl, Nat.le_of_ble_eq_true rfl⟩) rfl hl.1 rfl (Nat.le_of_ble_eq_true rfl) dX3_sumOfWays_14 ⟨Nat.zero_le _, Nat.zero_le _⟩) hP hS hA (fun H locs hP hS => ?_)
      refine lv_imul hx hb dX3_sumOfWays_17 ?_
      refine lv_iadd hx hb dX3_sumOfWays_18 ?_
      refine lv_istore_n (lv' := [(2, .int (l2 + (l3 * r1))), (0, .long a0), (3, .int l3)]) hx hb dX3_sumOfWays_19 rfl hl (by decide) rfl (fun ls hl => ?_)
      refine lv_iinc (v := (l3 + 1)) (lv' := [(3, .int (l3 + 1)), (2, .int (l2 + (l3 * r1))), (0, .long a0)]) hx hb dX3_sumOfWays_20 hl (k := 2) rfl rfl (by decide) rfl (fun ls hl => ?_)
      refine lv_goto (tgt := 4) hx hb dX3_sumOfWays_23 (by decide) ?_
      exact ih4 (l2 + (l3 * r1)) (l3 + 1) _ _ hP hD hS _ (lv_sub hl [2, 1, 0] rfl) hm) k_F
  unfold mX3_sumOfWays at hm
  refine lv_iconst (v := 0) hx hb dX3_sumOfWays_0 (by decide) ?_
  refine lv_istore_n (lv' := [(2, .int 0), (0, .long a0)]) hx hb dX3_sumOfWays_1 rfl hl (by decide) rfl (fun ls hl => ?_)
  refine lv_iconst (v := 1) hx hb dX3_sumOfWays_2 (by decide) ?_
  refine lv_istore_n (lv' := [(3, .int 1), (2, .int 0), (0, .long a0)]) hx hb dX3_sumOfWays_3 rfl hl (by decide) rfl (fun ls hl => ?_)
  exact J_4 0 1 _ _ hP hD hS _ (lv_sub hl [2, 1, 0] rfl) hm

abbrev rmX3_singles : Room := { frames := 1, cells := 0, slots := 0, locals := 22 }
set_option maxHeartbeats 4000000 in
set_option maxRecDepth 100000 in
theorem zX3_singles {l : Launch} {D : va_G} {cI cJ cC cG : ClassId} {sz : Nat}  {a0 : Int64} {r : Int32} (hm : mX3_singles a0 = some (r)) : k_Mi l yX3_singles wsX3_singles rmX3_singles D (kT cI cJ cC cG) sz ([.long a0] : List Value) [] [] r := by
  refine k_st_i (cc := cX3_singles) (maxL := 4) (by decide) rfl (Nat.le_of_ble_eq_true rfl) ?_
  intro p e z m below meth c A hx hb hr hml hts hown hlocks hsz hN hA hK hP hD hS ls hl
  have hown : z.vm.findClass RX3 = some m.cls := hown
  have hl : lv_has ls 4 [(0, .long a0)] := hl
  have J_4 := k_loop (z := fun _ _ => none) (st := mX3_singles_4 a0) (fun k4 : (Int32) → (Int32) → Option (Int32) => ∀ (l2 : Int32) (l3 : Int32) (H : Heap) (locs : List Loc), va_P D vwCl [] H → va_D A [] → va_S A z.heap H locs → ∀ ls : Array Slot, lv_has ls 4 [(0, .long a0), (2, .int l2), (3, .int l3)] → k4 l2 l3 = some (r) → W p l e rmX3_singles z m ([.long a0] : List Value).toArray below meth c H locs 0 0 (k_Qi below ([.long a0] : List Value) D (kT cI cJ cC cG) z A [] r) (F0 m 4 ls [])) (by intros; contradiction) (by
    intro k4 ih4
    intro l2 l3 H locs hP hD hS ls hl hm
    unfold mX3_singles_4 at hm
    refine lv_iload_n hx hb dX3_singles_4 rfl (lv_at hl 2 rfl) ?_
    refine lv_bipush (v := 16) hx hb dX3_singles_5 (by decide) ?_
    refine lv_icmp_gt (tgt := 33) hx hb dX3_singles_7 (by decide) (fun cc7 => ?_) (fun cc7 => ?_)
    · have hm := k_ip cc7 hm
      refine lv_iload_n hx hb dX3_singles_33 rfl (lv_at hl 1 rfl) ?_
      cases hm
      exact k_end_i hx hb hr hlocks hK hP hD hS dX3_singles_34
    · have hm := k_in cc7 hm
      refine lv_iload_n hx hb dX3_singles_10 rfl (lv_at hl 1 rfl) ?_
      refine lv_lload_n hx hb dX3_singles_11 rfl (lv_at hl 0 rfl) ?_
      refine lv_iload_n hx hb dX3_singles_12 rfl (lv_at hl 2 rfl) ?_
      obtain ⟨r1, hc13, hm⟩ := k_bds hm
      refine k_i_0 (k_rS (As := [.long a0, .int l3]) (rest := [.int l2]) ⟨hx, hb, hml, hown, hts⟩ hK hN k_P0 (k_D0 (A := A)) (zX3_on hc13) (va_cwS 2 hts gX3_singles_X3_on rfl rfl rfl (by decide +kernel) ⟨Nat.le_of_ble_eq_true rfl, Nat.le_of_ble_eq_true rfl⟩) rfl hl.1 rfl (Nat.le_of_ble_eq_true rfl) dX3_singles_13 ⟨Nat.zero_le _, Nat.zero_le _⟩) hP hS hA (fun H locs hP hS => ?_)
      refine lv_iconst (v := 1) hx hb dX3_singles_16 (by decide) ?_
      refine lv_icmp_ne (tgt := 24) hx hb dX3_singles_17 (by decide) (fun cc17 => ?_) (fun cc17 => ?_)
      · have hm := k_in cc17 hm
        refine lv_iconst (v := 0) hx hb dX3_singles_24 (by decide) ?_
        refine lv_iadd hx hb dX3_singles_25 ?_
        refine lv_istore_n (lv' := [(2, .int (l2 + 0)), (0, .long a0), (3, .int l3)]) hx hb dX3_singles_26 rfl hl (by decide) rfl (fun ls hl => ?_)
        refine lv_iinc (v := (l3 + 1)) (lv' := [(3, .int (l3 + 1)), (2, .int (l2 + 0)), (0, .long a0)]) hx hb dX3_singles_27 hl (k := 2) rfl rfl (by decide) rfl (fun ls hl => ?_)
        refine lv_goto (tgt := 4) hx hb dX3_singles_30 (by decide) ?_
        exact ih4 (l2 + 0) (l3 + 1) _ _ hP hD hS _ (lv_sub hl [2, 1, 0] rfl) hm
      · have hm := k_ip cc17 hm
        refine lv_iconst (v := 1) hx hb dX3_singles_20 (by decide) ?_
        refine lv_goto (tgt := 25) hx hb dX3_singles_21 (by decide) ?_
        refine lv_iadd hx hb dX3_singles_25 ?_
        refine lv_istore_n (lv' := [(2, .int (l2 + 1)), (0, .long a0), (3, .int l3)]) hx hb dX3_singles_26 rfl hl (by decide) rfl (fun ls hl => ?_)
        refine lv_iinc (v := (l3 + 1)) (lv' := [(3, .int (l3 + 1)), (2, .int (l2 + 1)), (0, .long a0)]) hx hb dX3_singles_27 hl (k := 2) rfl rfl (by decide) rfl (fun ls hl => ?_)
        refine lv_goto (tgt := 4) hx hb dX3_singles_30 (by decide) ?_
        exact ih4 (l2 + 1) (l3 + 1) _ _ hP hD hS _ (lv_sub hl [2, 1, 0] rfl) hm) k_F
  unfold mX3_singles at hm
  refine lv_iconst (v := 0) hx hb dX3_singles_0 (by decide) ?_
  refine lv_istore_n (lv' := [(2, .int 0), (0, .long a0)]) hx hb dX3_singles_1 rfl hl (by decide) rfl (fun ls hl => ?_)
  refine lv_iconst (v := 1) hx hb dX3_singles_2 (by decide) ?_
  refine lv_istore_n (lv' := [(3, .int 1), (2, .int 0), (0, .long a0)]) hx hb dX3_singles_3 rfl hl (by decide) rfl (fun ls hl => ?_)
  exact J_4 0 1 _ _ hP hD hS _ (lv_sub hl [2, 1, 0] rfl) hm

abbrev rmX3_longestWall : Room := { frames := 1, cells := 0, slots := 0, locals := 22 }
set_option maxHeartbeats 4000000 in
set_option maxRecDepth 100000 in
theorem zX3_longestWall {l : Launch} {D : va_G} {cI cJ cC cG : ClassId} {sz : Nat}  {a0 : Int64} {r : Int32} (hm : mX3_longestWall a0 = some (r)) : k_Mi l yX3_longestWall wsX3_longestWall rmX3_longestWall D (kT cI cJ cC cG) sz ([.long a0] : List Value) [] [] r := by
  refine k_st_i (cc := cX3_longestWall) (maxL := 5) (by decide) rfl (Nat.le_of_ble_eq_true rfl) ?_
  intro p e z m below meth c A hx hb hr hml hts hown hlocks hsz hN hA hK hP hD hS ls hl
  have hown : z.vm.findClass RX3 = some m.cls := hown
  have hl : lv_has ls 5 [(0, .long a0)] := hl
  have J_7 := k_loop (z := fun _ _ _ => none) (st := mX3_longestWall_7 a0) (fun k7 : (Int32) → (Int32) → (Int32) → Option (Int32) => ∀ (l2 : Int32) (l3 : Int32) (l4 : Int32) (H : Heap) (locs : List Loc), va_P D vwCl [] H → va_D A [] → va_S A z.heap H locs → ∀ ls : Array Slot, lv_has ls 5 [(0, .long a0), (2, .int l2), (3, .int l3), (4, .int l4)] → k7 l2 l3 l4 = some (r) → W p l e rmX3_longestWall z m ([.long a0] : List Value).toArray below meth c H locs 0 0 (k_Qi below ([.long a0] : List Value) D (kT cI cJ cC cG) z A [] r) (F0 m 7 ls [])) (by intros; contradiction) (by
    intro k7 ih7
    have J_31 : ∀ (t0 : Int32) (l2 : Int32) (l4 : Int32) (H : Heap) (locs : List Loc), va_P D vwCl [] H → va_D A [] → va_S A z.heap H locs → ∀ ls : Array Slot, lv_has ls 5 [(0, .long a0), (2, .int l2), (4, .int l4)] → mX3_longestWall_31 a0 k7 t0 l2 l4 = some (r) → W p l e rmX3_longestWall z m ([.long a0] : List Value).toArray below meth c H locs 0 0 (k_Qi below ([.long a0] : List Value) D (kT cI cJ cC cG) z A [] r) (F0 m 31 ls [.int t0]) := by
      intro t0 l2 l4 H locs hP hD hS ls hl hm
      unfold mX3_longestWall_31 at hm
      refine lv_istore_n (lv' := [(3, .int t0), (0, .long a0), (2, .int l2), (4, .int l4)]) hx hb dX3_longestWall_31 rfl hl (by decide) rfl (fun ls hl => ?_)
      refine lv_iload_n hx hb dX3_longestWall_32 rfl (lv_at hl 2 rfl) ?_
      refine lv_iload_n hx hb dX3_longestWall_33 rfl (lv_at hl 0 rfl) ?_
      refine va_mmax hx hb (hml.trans hl.1.symm) hown (hts (.methodLink RX3 17 Lib.Math.max.name) (by decide +kernel)) (hts (.static Lib.Math.max.name) (by decide +kernel)) (hts (.initialized "java/lang/Math") (by decide +kernel)) (hts (.code Lib.Math.max.name Lib.Math.max.code 2 (some .int)) (by decide +kernel)) (Nat.le_of_ble_eq_true rfl) (Nat.le_of_ble_eq_true rfl) (Nat.zero_le _) (Nat.zero_le _) dX3_longestWall_34 ?_
      refine W.eq (g2 := F0 m 37 _ (.int (k_max l2 t0) :: [])) rfl ?_
      refine lv_istore_n (lv' := [(2, .int (k_max l2 t0)), (3, .int t0), (0, .long a0), (4, .int l4)]) hx hb dX3_longestWall_37 rfl hl (by decide) rfl (fun ls hl => ?_)
      refine lv_iinc (v := (l4 + 1)) (lv' := [(4, .int (l4 + 1)), (2, .int (k_max l2 t0)), (3, .int t0), (0, .long a0)]) hx hb dX3_longestWall_38 hl (k := 3) rfl rfl (by decide) rfl (fun ls hl => ?_)
      refine lv_goto (tgt := 7) hx hb dX3_longestWall_41 (by decide) ?_
      exact ih7 (k_max l2 t0) t0 (l4 + 1) _ _ hP hD hS _ (lv_sub hl [3, 1, 2, 0] rfl) hm
    intro l2 l3 l4 H locs hP hD hS ls hl hm
    unfold mX3_longestWall_7 at hm
    refine lv_iload hx hb dX3_longestWall_7 (lv_at hl 3 rfl) ?_
    refine lv_bipush (v := 16) hx hb dX3_longestWall_9 (by decide) ?_
    refine lv_icmp_gt (tgt := 44) hx hb dX3_longestWall_11 (by decide) (fun cc11 => ?_) (fun cc11 => ?_)
    · have hm := k_ip cc11 hm
      refine lv_iload_n hx hb dX3_longestWall_44 rfl (lv_at hl 1 rfl) ?_
      cases hm
      exact k_end_i hx hb hr hlocks hK hP hD hS dX3_longestWall_45
    · have hm := k_in cc11 hm
      refine lv_lload_n hx hb dX3_longestWall_14 rfl (lv_at hl 0 rfl) ?_
      refine lv_iload hx hb dX3_longestWall_15 (lv_at hl 3 rfl) ?_
      obtain ⟨r1, hc17, hm⟩ := k_bds hm
      refine k_i_0 (k_rS (As := [.long a0, .int l4]) (rest := []) ⟨hx, hb, hml, hown, hts⟩ hK hN k_P0 (k_D0 (A := A)) (zX3_on hc17) (va_cwS 2 hts gX3_longestWall_X3_on rfl rfl rfl (by decide +kernel) ⟨Nat.le_of_ble_eq_true rfl, Nat.le_of_ble_eq_true rfl⟩) rfl hl.1 rfl (Nat.le_of_ble_eq_true rfl) dX3_longestWall_17 ⟨Nat.zero_le _, Nat.zero_le _⟩) hP hS hA (fun H locs hP hS => ?_)
      refine lv_iconst (v := 2) hx hb dX3_longestWall_20 (by decide) ?_
      refine lv_icmp_lt (tgt := 30) hx hb dX3_longestWall_21 (by decide) (fun cc21 => ?_) (fun cc21 => ?_)
      · have hm := k_ip cc21 hm
        refine lv_iconst (v := 0) hx hb dX3_longestWall_30 (by decide) ?_
        exact J_31 0 l2 l4 _ _ hP hD hS _ (lv_sub hl [0, 1, 3] rfl) hm
      · have hm := k_in cc21 hm
        refine lv_iload_n hx hb dX3_longestWall_24 rfl (lv_at hl 2 rfl) ?_
        refine lv_iconst (v := 1) hx hb dX3_longestWall_25 (by decide) ?_
        refine lv_iadd hx hb dX3_longestWall_26 ?_
        refine lv_goto (tgt := 31) hx hb dX3_longestWall_27 (by decide) ?_
        exact J_31 (l3 + 1) l2 l4 _ _ hP hD hS _ (lv_sub hl [0, 1, 3] rfl) hm) k_F
  unfold mX3_longestWall at hm
  refine lv_iconst (v := 0) hx hb dX3_longestWall_0 (by decide) ?_
  refine lv_istore_n (lv' := [(2, .int 0), (0, .long a0)]) hx hb dX3_longestWall_1 rfl hl (by decide) rfl (fun ls hl => ?_)
  refine lv_iconst (v := 0) hx hb dX3_longestWall_2 (by decide) ?_
  refine lv_istore_n (lv' := [(3, .int 0), (2, .int 0), (0, .long a0)]) hx hb dX3_longestWall_3 rfl hl (by decide) rfl (fun ls hl => ?_)
  refine lv_iconst (v := 1) hx hb dX3_longestWall_4 (by decide) ?_
  refine lv_istore (lv' := [(4, .int 1), (3, .int 0), (2, .int 0), (0, .long a0)]) hx hb dX3_longestWall_5 hl (by decide) rfl (fun ls hl => ?_)
  exact J_7 0 0 1 _ _ hP hD hS _ (lv_sub hl [3, 2, 1, 0] rfl) hm

abbrev rmX7_ban : Room := { frames := 1, cells := 0, slots := 0, locals := 22 }
set_option maxHeartbeats 4000000 in
set_option maxRecDepth 100000 in
theorem zX7_ban {l : Launch} {D : va_G} {cI cJ cC cG : ClassId} {sz : Nat}  {a0 : Int64} {a2 : Int64} {a4 : Int32} {a5 : Int32} {a6 : Int32} {r : Int32} (hm : mX7_ban a0 a2 a4 a5 a6 = some (r)) : k_Mi l yX7_ban wsX7_ban rmX7_ban D (kT cI cJ cC cG) sz ([.long a0, .long a2, .int a4, .int a5, .int a6] : List Value) [] [] r := by
  refine k_st_i (cc := cX7_ban) (maxL := 8) (by decide) rfl (Nat.le_of_ble_eq_true rfl) ?_
  intro p e z m below meth c A hx hb hr hml hts hown hlocks hsz hN hA hK hP hD hS ls hl
  have hown : z.vm.findClass RX7 = some m.cls := hown
  have hl : lv_has ls 8 [(0, .long a0), (2, .long a2), (4, .int a4), (5, .int a5), (6, .int a6)] := hl
  have J_88 : ∀ (t0 : Bool) (H : Heap) (locs : List Loc), va_P D vwCl [] H → va_D A [] → va_S A z.heap H locs → ∀ ls : Array Slot, lv_has ls 8 [(0, .long a0)] → mX7_ban_88 a0 a2 a4 a5 a6 t0 = some (r) → W p l e rmX7_ban z m ([.long a0, .long a2, .int a4, .int a5, .int a6] : List Value).toArray below meth c H locs 0 0 (k_Qi below ([.long a0, .long a2, .int a4, .int a5, .int a6] : List Value) D (kT cI cJ cC cG) z A [] r) (F0 m 88 ls [.int (k_b t0)]) := by
    intro t0 H locs hP hD hS ls hl hm
    unfold mX7_ban_88 at hm
    refine lv_istore (lv' := [(7, .int (k_b t0)), (0, .long a0)]) hx hb dX7_ban_88 hl (by decide) rfl (fun ls hl => ?_)
    refine lv_iload hx hb dX7_ban_90 (lv_at hl 0 rfl) ?_
    refine lv_if_ne (tgt := 103) hx hb dX7_ban_92 (by decide) (fun cc92 => ?_) (fun cc92 => ?_)
    · have hm := k_in cc92 hm
      refine lv_iconst (v := 5) hx hb dX7_ban_103 (by decide) ?_
      refine lv_goto (tgt := 108) hx hb dX7_ban_104 (by decide) ?_
      cases hm
      exact k_end_i hx hb hr hlocks hK hP hD hS dX7_ban_108
    · have hm := k_ip cc92 hm
      refine lv_lload_n hx hb dX7_ban_95 rfl (lv_at hl 1 rfl) ?_
      refine lv_iconst (v := 4) hx hb dX7_ban_96 (by decide) ?_
      obtain ⟨r1, hc97, hm⟩ := k_bds hm
      refine k_i_0 (k_rS (As := [.long a0, .int 4]) (rest := []) ⟨hx, hb, hml, hown, hts⟩ hK hN k_P0 (k_D0 (A := A)) (zX3_anyBeyond hc97) (va_cwS 2 hts gX7_ban_X3_anyBeyond rfl rfl rfl (by decide +kernel) ⟨Nat.le_of_ble_eq_true rfl, Nat.le_of_ble_eq_true rfl⟩) rfl hl.1 rfl (Nat.le_of_ble_eq_true rfl) dX7_ban_97 ⟨Nat.zero_le _, Nat.zero_le _⟩) hP hS hA (fun H locs hP hS => ?_)
      refine lv_if_eq (tgt := 107) hx hb dX7_ban_100 (by decide) (fun cc100 => ?_) (fun cc100 => ?_)
      · have hm := k_ip cc100 hm
        refine lv_iconst (v := 0) hx hb dX7_ban_107 (by decide) ?_
        cases hm
        exact k_end_i hx hb hr hlocks hK hP hD hS dX7_ban_108
      · have hm := k_in cc100 hm
        refine lv_iconst (v := 5) hx hb dX7_ban_103 (by decide) ?_
        refine lv_goto (tgt := 108) hx hb dX7_ban_104 (by decide) ?_
        cases hm
        exact k_end_i hx hb hr hlocks hK hP hD hS dX7_ban_108
  have J_87 : ∀ (H : Heap) (locs : List Loc), va_P D vwCl [] H → va_D A [] → va_S A z.heap H locs → ∀ ls : Array Slot, lv_has ls 8 [(0, .long a0)] → mX7_ban_87 a0 a2 a4 a5 a6  = some (r) → W p l e rmX7_ban z m ([.long a0, .long a2, .int a4, .int a5, .int a6] : List Value).toArray below meth c H locs 0 0 (k_Qi below ([.long a0, .long a2, .int a4, .int a5, .int a6] : List Value) D (kT cI cJ cC cG) z A [] r) (F0 m 87 ls []) := by
    intro  H locs hP hD hS ls hl hm
    unfold mX7_ban_87 at hm
    refine lv_iconst (v := 0) hx hb dX7_ban_87 (by decide) ?_
    exact J_88 false _ _ hP hD hS _ (lv_sub hl [0] rfl) hm
  have J_41 : ∀ (H : Heap) (locs : List Loc), va_P D vwCl [] H → va_D A [] → va_S A z.heap H locs → ∀ ls : Array Slot, lv_has ls 8 [(0, .long a0), (2, .long a2), (5, .int a5), (6, .int a6)] → mX7_ban_41 a0 a2 a4 a5 a6  = some (r) → W p l e rmX7_ban z m ([.long a0, .long a2, .int a4, .int a5, .int a6] : List Value).toArray below meth c H locs 0 0 (k_Qi below ([.long a0, .long a2, .int a4, .int a5, .int a6] : List Value) D (kT cI cJ cC cG) z A [] r) (F0 m 41 ls []) := by
    intro  H locs hP hD hS ls hl hm
    unfold mX7_ban_41 at hm
    refine lv_iload hx hb dX7_ban_41 (lv_at hl 3 rfl) ?_
    refine lv_iload hx hb dX7_ban_43 (lv_at hl 2 rfl) ?_
    refine lv_icmp_ge (tgt := 67) hx hb dX7_ban_45 (by decide) (fun cc45 => ?_) (fun cc45 => ?_)
    · have hm := k_ip cc45 hm
      refine lv_iload hx hb dX7_ban_67 (lv_at hl 3 rfl) ?_
      refine lv_iload hx hb dX7_ban_69 (lv_at hl 2 rfl) ?_
      refine lv_icmp_le (tgt := 87) hx hb dX7_ban_71 (by decide) (fun cc71 => ?_) (fun cc71 => ?_)
      · have hm := k_ip cc71 hm
        exact J_87  _ _ hP hD hS _ (lv_sub hl [0] rfl) hm
      · have hm := k_in cc71 hm
        refine lv_lload_n hx hb dX7_ban_74 rfl (lv_at hl 0 rfl) ?_
        refine lv_iload hx hb dX7_ban_75 (lv_at hl 2 rfl) ?_
        obtain ⟨r2, hc77, hm⟩ := k_bds hm
        refine k_i_0 (k_rS (As := [.long a0, .int a5]) (rest := []) ⟨hx, hb, hml, hown, hts⟩ hK hN k_P0 (k_D0 (A := A)) (zX3_anyBeyond hc77) (va_cwS 2 hts gX7_ban_X3_anyBeyond rfl rfl rfl (by decide +kernel) ⟨Nat.le_of_ble_eq_true rfl, Nat.le_of_ble_eq_true rfl⟩) rfl hl.1 rfl (Nat.le_of_ble_eq_true rfl) dX7_ban_77 ⟨Nat.zero_le _, Nat.zero_le _⟩) hP hS hA (fun H locs hP hS => ?_)
        refine lv_if_eq (tgt := 87) hx hb dX7_ban_80 (by decide) (fun cc80 => ?_) (fun cc80 => ?_)
        · have hm := k_ip cc80 hm
          exact J_87  _ _ hP hD hS _ (lv_sub hl [0] rfl) hm
        · have hm := k_in cc80 hm
          refine lv_iconst (v := 1) hx hb dX7_ban_83 (by decide) ?_
          refine lv_goto (tgt := 88) hx hb dX7_ban_84 (by decide) ?_
          exact J_88 true _ _ hP hD hS _ (lv_sub hl [0] rfl) hm
    · have hm := k_in cc45 hm
      refine lv_lload_n hx hb dX7_ban_48 rfl (lv_at hl 1 rfl) ?_
      refine lv_iload hx hb dX7_ban_49 (lv_at hl 2 rfl) ?_
      refine lv_iload hx hb dX7_ban_51 (lv_at hl 3 rfl) ?_
      refine lv_isub hx hb dX7_ban_53 ?_
      obtain ⟨r3, hc54, hm⟩ := k_bds hm
      refine k_i_0 (k_rS (As := [.long a2, .int (a5 - a6)]) (rest := []) ⟨hx, hb, hml, hown, hts⟩ hK hN k_P0 (k_D0 (A := A)) (zX3_across hc54) (va_cwS 2 hts gX7_ban_X3_across rfl rfl rfl (by decide +kernel) ⟨Nat.le_of_ble_eq_true rfl, Nat.le_of_ble_eq_true rfl⟩) rfl hl.1 rfl (Nat.le_of_ble_eq_true rfl) dX7_ban_54 ⟨Nat.zero_le _, Nat.zero_le _⟩) hP hS hA (fun H locs hP hS => ?_)
      refine lv_iconst (v := 2) hx hb dX7_ban_57 (by decide) ?_
      refine lv_icmp_lt (tgt := 65) hx hb dX7_ban_58 (by decide) (fun cc58 => ?_) (fun cc58 => ?_)
      · have hm := k_ip cc58 hm
        refine lv_iconst (v := 0) hx hb dX7_ban_65 (by decide) ?_
        cases hm
        exact k_end_i hx hb hr hlocks hK hP hD hS dX7_ban_66
      · have hm := k_in cc58 hm
        refine lv_iconst (v := 4) hx hb dX7_ban_61 (by decide) ?_
        refine lv_goto (tgt := 66) hx hb dX7_ban_62 (by decide) ?_
        cases hm
        exact k_end_i hx hb hr hlocks hK hP hD hS dX7_ban_66
  unfold mX7_ban at hm
  refine lv_iload hx hb dX7_ban_0 (lv_at hl 2 rfl) ?_
  refine lv_iload hx hb dX7_ban_2 (lv_at hl 4 rfl) ?_
  obtain ⟨r4, hc4, hm⟩ := k_bds hm
  refine k_i_0 (k_rS (As := [.int a4, .int a6]) (rest := []) ⟨hx, hb, hml, hown, hts⟩ hK hN k_P0 (k_D0 (A := A)) (zX0_has hc4) (va_cwS 2 hts gX7_ban_X0_has rfl rfl rfl (by decide +kernel) ⟨Nat.le_of_ble_eq_true rfl, Nat.le_of_ble_eq_true rfl⟩) rfl hl.1 rfl (Nat.le_of_ble_eq_true rfl) dX7_ban_4 ⟨Nat.zero_le _, Nat.zero_le _⟩) hP hS hA (fun H locs hP hS => ?_)
  refine lv_if_ne (tgt := 12) hx hb dX7_ban_7 (by decide) (fun cc7 => ?_) (fun cc7 => ?_)
  · have hm := k_in cc7 hm
    refine lv_lload_n hx hb dX7_ban_12 rfl (lv_at hl 0 rfl) ?_
    refine lv_iload hx hb dX7_ban_13 (lv_at hl 3 rfl) ?_
    obtain ⟨r5, hc15, hm⟩ := k_bds hm
    refine k_i_0 (k_rS (As := [.long a0, .int a5]) (rest := []) ⟨hx, hb, hml, hown, hts⟩ hK hN k_P0 (k_D0 (A := A)) (zX3_on hc15) (va_cwS 2 hts gX7_ban_X3_on rfl rfl rfl (by decide +kernel) ⟨Nat.le_of_ble_eq_true rfl, Nat.le_of_ble_eq_true rfl⟩) rfl hl.1 rfl (Nat.le_of_ble_eq_true rfl) dX7_ban_15 ⟨Nat.zero_le _, Nat.zero_le _⟩) hP hS hA (fun H locs hP hS => ?_)
    refine lv_if_ne (tgt := 23) hx hb dX7_ban_18 (by decide) (fun cc18 => ?_) (fun cc18 => ?_)
    · have hm := k_in cc18 hm
      refine lv_iload hx hb dX7_ban_23 (lv_at hl 3 rfl) ?_
      refine lv_bipush (v := 17) hx hb dX7_ban_25 (by decide) ?_
      refine lv_icmp_eq (tgt := 41) hx hb dX7_ban_27 (by decide) (fun cc27 => ?_) (fun cc27 => ?_)
      · have hm := k_ip cc27 hm
        exact J_41  _ _ hP hD hS _ (lv_sub hl [0, 1, 3, 4] rfl) hm
      · have hm := k_in cc27 hm
        refine lv_lload_n hx hb dX7_ban_30 rfl (lv_at hl 0 rfl) ?_
        refine lv_bipush (v := 17) hx hb dX7_ban_31 (by decide) ?_
        obtain ⟨r6, hc33, hm⟩ := k_bds hm
        refine k_i_0 (k_rS (As := [.long a0, .int 17]) (rest := []) ⟨hx, hb, hml, hown, hts⟩ hK hN k_P0 (k_D0 (A := A)) (zX3_on hc33) (va_cwS 2 hts gX7_ban_X3_on rfl rfl rfl (by decide +kernel) ⟨Nat.le_of_ble_eq_true rfl, Nat.le_of_ble_eq_true rfl⟩) rfl hl.1 rfl (Nat.le_of_ble_eq_true rfl) dX7_ban_33 ⟨Nat.zero_le _, Nat.zero_le _⟩) hP hS hA (fun H locs hP hS => ?_)
        refine lv_if_le (tgt := 41) hx hb dX7_ban_36 (by decide) (fun cc36 => ?_) (fun cc36 => ?_)
        · have hm := k_ip cc36 hm
          exact J_41  _ _ hP hD hS _ (lv_sub hl [0, 1, 3, 4] rfl) hm
        · have hm := k_in cc36 hm
          refine lv_iconst (v := 3) hx hb dX7_ban_39 (by decide) ?_
          cases hm
          exact k_end_i hx hb hr hlocks hK hP hD hS dX7_ban_40
    · have hm := k_ip cc18 hm
      refine lv_iconst (v := 2) hx hb dX7_ban_21 (by decide) ?_
      cases hm
      exact k_end_i hx hb hr hlocks hK hP hD hS dX7_ban_22
  · have hm := k_ip cc7 hm
    refine lv_iconst (v := 1) hx hb dX7_ban_10 (by decide) ?_
    cases hm
    exact k_end_i hx hb hr hlocks hK hP hD hS dX7_ban_11

abbrev rmX7_mineBehind : Room := { frames := 1, cells := 0, slots := 0, locals := 23 }
set_option maxHeartbeats 4000000 in
set_option maxRecDepth 100000 in
theorem zX7_mineBehind {l : Launch} {D : va_G} {cI cJ cC cG : ClassId} {sz : Nat}  {a0 : Int64} {a2 : Int32} {a3 : Int32} {r : Int64} (hm : mX7_mineBehind a0 a2 a3 = some (r)) : k_Ml l yX7_mineBehind wsX7_mineBehind rmX7_mineBehind D (kT cI cJ cC cG) sz ([.long a0, .int a2, .int a3] : List Value) [] [] r := by
  refine k_st_l (cc := cX7_mineBehind) (maxL := 4) (by decide) rfl (Nat.le_of_ble_eq_true rfl) ?_
  intro p e z m below meth c A hx hb hr hml hts hown hlocks hsz hN hA hK hP hD hS ls hl
  have hown : z.vm.findClass RX7 = some m.cls := hown
  have hl : lv_has ls 4 [(0, .long a0), (2, .int a2), (3, .int a3)] := hl
  unfold mX7_mineBehind at hm
  refine lv_lload_n hx hb dX7_mineBehind_0 rfl (lv_at hl 0 rfl) ?_
  refine lv_iload_n hx hb dX7_mineBehind_1 rfl (lv_at hl 1 rfl) ?_
  refine lv_iconst (v := 0) hx hb dX7_mineBehind_2 (by decide) ?_
  refine lv_iload_n hx hb dX7_mineBehind_3 rfl (lv_at hl 1 rfl) ?_
  refine lv_iload_n hx hb dX7_mineBehind_4 rfl (lv_at hl 2 rfl) ?_
  refine lv_isub hx hb dX7_mineBehind_5 ?_
  refine va_mmax hx hb (hml.trans hl.1.symm) hown (hts (.methodLink RX7 28 Lib.Math.max.name) (by decide +kernel)) (hts (.static Lib.Math.max.name) (by decide +kernel)) (hts (.initialized "java/lang/Math") (by decide +kernel)) (hts (.code Lib.Math.max.name Lib.Math.max.code 2 (some .int)) (by decide +kernel)) (Nat.le_of_ble_eq_true rfl) (Nat.le_of_ble_eq_true rfl) (Nat.zero_le _) (Nat.zero_le _) dX7_mineBehind_6 ?_
  refine W.eq (g2 := F0 m 9 _ (.int (k_max (0 : Int32) (a2 - a3)) :: [.int a2, .long a0])) rfl ?_
  obtain ⟨r1, hc9, hm⟩ := k_bds hm
  refine k_l_0 (k_rS (As := [.long a0, .int a2, .int (k_max (0 : Int32) (a2 - a3))]) (rest := []) ⟨hx, hb, hml, hown, hts⟩ hK hN k_P0 (k_D0 (A := A)) (zX3_moved hc9) (va_cwS 3 hts gX7_mineBehind_X3_moved rfl rfl rfl (by decide +kernel) ⟨Nat.le_of_ble_eq_true rfl, Nat.le_of_ble_eq_true rfl⟩) rfl hl.1 rfl (Nat.le_of_ble_eq_true rfl) dX7_mineBehind_9 ⟨Nat.zero_le _, Nat.zero_le _⟩) hP hS hA (fun H locs hP hS => ?_)
  cases hm
  exact k_end_l hx hb hr hlocks hK hP hD hS dX7_mineBehind_12

abbrev rmX7_theirsBehind : Room := { frames := 1, cells := 0, slots := 0, locals := 23 }
set_option maxHeartbeats 4000000 in
set_option maxRecDepth 100000 in
theorem zX7_theirsBehind {l : Launch} {D : va_G} {cI cJ cC cG : ClassId} {sz : Nat}  {a0 : Int64} {a2 : Int32} {a3 : Int32} {r : Int64} (hm : mX7_theirsBehind a0 a2 a3 = some (r)) : k_Ml l yX7_theirsBehind wsX7_theirsBehind rmX7_theirsBehind D (kT cI cJ cC cG) sz ([.long a0, .int a2, .int a3] : List Value) [] [] r := by
  refine k_st_l (cc := cX7_theirsBehind) (maxL := 4) (by decide) rfl (Nat.le_of_ble_eq_true rfl) ?_
  intro p e z m below meth c A hx hb hr hml hts hown hlocks hsz hN hA hK hP hD hS ls hl
  have hown : z.vm.findClass RX7 = some m.cls := hown
  have hl : lv_has ls 4 [(0, .long a0), (2, .int a2), (3, .int a3)] := hl
  unfold mX7_theirsBehind at hm
  refine lv_iload_n hx hb dX7_theirsBehind_0 rfl (lv_at hl 2 rfl) ?_
  refine lv_iload_n hx hb dX7_theirsBehind_1 rfl (lv_at hl 1 rfl) ?_
  refine lv_icmp_ge (tgt := 16) hx hb dX7_theirsBehind_2 (by decide) (fun cc2 => ?_) (fun cc2 => ?_)
  · have hm := k_ip cc2 hm
    refine lv_lload_n hx hb dX7_theirsBehind_16 rfl (lv_at hl 0 rfl) ?_
    cases hm
    exact k_end_l hx hb hr hlocks hK hP hD hS dX7_theirsBehind_17
  · have hm := k_in cc2 hm
    refine lv_lload_n hx hb dX7_theirsBehind_5 rfl (lv_at hl 0 rfl) ?_
    refine lv_iload_n hx hb dX7_theirsBehind_6 rfl (lv_at hl 1 rfl) ?_
    refine lv_iload_n hx hb dX7_theirsBehind_7 rfl (lv_at hl 2 rfl) ?_
    refine lv_isub hx hb dX7_theirsBehind_8 ?_
    obtain ⟨r1, hc9, hm⟩ := k_bds hm
    refine k_i_0 (k_rS (As := [.long a0, .int (a2 - a3)]) (rest := []) ⟨hx, hb, hml, hown, hts⟩ hK hN k_P0 (k_D0 (A := A)) (zX3_across hc9) (va_cwS 2 hts gX7_theirsBehind_X3_across rfl rfl rfl (by decide +kernel) ⟨Nat.le_of_ble_eq_true rfl, Nat.le_of_ble_eq_true rfl⟩) rfl hl.1 rfl (Nat.le_of_ble_eq_true rfl) dX7_theirsBehind_9 ⟨Nat.zero_le _, Nat.zero_le _⟩) hP hS hA (fun H locs hP hS => ?_)
    refine lv_iconst (v := 1) hx hb dX7_theirsBehind_12 (by decide) ?_
    refine lv_icmp_eq (tgt := 18) hx hb dX7_theirsBehind_13 (by decide) (fun cc13 => ?_) (fun cc13 => ?_)
    · have hm := k_ip cc13 hm
      refine lv_lload_n hx hb dX7_theirsBehind_18 rfl (lv_at hl 0 rfl) ?_
      refine lv_bipush (v := 17) hx hb dX7_theirsBehind_19 (by decide) ?_
      refine lv_iload_n hx hb dX7_theirsBehind_21 rfl (lv_at hl 1 rfl) ?_
      refine lv_iload_n hx hb dX7_theirsBehind_22 rfl (lv_at hl 2 rfl) ?_
      refine lv_isub hx hb dX7_theirsBehind_23 ?_
      refine lv_isub hx hb dX7_theirsBehind_24 ?_
      refine lv_bipush (v := 17) hx hb dX7_theirsBehind_25 (by decide) ?_
      obtain ⟨r2, hc27, hm⟩ := k_bds hm
      refine k_l_0 (k_rS (As := [.long a0, .int (17 - (a2 - a3)), .int 17]) (rest := []) ⟨hx, hb, hml, hown, hts⟩ hK hN k_P0 (k_D0 (A := A)) (zX3_moved hc27) (va_cwS 3 hts gX7_theirsBehind_X3_moved rfl rfl rfl (by decide +kernel) ⟨Nat.le_of_ble_eq_true rfl, Nat.le_of_ble_eq_true rfl⟩) rfl hl.1 rfl (Nat.le_of_ble_eq_true rfl) dX7_theirsBehind_27 ⟨Nat.zero_le _, Nat.zero_le _⟩) hP hS hA (fun H locs hP hS => ?_)
      cases hm
      exact k_end_l hx hb hr hlocks hK hP hD hS dX7_theirsBehind_30
    · have hm := k_in cc13 hm
      refine lv_lload_n hx hb dX7_theirsBehind_16 rfl (lv_at hl 0 rfl) ?_
      cases hm
      exact k_end_l hx hb hr hlocks hK hP hD hS dX7_theirsBehind_17

abbrev rmX7_reachOf (fu : Nat) : Room := { frames := fu + 3, cells := 0, slots := 0, locals := 32 * fu + 89 }
set_option maxHeartbeats 4000000 in
set_option maxRecDepth 100000 in
theorem zX7_reachOf {l : Launch} {D : va_G} {cI cJ cC cG : ClassId} : ∀ (fu : Nat) {sz : Nat} {a0 : Int64} {a2 : Int64} {a4 : Int32} {a5 : Int32} {r : Int32}, mX7_reachOf fu a0 a2 a4 a5 = some (r) → k_Mi l yX7_reachOf wsX7_reachOf (rmX7_reachOf fu) D (kT cI cJ cC cG) sz ([.long a0, .long a2, .int a4, .int a5] : List Value) [] [] r := by
  intro fu
  induction fu with
  | zero => intro sz a0 a2 a4 a5 r hm; have hm : (none : Option (Int32)) = some r := hm; cases hm
  | succ fu ihR =>
  intro sz a0 a2 a4 a5 r hm
  have hm : mX7_reachOf_S (mX7_reachOf fu) a0 a2 a4 a5 = some r := hm
  generalize mX7_reachOf fu = kR at ihR hm
  refine k_st_i (cc := cX7_reachOf) (maxL := 12) (by decide) rfl (Nat.le_of_ble_eq_true rfl) ?_
  intro p e z m below meth c A hx hb hr hml hts hown hlocks hsz hN hA hK hP hD hS ls hl
  have hown : z.vm.findClass RX7 = some m.cls := hown
  have hl : lv_has ls 12 [(0, .long a0), (2, .long a2), (4, .int a4), (5, .int a5)] := hl
  have J_26 := k_loop (z := fun _ _ _ => none) (st := mX7_reachOf_26 kR a0 a2 a4 a5) (fun k26 : (Int32) → (Int32) → (Int32) → Option (Int32) => ∀ (l6 : Int32) (l7 : Int32) (l8 : Int32) (H : Heap) (locs : List Loc), va_P D vwCl [] H → va_D A [] → va_S A z.heap H locs → ∀ ls : Array Slot, lv_has ls 12 [(0, .long a0), (2, .long a2), (4, .int a4), (5, .int a5), (6, .int l6), (7, .int l7), (8, .int l8)] → k26 l6 l7 l8 = some (r) → W p l e (rmX7_reachOf (fu + 1)) z m ([.long a0, .long a2, .int a4, .int a5] : List Value).toArray below meth c H locs 0 0 (k_Qi below ([.long a0, .long a2, .int a4, .int a5] : List Value) D (kT cI cJ cC cG) z A [] r) (F0 m 26 ls [])) (by intros; contradiction) (by
    intro k26 ih26
    have J_42 := k_loop (z := fun _ _ _ _ => none) (st := mX7_reachOf_42 kR a0 a2 a4 a5 k26) (fun k42 : (Int32) → (Int32) → (Int32) → (Int32) → Option (Int32) => ∀ (l6 : Int32) (l7 : Int32) (l8 : Int32) (l9 : Int32) (H : Heap) (locs : List Loc), va_P D vwCl [] H → va_D A [] → va_S A z.heap H locs → ∀ ls : Array Slot, lv_has ls 12 [(0, .long a0), (2, .long a2), (4, .int a4), (5, .int a5), (6, .int l6), (7, .int l7), (8, .int l8), (9, .int l9)] → k42 l6 l7 l8 l9 = some (r) → W p l e (rmX7_reachOf (fu + 1)) z m ([.long a0, .long a2, .int a4, .int a5] : List Value).toArray below meth c H locs 0 0 (k_Qi below ([.long a0, .long a2, .int a4, .int a5] : List Value) D (kT cI cJ cC cG) z A [] r) (F0 m 42 ls [])) (by intros; contradiction) (by
      intro k42 ih42
      intro l6 l7 l8 l9 H locs hP hD hS ls hl hm
      unfold mX7_reachOf_42 at hm
      refine lv_iload hx hb dX7_reachOf_42 (lv_at hl 7 rfl) ?_
      refine lv_iload hx hb dX7_reachOf_44 (lv_at hl 2 rfl) ?_
      obtain ⟨r1, hc46, hm⟩ := k_bds hm
      refine k_i_0 (k_rS (As := [.int a4]) (rest := [.int l9]) ⟨hx, hb, hml, hown, hts⟩ hK hN k_P0 (k_D0 (A := A)) (zX0_kinds hc46) (va_cwS 1 hts gX7_reachOf_X0_kinds rfl rfl rfl (by decide +kernel) ⟨by simp only [rmX7_reachOf, rmX0_kinds]; omega, by simp only [rmX7_reachOf, rmX0_kinds]; omega⟩) rfl hl.1 rfl (Nat.le_of_ble_eq_true rfl) dX7_reachOf_46 ⟨Nat.zero_le _, Nat.zero_le _⟩) hP hS hA (fun H locs hP hS => ?_)
      refine lv_icmp_ge (tgt := 124) hx hb dX7_reachOf_49 (by decide) (fun cc49 => ?_) (fun cc49 => ?_)
      · have hm := k_ip cc49 hm
        refine lv_iinc (v := (l8 + (-1))) (lv' := [(8, .int (l8 + (-1))), (0, .long a0), (2, .long a2), (4, .int a4), (5, .int a5), (6, .int l6), (7, .int l7), (9, .int l9)]) hx hb dX7_reachOf_124 hl (k := 6) rfl rfl (by decide) rfl (fun ls hl => ?_)
        refine lv_goto (tgt := 26) hx hb dX7_reachOf_127 (by decide) ?_
        exact ih26 l6 l7 (l8 + (-1)) _ _ hP hD hS _ (lv_sub hl [1, 2, 3, 4, 5, 6, 0] rfl) hm
      · have hm := k_in cc49 hm
        refine lv_iload hx hb dX7_reachOf_52 (lv_at hl 2 rfl) ?_
        refine lv_iload hx hb dX7_reachOf_54 (lv_at hl 7 rfl) ?_
        obtain ⟨r2, hc56, hm⟩ := k_bds hm
        refine k_i_0 (k_rS (As := [.int a4, .int l9]) (rest := []) ⟨hx, hb, hml, hown, hts⟩ hK hN k_P0 (k_D0 (A := A)) (zX0_at hc56) (va_cwS 2 hts gX7_reachOf_X0_at rfl rfl rfl (by decide +kernel) ⟨by simp only [rmX7_reachOf, rmX0_at]; omega, by simp only [rmX7_reachOf, rmX0_at]; omega⟩) rfl hl.1 rfl (Nat.le_of_ble_eq_true rfl) dX7_reachOf_56 ⟨Nat.zero_le _, Nat.zero_le _⟩) hP hS hA (fun H locs hP hS => ?_)
        refine lv_istore (lv' := [(10, .int r2), (0, .long a0), (2, .long a2), (4, .int a4), (5, .int a5), (6, .int l6), (7, .int l7), (8, .int l8), (9, .int l9)]) hx hb dX7_reachOf_59 hl (by decide) rfl (fun ls hl => ?_)
        refine lv_lload_n hx hb dX7_reachOf_61 rfl (lv_at hl 1 rfl) ?_
        refine lv_lload_n hx hb dX7_reachOf_62 rfl (lv_at hl 2 rfl) ?_
        refine lv_iload hx hb dX7_reachOf_63 (lv_at hl 3 rfl) ?_
        refine lv_iload hx hb dX7_reachOf_65 (lv_at hl 7 rfl) ?_
        refine lv_iload hx hb dX7_reachOf_67 (lv_at hl 0 rfl) ?_
        obtain ⟨r3, hc69, hm⟩ := k_bds hm
        refine k_i_0 (k_rS (As := [.long a0, .long a2, .int a4, .int l8, .int r2]) (rest := []) ⟨hx, hb, hml, hown, hts⟩ hK hN k_P0 (k_D0 (A := A)) (zX7_ban hc69) (va_cwS 5 hts gX7_reachOf_X7_ban rfl rfl rfl (by decide +kernel) ⟨by simp only [rmX7_reachOf, rmX7_ban]; omega, by simp only [rmX7_reachOf, rmX7_ban]; omega⟩) rfl hl.1 rfl (Nat.le_of_ble_eq_true rfl) dX7_reachOf_69 ⟨Nat.zero_le _, Nat.zero_le _⟩) hP hS hA (fun H locs hP hS => ?_)
        refine lv_if_ne (tgt := 118) hx hb dX7_reachOf_72 (by decide) (fun cc72 => ?_) (fun cc72 => ?_)
        · have hm := k_in cc72 hm
          refine lv_iinc (v := (l9 + 1)) (lv' := [(9, .int (l9 + 1)), (10, .int r2), (0, .long a0), (2, .long a2), (4, .int a4), (5, .int a5), (6, .int l6), (7, .int l7), (8, .int l8)]) hx hb dX7_reachOf_118 hl (k := 8) rfl rfl (by decide) rfl (fun ls hl => ?_)
          refine lv_goto (tgt := 42) hx hb dX7_reachOf_121 (by decide) ?_
          exact ih42 l6 l7 l8 (l9 + 1) _ _ hP hD hS _ (lv_sub hl [2, 3, 4, 5, 6, 7, 8, 0] rfl) hm
        · have hm := k_ip cc72 hm
          refine lv_lload_n hx hb dX7_reachOf_75 rfl (lv_at hl 1 rfl) ?_
          refine lv_iload hx hb dX7_reachOf_76 (lv_at hl 7 rfl) ?_
          refine lv_iload hx hb dX7_reachOf_78 (lv_at hl 0 rfl) ?_
          obtain ⟨r4, hc80, hm⟩ := k_bds hm
          refine k_l_0 (k_rS (As := [.long a0, .int l8, .int r2]) (rest := []) ⟨hx, hb, hml, hown, hts⟩ hK hN k_P0 (k_D0 (A := A)) (zX7_mineBehind hc80) (va_cwS 3 hts gX7_reachOf_X7_mineBehind rfl rfl rfl (by decide +kernel) ⟨by simp only [rmX7_reachOf, rmX7_mineBehind]; omega, by simp only [rmX7_reachOf, rmX7_mineBehind]; omega⟩) rfl hl.1 rfl (Nat.le_of_ble_eq_true rfl) dX7_reachOf_80 ⟨Nat.zero_le _, Nat.zero_le _⟩) hP hS hA (fun H locs hP hS => ?_)
          refine lv_lload_n hx hb dX7_reachOf_83 rfl (lv_at hl 2 rfl) ?_
          refine lv_iload hx hb dX7_reachOf_84 (lv_at hl 7 rfl) ?_
          refine lv_iload hx hb dX7_reachOf_86 (lv_at hl 0 rfl) ?_
          obtain ⟨r5, hc88, hm⟩ := k_bds hm
          refine k_l_0 (k_rS (As := [.long a2, .int l8, .int r2]) (rest := [.long r4]) ⟨hx, hb, hml, hown, hts⟩ hK hN k_P0 (k_D0 (A := A)) (zX7_theirsBehind hc88) (va_cwS 3 hts gX7_reachOf_X7_theirsBehind rfl rfl rfl (by decide +kernel) ⟨by simp only [rmX7_reachOf, rmX7_theirsBehind]; omega, by simp only [rmX7_reachOf, rmX7_theirsBehind]; omega⟩) rfl hl.1 rfl (Nat.le_of_ble_eq_true rfl) dX7_reachOf_88 ⟨Nat.zero_le _, Nat.zero_le _⟩) hP hS hA (fun H locs hP hS => ?_)
          refine lv_iload hx hb dX7_reachOf_91 (lv_at hl 3 rfl) ?_
          refine lv_iload hx hb dX7_reachOf_93 (lv_at hl 0 rfl) ?_
          obtain ⟨r6, hc95, hm⟩ := k_bds hm
          refine k_i_0 (k_rS (As := [.int a4, .int r2]) (rest := [.long r5, .long r4]) ⟨hx, hb, hml, hown, hts⟩ hK hN k_P0 (k_D0 (A := A)) (zX0_without hc95) (va_cwS 2 hts gX7_reachOf_X0_without rfl rfl rfl (by decide +kernel) ⟨by simp only [rmX7_reachOf, rmX0_without]; omega, by simp only [rmX7_reachOf, rmX0_without]; omega⟩) rfl hl.1 rfl (Nat.le_of_ble_eq_true rfl) dX7_reachOf_95 ⟨Nat.zero_le _, Nat.zero_le _⟩) hP hS hA (fun H locs hP hS => ?_)
          refine lv_iload hx hb dX7_reachOf_98 (lv_at hl 4 rfl) ?_
          refine lv_iconst (v := 1) hx hb dX7_reachOf_100 (by decide) ?_
          refine lv_isub hx hb dX7_reachOf_101 ?_
          obtain ⟨r7, hc102, hm⟩ := k_bds hm
          refine k_i_0 (k_rS (As := [.long r4, .long r5, .int r6, .int (a5 - 1)]) (rest := []) ⟨hx, hb, hml, hown, hts⟩ hK hN k_P0 (k_D0 (A := A)) (ihR hc102) (va_cwS 4 hts gX7_reachOf_X7_reachOf rfl rfl rfl (by decide +kernel) ⟨by simp only [rmX7_reachOf]; omega, by simp only [rmX7_reachOf]; omega⟩) rfl hl.1 rfl (Nat.le_of_ble_eq_true rfl) dX7_reachOf_102 ⟨Nat.zero_le _, Nat.zero_le _⟩) hP hS hA (fun H locs hP hS => ?_)
          refine lv_istore (lv' := [(11, .int r7), (10, .int r2), (0, .long a0), (2, .long a2), (4, .int a4), (5, .int a5), (6, .int l6), (7, .int l7), (8, .int l8), (9, .int l9)]) hx hb dX7_reachOf_105 hl (by decide) rfl (fun ls hl => ?_)
          refine lv_iload hx hb dX7_reachOf_107 (lv_at hl 7 rfl) ?_
          refine lv_iconst (v := 1) hx hb dX7_reachOf_109 (by decide) ?_
          refine lv_iload hx hb dX7_reachOf_110 (lv_at hl 0 rfl) ?_
          refine lv_iadd hx hb dX7_reachOf_112 ?_
          refine va_mmax hx hb (hml.trans hl.1.symm) hown (hts (.methodLink RX7 28 Lib.Math.max.name) (by decide +kernel)) (hts (.static Lib.Math.max.name) (by decide +kernel)) (hts (.initialized "java/lang/Math") (by decide +kernel)) (hts (.code Lib.Math.max.name Lib.Math.max.code 2 (some .int)) (by decide +kernel)) (by simp only [rmX7_reachOf]; omega) (by simp only [rmX7_reachOf, List.map, List.sum_cons, List.sum_nil, Value.category]; omega) (Nat.zero_le _) (Nat.zero_le _) dX7_reachOf_113 ?_
          refine W.eq (g2 := F0 m 116 _ (.int (k_max l7 (1 + r7)) :: [])) rfl ?_
          refine lv_istore (lv' := [(7, .int (k_max l7 (1 + r7))), (11, .int r7), (10, .int r2), (0, .long a0), (2, .long a2), (4, .int a4), (5, .int a5), (6, .int l6), (8, .int l8), (9, .int l9)]) hx hb dX7_reachOf_116 hl (by decide) rfl (fun ls hl => ?_)
          refine lv_iinc (v := (l9 + 1)) (lv' := [(9, .int (l9 + 1)), (7, .int (k_max l7 (1 + r7))), (11, .int r7), (10, .int r2), (0, .long a0), (2, .long a2), (4, .int a4), (5, .int a5), (6, .int l6), (8, .int l8)]) hx hb dX7_reachOf_118 hl (k := 9) rfl rfl (by decide) rfl (fun ls hl => ?_)
          refine lv_goto (tgt := 42) hx hb dX7_reachOf_121 (by decide) ?_
          exact ih42 l6 (k_max l7 (1 + r7)) l8 (l9 + 1) _ _ hP hD hS _ (lv_sub hl [4, 5, 6, 7, 8, 1, 9, 0] rfl) hm) k_F
    intro l6 l7 l8 H locs hP hD hS ls hl hm
    unfold mX7_reachOf_26 at hm
    refine lv_iload hx hb dX7_reachOf_26 (lv_at hl 6 rfl) ?_
    refine lv_iconst (v := 1) hx hb dX7_reachOf_28 (by decide) ?_
    refine lv_icmp_lt (tgt := 130) hx hb dX7_reachOf_29 (by decide) (fun cc29 => ?_) (fun cc29 => ?_)
    · have hm := k_ip cc29 hm
      refine lv_iload hx hb dX7_reachOf_130 (lv_at hl 5 rfl) ?_
      cases hm
      exact k_end_i hx hb hr hlocks hK hP hD hS dX7_reachOf_132
    · have hm := k_in cc29 hm
      refine lv_iload hx hb dX7_reachOf_32 (lv_at hl 5 rfl) ?_
      refine lv_iload hx hb dX7_reachOf_34 (lv_at hl 4 rfl) ?_
      refine lv_icmp_ge (tgt := 130) hx hb dX7_reachOf_36 (by decide) (fun cc36 => ?_) (fun cc36 => ?_)
      · have hm := k_ip cc36 hm
        refine lv_iload hx hb dX7_reachOf_130 (lv_at hl 5 rfl) ?_
        cases hm
        exact k_end_i hx hb hr hlocks hK hP hD hS dX7_reachOf_132
      · have hm := k_in cc36 hm
        refine lv_iconst (v := 0) hx hb dX7_reachOf_39 (by decide) ?_
        refine lv_istore (lv' := [(9, .int 0), (0, .long a0), (2, .long a2), (4, .int a4), (5, .int a5), (6, .int l6), (7, .int l7), (8, .int l8)]) hx hb dX7_reachOf_40 hl (by decide) rfl (fun ls hl => ?_)
        exact J_42 l6 l7 l8 0 _ _ hP hD hS _ (lv_sub hl [1, 2, 3, 4, 5, 6, 7, 0] rfl) hm) k_F
  unfold mX7_reachOf_S at hm
  refine lv_iload hx hb dX7_reachOf_0 (lv_at hl 2 rfl) ?_
  refine lv_if_eq (tgt := 10) hx hb dX7_reachOf_2 (by decide) (fun cc2 => ?_) (fun cc2 => ?_)
  · have hm := k_ip cc2 hm
    refine lv_iconst (v := 0) hx hb dX7_reachOf_10 (by decide) ?_
    cases hm
    exact k_end_i hx hb hr hlocks hK hP hD hS dX7_reachOf_11
  · have hm := k_in cc2 hm
    refine lv_iload hx hb dX7_reachOf_5 (lv_at hl 3 rfl) ?_
    refine lv_if_gt (tgt := 12) hx hb dX7_reachOf_7 (by decide) (fun cc7 => ?_) (fun cc7 => ?_)
    · have hm := k_ip cc7 hm
      refine lv_iload hx hb dX7_reachOf_12 (lv_at hl 2 rfl) ?_
      obtain ⟨r8, hc14, hm⟩ := k_bds hm
      refine k_i_0 (k_rS (As := [.int a4]) (rest := []) ⟨hx, hb, hml, hown, hts⟩ hK hN k_P0 (k_D0 (A := A)) (zX0_count hc14) (va_cwS 1 hts gX7_reachOf_X0_count rfl rfl rfl (by decide +kernel) ⟨by simp only [rmX7_reachOf, rmX0_count]; omega, by simp only [rmX7_reachOf, rmX0_count]; omega⟩) rfl hl.1 rfl (Nat.le_of_ble_eq_true rfl) dX7_reachOf_14 ⟨Nat.zero_le _, Nat.zero_le _⟩) hP hS hA (fun H locs hP hS => ?_)
      refine lv_istore (lv' := [(6, .int r8), (0, .long a0), (2, .long a2), (4, .int a4), (5, .int a5)]) hx hb dX7_reachOf_17 hl (by decide) rfl (fun ls hl => ?_)
      refine lv_iconst (v := 0) hx hb dX7_reachOf_19 (by decide) ?_
      refine lv_istore (lv' := [(7, .int 0), (6, .int r8), (0, .long a0), (2, .long a2), (4, .int a4), (5, .int a5)]) hx hb dX7_reachOf_20 hl (by decide) rfl (fun ls hl => ?_)
      refine lv_bipush (v := 17) hx hb dX7_reachOf_22 (by decide) ?_
      refine lv_istore (lv' := [(8, .int 17), (7, .int 0), (6, .int r8), (0, .long a0), (2, .long a2), (4, .int a4), (5, .int a5)]) hx hb dX7_reachOf_24 hl (by decide) rfl (fun ls hl => ?_)
      exact J_26 r8 0 17 _ _ hP hD hS _ (lv_sub hl [3, 4, 5, 6, 2, 1, 0] rfl) hm
    · have hm := k_in cc7 hm
      refine lv_iconst (v := 0) hx hb dX7_reachOf_10 (by decide) ?_
      cases hm
      exact k_end_i hx hb hr hlocks hK hP hD hS dX7_reachOf_11

abbrev rmX7_isAnyAllowed : Room := { frames := 2, cells := 0, slots := 0, locals := 49 }
set_option maxHeartbeats 4000000 in
set_option maxRecDepth 100000 in
theorem zX7_isAnyAllowed {l : Launch} {D : va_G} {cI cJ cC cG : ClassId} {sz : Nat}  {a0 : Int64} {a2 : Int64} {a4 : Int32} {a5 : Int32} {r : Bool} (hm : mX7_isAnyAllowed a0 a2 a4 a5 = some (r)) : k_Mi l yX7_isAnyAllowed wsX7_isAnyAllowed rmX7_isAnyAllowed D (kT cI cJ cC cG) sz ([.long a0, .long a2, .int a4, .int a5] : List Value) [] [] (k_b r) := by
  refine k_st_i (cc := cX7_isAnyAllowed) (maxL := 7) (by decide) rfl (Nat.le_of_ble_eq_true rfl) ?_
  intro p e z m below meth c A hx hb hr hml hts hown hlocks hsz hN hA hK hP hD hS ls hl
  have hown : z.vm.findClass RX7 = some m.cls := hown
  have hl : lv_has ls 7 [(0, .long a0), (2, .long a2), (4, .int a4), (5, .int a5)] := hl
  have J_3 := k_loop (z := fun _ => none) (st := mX7_isAnyAllowed_3 a0 a2 a4 a5) (fun k3 : (Int32) → Option (Bool) => ∀ (l6 : Int32) (H : Heap) (locs : List Loc), va_P D vwCl [] H → va_D A [] → va_S A z.heap H locs → ∀ ls : Array Slot, lv_has ls 7 [(0, .long a0), (2, .long a2), (4, .int a4), (5, .int a5), (6, .int l6)] → k3 l6 = some (r) → W p l e rmX7_isAnyAllowed z m ([.long a0, .long a2, .int a4, .int a5] : List Value).toArray below meth c H locs 0 0 (k_Qi below ([.long a0, .long a2, .int a4, .int a5] : List Value) D (kT cI cJ cC cG) z A [] (k_b r)) (F0 m 3 ls [])) (by intros; contradiction) (by
    intro k3 ih3
    intro l6 H locs hP hD hS ls hl hm
    unfold mX7_isAnyAllowed_3 at hm
    refine lv_iload hx hb dX7_isAnyAllowed_3 (lv_at hl 4 rfl) ?_
    refine lv_bipush (v := 17) hx hb dX7_isAnyAllowed_5 (by decide) ?_
    refine lv_icmp_gt (tgt := 32) hx hb dX7_isAnyAllowed_7 (by decide) (fun cc7 => ?_) (fun cc7 => ?_)
    · have hm := k_ip cc7 hm
      refine lv_iconst (v := 0) hx hb dX7_isAnyAllowed_32 (by decide) ?_
      cases hm
      exact k_end_z false hx hb hr hlocks hK hP hD hS dX7_isAnyAllowed_33
    · have hm := k_in cc7 hm
      refine lv_lload_n hx hb dX7_isAnyAllowed_10 rfl (lv_at hl 0 rfl) ?_
      refine lv_lload_n hx hb dX7_isAnyAllowed_11 rfl (lv_at hl 1 rfl) ?_
      refine lv_iload hx hb dX7_isAnyAllowed_12 (lv_at hl 2 rfl) ?_
      refine lv_iload hx hb dX7_isAnyAllowed_14 (lv_at hl 4 rfl) ?_
      refine lv_iload hx hb dX7_isAnyAllowed_16 (lv_at hl 3 rfl) ?_
      obtain ⟨r1, hc18, hm⟩ := k_bds hm
      refine k_i_0 (k_rS (As := [.long a0, .long a2, .int a4, .int l6, .int a5]) (rest := []) ⟨hx, hb, hml, hown, hts⟩ hK hN k_P0 (k_D0 (A := A)) (zX7_ban hc18) (va_cwS 5 hts gX7_isAnyAllowed_X7_ban rfl rfl rfl (by decide +kernel) ⟨Nat.le_of_ble_eq_true rfl, Nat.le_of_ble_eq_true rfl⟩) rfl hl.1 rfl (Nat.le_of_ble_eq_true rfl) dX7_isAnyAllowed_18 ⟨Nat.zero_le _, Nat.zero_le _⟩) hP hS hA (fun H locs hP hS => ?_)
      refine lv_if_ne (tgt := 26) hx hb dX7_isAnyAllowed_21 (by decide) (fun cc21 => ?_) (fun cc21 => ?_)
      · have hm := k_in cc21 hm
        refine lv_iinc (v := (l6 + 1)) (lv' := [(6, .int (l6 + 1)), (0, .long a0), (2, .long a2), (4, .int a4), (5, .int a5)]) hx hb dX7_isAnyAllowed_26 hl (k := 4) rfl rfl (by decide) rfl (fun ls hl => ?_)
        refine lv_goto (tgt := 3) hx hb dX7_isAnyAllowed_29 (by decide) ?_
        exact ih3 (l6 + 1) _ _ hP hD hS _ (lv_sub hl [1, 2, 3, 4, 0] rfl) hm
      · have hm := k_ip cc21 hm
        refine lv_iconst (v := 1) hx hb dX7_isAnyAllowed_24 (by decide) ?_
        cases hm
        exact k_end_z true hx hb hr hlocks hK hP hD hS dX7_isAnyAllowed_25) k_F
  unfold mX7_isAnyAllowed at hm
  refine lv_iconst (v := 1) hx hb dX7_isAnyAllowed_0 (by decide) ?_
  refine lv_istore (lv' := [(6, .int 1), (0, .long a0), (2, .long a2), (4, .int a4), (5, .int a5)]) hx hb dX7_isAnyAllowed_1 hl (by decide) rfl (fun ls hl => ?_)
  exact J_3 1 _ _ hP hD hS _ (lv_sub hl [1, 2, 3, 4, 0] rfl) hm

abbrev rmX7_reason : Room := { frames := 10, cells := 0, slots := 0, locals := 312 }
set_option maxHeartbeats 4000000 in
set_option maxRecDepth 100000 in
theorem zX7_reason {l : Launch} {D : va_G} {cI cJ cC cG : ClassId} {sz : Nat}  {a0 : Int64} {a2 : Int64} {a4 : Int32} {a5 : Int32} {a6 : Int32} {a7 : Int32} {r : Int32} (hm : mX7_reason a0 a2 a4 a5 a6 a7 = some (r)) : k_Mi l yX7_reason wsX7_reason rmX7_reason D (kT cI cJ cC cG) sz ([.long a0, .long a2, .int a4, .int a5, .int a6, .int a7] : List Value) [] [] r := by
  refine k_st_i (cc := cX7_reason) (maxL := 11) (by decide) rfl (Nat.le_of_ble_eq_true rfl) ?_
  intro p e z m below meth c A hx hb hr hml hts hown hlocks hsz hN hA hK hP hD hS ls hl
  have hown : z.vm.findClass RX7 = some m.cls := hown
  have hl : lv_has ls 11 [(0, .long a0), (2, .long a2), (4, .int a4), (5, .int a5), (6, .int a6), (7, .int a7)] := hl
  have J_82 : ∀ (t0 : Bool) (H : Heap) (locs : List Loc), va_P D vwCl [] H → va_D A [] → va_S A z.heap H locs → ∀ ls : Array Slot, lv_has ls 11 [(0, .long a0), (2, .long a2), (4, .int a4), (6, .int a6)] → mX7_reason_82 a0 a2 a4 a5 a6 a7 t0 = some (r) → W p l e rmX7_reason z m ([.long a0, .long a2, .int a4, .int a5, .int a6, .int a7] : List Value).toArray below meth c H locs 0 0 (k_Qi below ([.long a0, .long a2, .int a4, .int a5, .int a6, .int a7] : List Value) D (kT cI cJ cC cG) z A [] r) (F0 m 82 ls [.int (k_b t0)]) := by
    intro t0 H locs hP hD hS ls hl hm
    unfold mX7_reason_82 at hm
    refine lv_istore (lv' := [(10, .int (k_b t0)), (0, .long a0), (2, .long a2), (4, .int a4), (6, .int a6)]) hx hb dX7_reason_82 hl (by decide) rfl (fun ls hl => ?_)
    refine lv_iload hx hb dX7_reason_84 (lv_at hl 0 rfl) ?_
    refine lv_if_eq (tgt := 117) hx hb dX7_reason_86 (by decide) (fun cc86 => ?_) (fun cc86 => ?_)
    · have hm := k_ip cc86 hm
      refine lv_iconst (v := 0) hx hb dX7_reason_117 (by decide) ?_
      cases hm
      exact k_end_i hx hb hr hlocks hK hP hD hS dX7_reason_118
    · have hm := k_in cc86 hm
      refine lv_iload hx hb dX7_reason_89 (lv_at hl 4 rfl) ?_
      refine lv_iload hx hb dX7_reason_91 (lv_at hl 3 rfl) ?_
      obtain ⟨r1, hc93, hm⟩ := k_bds hm
      refine k_i_0 (k_rS (As := [.int a4]) (rest := [.int a6]) ⟨hx, hb, hml, hown, hts⟩ hK hN k_P0 (k_D0 (A := A)) (zX0_greater hc93) (va_cwS 1 hts gX7_reason_X0_greater rfl rfl rfl (by decide +kernel) ⟨Nat.le_of_ble_eq_true rfl, Nat.le_of_ble_eq_true rfl⟩) rfl hl.1 rfl (Nat.le_of_ble_eq_true rfl) dX7_reason_93 ⟨Nat.zero_le _, Nat.zero_le _⟩) hP hS hA (fun H locs hP hS => ?_)
      refine lv_icmp_ge (tgt := 117) hx hb dX7_reason_96 (by decide) (fun cc96 => ?_) (fun cc96 => ?_)
      · have hm := k_ip cc96 hm
        refine lv_iconst (v := 0) hx hb dX7_reason_117 (by decide) ?_
        cases hm
        exact k_end_i hx hb hr hlocks hK hP hD hS dX7_reason_118
      · have hm := k_in cc96 hm
        refine lv_lload_n hx hb dX7_reason_99 rfl (lv_at hl 1 rfl) ?_
        refine lv_lload_n hx hb dX7_reason_100 rfl (lv_at hl 2 rfl) ?_
        refine lv_iload hx hb dX7_reason_101 (lv_at hl 3 rfl) ?_
        refine lv_iload hx hb dX7_reason_103 (lv_at hl 3 rfl) ?_
        obtain ⟨r2, hc105, hm⟩ := k_bds hm
        refine k_i_0 (k_rS (As := [.int a4]) (rest := [.int a4, .long a2, .long a0]) ⟨hx, hb, hml, hown, hts⟩ hK hN k_P0 (k_D0 (A := A)) (zX0_greater hc105) (va_cwS 1 hts gX7_reason_X0_greater rfl rfl rfl (by decide +kernel) ⟨Nat.le_of_ble_eq_true rfl, Nat.le_of_ble_eq_true rfl⟩) rfl hl.1 rfl (Nat.le_of_ble_eq_true rfl) dX7_reason_105 ⟨Nat.zero_le _, Nat.zero_le _⟩) hP hS hA (fun H locs hP hS => ?_)
        obtain ⟨r3, hc108, hm⟩ := k_bds hm
        refine k_i_0 (k_rS (As := [.long a0, .long a2, .int a4, .int r2]) (rest := []) ⟨hx, hb, hml, hown, hts⟩ hK hN k_P0 (k_D0 (A := A)) (zX7_isAnyAllowed hc108) (va_cwS 4 hts gX7_reason_X7_isAnyAllowed rfl rfl rfl (by decide +kernel) ⟨Nat.le_of_ble_eq_true rfl, Nat.le_of_ble_eq_true rfl⟩) rfl hl.1 rfl (Nat.le_of_ble_eq_true rfl) dX7_reason_108 ⟨Nat.zero_le _, Nat.zero_le _⟩) hP hS hA (fun H locs hP hS => ?_)
        refine lv_if_eq (tgt := 117) hx hb dX7_reason_111 (by decide) (fun cc111 => ?_) (fun cc111 => ?_)
        · have hm := k_ip cc111 hm
          refine lv_iconst (v := 0) hx hb dX7_reason_117 (by decide) ?_
          cases hm
          exact k_end_i hx hb hr hlocks hK hP hD hS dX7_reason_118
        · have hm := k_in cc111 hm
          refine lv_bipush (v := 6) hx hb dX7_reason_114 (by decide) ?_
          cases hm
          exact k_end_i hx hb hr hlocks hK hP hD hS dX7_reason_116
  have J_81 : ∀ (H : Heap) (locs : List Loc), va_P D vwCl [] H → va_D A [] → va_S A z.heap H locs → ∀ ls : Array Slot, lv_has ls 11 [(0, .long a0), (2, .long a2), (4, .int a4), (6, .int a6)] → mX7_reason_81 a0 a2 a4 a5 a6 a7  = some (r) → W p l e rmX7_reason z m ([.long a0, .long a2, .int a4, .int a5, .int a6, .int a7] : List Value).toArray below meth c H locs 0 0 (k_Qi below ([.long a0, .long a2, .int a4, .int a5, .int a6, .int a7] : List Value) D (kT cI cJ cC cG) z A [] r) (F0 m 81 ls []) := by
    intro  H locs hP hD hS ls hl hm
    unfold mX7_reason_81 at hm
    refine lv_iconst (v := 0) hx hb dX7_reason_81 (by decide) ?_
    exact J_82 false _ _ hP hD hS _ (lv_sub hl [0, 1, 2, 3] rfl) hm
  unfold mX7_reason at hm
  refine lv_lload_n hx hb dX7_reason_0 rfl (lv_at hl 0 rfl) ?_
  refine lv_lload_n hx hb dX7_reason_1 rfl (lv_at hl 1 rfl) ?_
  refine lv_iload hx hb dX7_reason_2 (lv_at hl 2 rfl) ?_
  refine lv_iload hx hb dX7_reason_4 (lv_at hl 3 rfl) ?_
  refine lv_iload hx hb dX7_reason_6 (lv_at hl 4 rfl) ?_
  obtain ⟨r4, hc8, hm⟩ := k_bds hm
  refine k_i_0 (k_rS (As := [.long a0, .long a2, .int a4, .int a5, .int a6]) (rest := []) ⟨hx, hb, hml, hown, hts⟩ hK hN k_P0 (k_D0 (A := A)) (zX7_ban hc8) (va_cwS 5 hts gX7_reason_X7_ban rfl rfl rfl (by decide +kernel) ⟨Nat.le_of_ble_eq_true rfl, Nat.le_of_ble_eq_true rfl⟩) rfl hl.1 rfl (Nat.le_of_ble_eq_true rfl) dX7_reason_8 ⟨Nat.zero_le _, Nat.zero_le _⟩) hP hS hA (fun H locs hP hS => ?_)
  refine lv_istore (lv' := [(8, .int r4), (0, .long a0), (2, .long a2), (4, .int a4), (5, .int a5), (6, .int a6), (7, .int a7)]) hx hb dX7_reason_11 hl (by decide) rfl (fun ls hl => ?_)
  refine lv_iload hx hb dX7_reason_13 (lv_at hl 0 rfl) ?_
  refine lv_if_eq (tgt := 21) hx hb dX7_reason_15 (by decide) (fun cc15 => ?_) (fun cc15 => ?_)
  · have hm := k_ip cc15 hm
    refine lv_lload_n hx hb dX7_reason_21 rfl (lv_at hl 1 rfl) ?_
    refine lv_iload hx hb dX7_reason_22 (lv_at hl 4 rfl) ?_
    refine lv_iload hx hb dX7_reason_24 (lv_at hl 5 rfl) ?_
    obtain ⟨r5, hc26, hm⟩ := k_bds hm
    refine k_l_0 (k_rS (As := [.long a0, .int a5, .int a6]) (rest := []) ⟨hx, hb, hml, hown, hts⟩ hK hN k_P0 (k_D0 (A := A)) (zX7_mineBehind hc26) (va_cwS 3 hts gX7_reason_X7_mineBehind rfl rfl rfl (by decide +kernel) ⟨Nat.le_of_ble_eq_true rfl, Nat.le_of_ble_eq_true rfl⟩) rfl hl.1 rfl (Nat.le_of_ble_eq_true rfl) dX7_reason_26 ⟨Nat.zero_le _, Nat.zero_le _⟩) hP hS hA (fun H locs hP hS => ?_)
    refine lv_lload_n hx hb dX7_reason_29 rfl (lv_at hl 2 rfl) ?_
    refine lv_iload hx hb dX7_reason_30 (lv_at hl 4 rfl) ?_
    refine lv_iload hx hb dX7_reason_32 (lv_at hl 5 rfl) ?_
    obtain ⟨r6, hc34, hm⟩ := k_bds hm
    refine k_l_0 (k_rS (As := [.long a2, .int a5, .int a6]) (rest := [.long r5]) ⟨hx, hb, hml, hown, hts⟩ hK hN k_P0 (k_D0 (A := A)) (zX7_theirsBehind hc34) (va_cwS 3 hts gX7_reason_X7_theirsBehind rfl rfl rfl (by decide +kernel) ⟨Nat.le_of_ble_eq_true rfl, Nat.le_of_ble_eq_true rfl⟩) rfl hl.1 rfl (Nat.le_of_ble_eq_true rfl) dX7_reason_34 ⟨Nat.zero_le _, Nat.zero_le _⟩) hP hS hA (fun H locs hP hS => ?_)
    refine lv_iload hx hb dX7_reason_37 (lv_at hl 3 rfl) ?_
    refine lv_iload hx hb dX7_reason_39 (lv_at hl 5 rfl) ?_
    obtain ⟨r7, hc41, hm⟩ := k_bds hm
    refine k_i_0 (k_rS (As := [.int a4, .int a6]) (rest := [.long r6, .long r5]) ⟨hx, hb, hml, hown, hts⟩ hK hN k_P0 (k_D0 (A := A)) (zX0_without hc41) (va_cwS 2 hts gX7_reason_X0_without rfl rfl rfl (by decide +kernel) ⟨Nat.le_of_ble_eq_true rfl, Nat.le_of_ble_eq_true rfl⟩) rfl hl.1 rfl (Nat.le_of_ble_eq_true rfl) dX7_reason_41 ⟨Nat.zero_le _, Nat.zero_le _⟩) hP hS hA (fun H locs hP hS => ?_)
    refine lv_iconst (v := 4) hx hb dX7_reason_44 (by decide) ?_
    obtain ⟨r8, hc45, hm⟩ := k_bds hm
    refine k_i_0 (k_rS (As := [.long r5, .long r6, .int r7, .int 4]) (rest := []) ⟨hx, hb, hml, hown, hts⟩ hK hN k_P0 (k_D0 (A := A)) (zX7_reachOf 6 hc45) (va_cwS 4 hts gX7_reason_X7_reachOf rfl rfl rfl (by decide +kernel) ⟨Nat.le_of_ble_eq_true rfl, Nat.le_of_ble_eq_true rfl⟩) rfl hl.1 rfl (Nat.le_of_ble_eq_true rfl) dX7_reason_45 ⟨Nat.zero_le _, Nat.zero_le _⟩) hP hS hA (fun H locs hP hS => ?_)
    refine lv_istore (lv' := [(9, .int r8), (8, .int r4), (0, .long a0), (2, .long a2), (4, .int a4), (5, .int a5), (6, .int a6), (7, .int a7)]) hx hb dX7_reason_48 hl (by decide) rfl (fun ls hl => ?_)
    refine lv_iload hx hb dX7_reason_50 (lv_at hl 0 rfl) ?_
    refine lv_iload hx hb dX7_reason_52 (lv_at hl 7 rfl) ?_
    refine lv_iconst (v := 1) hx hb dX7_reason_54 (by decide) ?_
    refine lv_isub hx hb dX7_reason_55 ?_
    refine lv_icmp_ge (tgt := 62) hx hb dX7_reason_56 (by decide) (fun cc56 => ?_) (fun cc56 => ?_)
    · have hm := k_ip cc56 hm
      refine lv_iload hx hb dX7_reason_62 (lv_at hl 4 rfl) ?_
      obtain ⟨r9, hc64, hm⟩ := k_bds hm
      refine k_i_0 (k_rS (As := [.int a4]) (rest := []) ⟨hx, hb, hml, hown, hts⟩ hK hN k_P0 (k_D0 (A := A)) (zX0_kinds hc64) (va_cwS 1 hts gX7_reason_X0_kinds rfl rfl rfl (by decide +kernel) ⟨Nat.le_of_ble_eq_true rfl, Nat.le_of_ble_eq_true rfl⟩) rfl hl.1 rfl (Nat.le_of_ble_eq_true rfl) dX7_reason_64 ⟨Nat.zero_le _, Nat.zero_le _⟩) hP hS hA (fun H locs hP hS => ?_)
      refine lv_iconst (v := 2) hx hb dX7_reason_67 (by decide) ?_
      refine lv_icmp_ne (tgt := 81) hx hb dX7_reason_68 (by decide) (fun cc68 => ?_) (fun cc68 => ?_)
      · have hm := k_in cc68 hm
        exact J_81  _ _ hP hD hS _ (lv_sub hl [2, 3, 4, 6] rfl) hm
      · have hm := k_ip cc68 hm
        refine lv_iload hx hb dX7_reason_71 (lv_at hl 7 rfl) ?_
        refine lv_iconst (v := 1) hx hb dX7_reason_73 (by decide) ?_
        refine lv_icmp_ne (tgt := 81) hx hb dX7_reason_74 (by decide) (fun cc74 => ?_) (fun cc74 => ?_)
        · have hm := k_in cc74 hm
          exact J_81  _ _ hP hD hS _ (lv_sub hl [2, 3, 4, 6] rfl) hm
        · have hm := k_ip cc74 hm
          refine lv_iconst (v := 1) hx hb dX7_reason_77 (by decide) ?_
          refine lv_goto (tgt := 82) hx hb dX7_reason_78 (by decide) ?_
          exact J_82 true _ _ hP hD hS _ (lv_sub hl [2, 3, 4, 6] rfl) hm
    · have hm := k_in cc56 hm
      refine lv_bipush (v := 6) hx hb dX7_reason_59 (by decide) ?_
      cases hm
      exact k_end_i hx hb hr hlocks hK hP hD hS dX7_reason_61
  · have hm := k_in cc15 hm
    refine lv_iload hx hb dX7_reason_18 (lv_at hl 0 rfl) ?_
    cases hm
    exact k_end_i hx hb hr hlocks hK hP hD hS dX7_reason_20

abbrev rmX7_countPossible : Room := { frames := 11, cells := 0, slots := 0, locals := 342 }
set_option maxHeartbeats 4000000 in
set_option maxRecDepth 100000 in
theorem zX7_countPossible {l : Launch} {D : va_G} {cI cJ cC cG : ClassId} {sz : Nat}  {a0 : Int64} {a2 : Int64} {a4 : Int32} {r : Int32} (hm : mX7_countPossible a0 a2 a4 = some (r)) : k_Mi l yX7_countPossible wsX7_countPossible rmX7_countPossible D (kT cI cJ cC cG) sz ([.long a0, .long a2, .int a4] : List Value) [] [] r := by
  refine k_st_i (cc := cX7_countPossible) (maxL := 10) (by decide) rfl (Nat.le_of_ble_eq_true rfl) ?_
  intro p e z m below meth c A hx hb hr hml hts hown hlocks hsz hN hA hK hP hD hS ls hl
  have hown : z.vm.findClass RX7 = some m.cls := hown
  have hl : lv_has ls 10 [(0, .long a0), (2, .long a2), (4, .int a4)] := hl
  have J_16 := k_loop (z := fun _ _ _ => none) (st := mX7_countPossible_16 a0 a2 a4) (fun k16 : (Int32) → (Int32) → (Int32) → Option (Int32) => ∀ (l5 : Int32) (l6 : Int32) (l7 : Int32) (H : Heap) (locs : List Loc), va_P D vwCl [] H → va_D A [] → va_S A z.heap H locs → ∀ ls : Array Slot, lv_has ls 10 [(0, .long a0), (2, .long a2), (4, .int a4), (5, .int l5), (6, .int l6), (7, .int l7)] → k16 l5 l6 l7 = some (r) → W p l e rmX7_countPossible z m ([.long a0, .long a2, .int a4] : List Value).toArray below meth c H locs 0 0 (k_Qi below ([.long a0, .long a2, .int a4] : List Value) D (kT cI cJ cC cG) z A [] r) (F0 m 16 ls [])) (by intros; contradiction) (by
    intro k16 ih16
    have J_26 := k_loop (z := fun _ _ _ _ => none) (st := mX7_countPossible_26 a0 a2 a4 k16) (fun k26 : (Int32) → (Int32) → (Int32) → (Int32) → Option (Int32) => ∀ (l5 : Int32) (l6 : Int32) (l7 : Int32) (l8 : Int32) (H : Heap) (locs : List Loc), va_P D vwCl [] H → va_D A [] → va_S A z.heap H locs → ∀ ls : Array Slot, lv_has ls 10 [(0, .long a0), (2, .long a2), (4, .int a4), (5, .int l5), (6, .int l6), (7, .int l7), (8, .int l8)] → k26 l5 l6 l7 l8 = some (r) → W p l e rmX7_countPossible z m ([.long a0, .long a2, .int a4] : List Value).toArray below meth c H locs 0 0 (k_Qi below ([.long a0, .long a2, .int a4] : List Value) D (kT cI cJ cC cG) z A [] r) (F0 m 26 ls [])) (by intros; contradiction) (by
      intro k26 ih26
      intro l5 l6 l7 l8 H locs hP hD hS ls hl hm
      unfold mX7_countPossible_26 at hm
      refine lv_iload hx hb dX7_countPossible_26 (lv_at hl 6 rfl) ?_
      refine lv_iload hx hb dX7_countPossible_28 (lv_at hl 2 rfl) ?_
      obtain ⟨r1, hc30, hm⟩ := k_bds hm
      refine k_i_0 (k_rS (As := [.int a4]) (rest := [.int l8]) ⟨hx, hb, hml, hown, hts⟩ hK hN k_P0 (k_D0 (A := A)) (zX0_kinds hc30) (va_cwS 1 hts gX7_countPossible_X0_kinds rfl rfl rfl (by decide +kernel) ⟨Nat.le_of_ble_eq_true rfl, Nat.le_of_ble_eq_true rfl⟩) rfl hl.1 rfl (Nat.le_of_ble_eq_true rfl) dX7_countPossible_30 ⟨Nat.zero_le _, Nat.zero_le _⟩) hP hS hA (fun H locs hP hS => ?_)
      refine lv_icmp_ge (tgt := 77) hx hb dX7_countPossible_33 (by decide) (fun cc33 => ?_) (fun cc33 => ?_)
      · have hm := k_ip cc33 hm
        refine lv_iinc (v := (l7 + 1)) (lv' := [(7, .int (l7 + 1)), (0, .long a0), (2, .long a2), (4, .int a4), (5, .int l5), (6, .int l6), (8, .int l8)]) hx hb dX7_countPossible_77 hl (k := 5) rfl rfl (by decide) rfl (fun ls hl => ?_)
        refine lv_goto (tgt := 16) hx hb dX7_countPossible_80 (by decide) ?_
        exact ih16 l5 l6 (l7 + 1) _ _ hP hD hS _ (lv_sub hl [1, 2, 3, 4, 5, 0] rfl) hm
      · have hm := k_in cc33 hm
        refine lv_iload hx hb dX7_countPossible_36 (lv_at hl 2 rfl) ?_
        refine lv_iload hx hb dX7_countPossible_38 (lv_at hl 6 rfl) ?_
        obtain ⟨r2, hc40, hm⟩ := k_bds hm
        refine k_i_0 (k_rS (As := [.int a4, .int l8]) (rest := []) ⟨hx, hb, hml, hown, hts⟩ hK hN k_P0 (k_D0 (A := A)) (zX0_at hc40) (va_cwS 2 hts gX7_countPossible_X0_at rfl rfl rfl (by decide +kernel) ⟨Nat.le_of_ble_eq_true rfl, Nat.le_of_ble_eq_true rfl⟩) rfl hl.1 rfl (Nat.le_of_ble_eq_true rfl) dX7_countPossible_40 ⟨Nat.zero_le _, Nat.zero_le _⟩) hP hS hA (fun H locs hP hS => ?_)
        refine lv_istore (lv' := [(9, .int r2), (0, .long a0), (2, .long a2), (4, .int a4), (5, .int l5), (6, .int l6), (7, .int l7), (8, .int l8)]) hx hb dX7_countPossible_43 hl (by decide) rfl (fun ls hl => ?_)
        refine lv_iload hx hb dX7_countPossible_45 (lv_at hl 5 rfl) ?_
        refine lv_lload_n hx hb dX7_countPossible_47 rfl (lv_at hl 1 rfl) ?_
        refine lv_lload_n hx hb dX7_countPossible_48 rfl (lv_at hl 2 rfl) ?_
        refine lv_iload hx hb dX7_countPossible_49 (lv_at hl 3 rfl) ?_
        refine lv_iload hx hb dX7_countPossible_51 (lv_at hl 6 rfl) ?_
        refine lv_iload hx hb dX7_countPossible_53 (lv_at hl 0 rfl) ?_
        refine lv_iload hx hb dX7_countPossible_55 (lv_at hl 4 rfl) ?_
        obtain ⟨r3, hc57, hm⟩ := k_bds hm
        refine k_i_0 (k_rS (As := [.long a0, .long a2, .int a4, .int l7, .int r2, .int l5]) (rest := [.int l6]) ⟨hx, hb, hml, hown, hts⟩ hK hN k_P0 (k_D0 (A := A)) (zX7_reason hc57) (va_cwS 6 hts gX7_countPossible_X7_reason rfl rfl rfl (by decide +kernel) ⟨Nat.le_of_ble_eq_true rfl, Nat.le_of_ble_eq_true rfl⟩) rfl hl.1 rfl (Nat.le_of_ble_eq_true rfl) dX7_countPossible_57 ⟨Nat.zero_le _, Nat.zero_le _⟩) hP hS hA (fun H locs hP hS => ?_)
        refine lv_if_ne (tgt := 67) hx hb dX7_countPossible_60 (by decide) (fun cc60 => ?_) (fun cc60 => ?_)
        · have hm := k_in cc60 hm
          refine lv_iconst (v := 0) hx hb dX7_countPossible_67 (by decide) ?_
          refine lv_iadd hx hb dX7_countPossible_68 ?_
          refine lv_istore (lv' := [(6, .int (l6 + 0)), (9, .int r2), (0, .long a0), (2, .long a2), (4, .int a4), (5, .int l5), (7, .int l7), (8, .int l8)]) hx hb dX7_countPossible_69 hl (by decide) rfl (fun ls hl => ?_)
          refine lv_iinc (v := (l8 + 1)) (lv' := [(8, .int (l8 + 1)), (6, .int (l6 + 0)), (9, .int r2), (0, .long a0), (2, .long a2), (4, .int a4), (5, .int l5), (7, .int l7)]) hx hb dX7_countPossible_71 hl (k := 7) rfl rfl (by decide) rfl (fun ls hl => ?_)
          refine lv_goto (tgt := 26) hx hb dX7_countPossible_74 (by decide) ?_
          exact ih26 l5 (l6 + 0) l7 (l8 + 1) _ _ hP hD hS _ (lv_sub hl [3, 4, 5, 6, 1, 7, 0] rfl) hm
        · have hm := k_ip cc60 hm
          refine lv_iconst (v := 1) hx hb dX7_countPossible_63 (by decide) ?_
          refine lv_goto (tgt := 68) hx hb dX7_countPossible_64 (by decide) ?_
          refine lv_iadd hx hb dX7_countPossible_68 ?_
          refine lv_istore (lv' := [(6, .int (l6 + 1)), (9, .int r2), (0, .long a0), (2, .long a2), (4, .int a4), (5, .int l5), (7, .int l7), (8, .int l8)]) hx hb dX7_countPossible_69 hl (by decide) rfl (fun ls hl => ?_)
          refine lv_iinc (v := (l8 + 1)) (lv' := [(8, .int (l8 + 1)), (6, .int (l6 + 1)), (9, .int r2), (0, .long a0), (2, .long a2), (4, .int a4), (5, .int l5), (7, .int l7)]) hx hb dX7_countPossible_71 hl (k := 7) rfl rfl (by decide) rfl (fun ls hl => ?_)
          refine lv_goto (tgt := 26) hx hb dX7_countPossible_74 (by decide) ?_
          exact ih26 l5 (l6 + 1) l7 (l8 + 1) _ _ hP hD hS _ (lv_sub hl [3, 4, 5, 6, 1, 7, 0] rfl) hm) k_F
    intro l5 l6 l7 H locs hP hD hS ls hl hm
    unfold mX7_countPossible_16 at hm
    refine lv_iload hx hb dX7_countPossible_16 (lv_at hl 5 rfl) ?_
    refine lv_bipush (v := 17) hx hb dX7_countPossible_18 (by decide) ?_
    refine lv_icmp_gt (tgt := 83) hx hb dX7_countPossible_20 (by decide) (fun cc20 => ?_) (fun cc20 => ?_)
    · have hm := k_ip cc20 hm
      refine lv_iload hx hb dX7_countPossible_83 (lv_at hl 4 rfl) ?_
      cases hm
      exact k_end_i hx hb hr hlocks hK hP hD hS dX7_countPossible_85
    · have hm := k_in cc20 hm
      refine lv_iconst (v := 0) hx hb dX7_countPossible_23 (by decide) ?_
      refine lv_istore (lv' := [(8, .int 0), (0, .long a0), (2, .long a2), (4, .int a4), (5, .int l5), (6, .int l6), (7, .int l7)]) hx hb dX7_countPossible_24 hl (by decide) rfl (fun ls hl => ?_)
      exact J_26 l5 l6 l7 0 _ _ hP hD hS _ (lv_sub hl [1, 2, 3, 4, 5, 6, 0] rfl) hm) k_F
  unfold mX7_countPossible at hm
  refine lv_lload_n hx hb dX7_countPossible_0 rfl (lv_at hl 0 rfl) ?_
  refine lv_lload_n hx hb dX7_countPossible_1 rfl (lv_at hl 1 rfl) ?_
  refine lv_iload hx hb dX7_countPossible_2 (lv_at hl 2 rfl) ?_
  refine lv_iconst (v := 4) hx hb dX7_countPossible_4 (by decide) ?_
  obtain ⟨r4, hc5, hm⟩ := k_bds hm
  refine k_i_0 (k_rS (As := [.long a0, .long a2, .int a4, .int 4]) (rest := []) ⟨hx, hb, hml, hown, hts⟩ hK hN k_P0 (k_D0 (A := A)) (zX7_reachOf 6 hc5) (va_cwS 4 hts gX7_countPossible_X7_reachOf rfl rfl rfl (by decide +kernel) ⟨Nat.le_of_ble_eq_true rfl, Nat.le_of_ble_eq_true rfl⟩) rfl hl.1 rfl (Nat.le_of_ble_eq_true rfl) dX7_countPossible_5 ⟨Nat.zero_le _, Nat.zero_le _⟩) hP hS hA (fun H locs hP hS => ?_)
  refine lv_istore (lv' := [(5, .int r4), (0, .long a0), (2, .long a2), (4, .int a4)]) hx hb dX7_countPossible_8 hl (by decide) rfl (fun ls hl => ?_)
  refine lv_iconst (v := 0) hx hb dX7_countPossible_10 (by decide) ?_
  refine lv_istore (lv' := [(6, .int 0), (5, .int r4), (0, .long a0), (2, .long a2), (4, .int a4)]) hx hb dX7_countPossible_11 hl (by decide) rfl (fun ls hl => ?_)
  refine lv_iconst (v := 1) hx hb dX7_countPossible_13 (by decide) ?_
  refine lv_istore (lv' := [(7, .int 1), (6, .int 0), (5, .int r4), (0, .long a0), (2, .long a2), (4, .int a4)]) hx hb dX7_countPossible_14 hl (by decide) rfl (fun ls hl => ?_)
  exact J_16 r4 0 1 _ _ hP hD hS _ (lv_sub hl [3, 4, 5, 2, 1, 0] rfl) hm

abbrev rmX6_walksInto : Room := { frames := 1, cells := 0, slots := 0, locals := 22 }
set_option maxHeartbeats 4000000 in
set_option maxRecDepth 100000 in
theorem zX6_walksInto {l : Launch} {D : va_G} {cI cJ cC cG : ClassId} {sz : Nat}  {a0 : Int32} {a1 : Int64} {a3 : Int32} {a4 : Int32} {r : Bool} (hm : mX6_walksInto a0 a1 a3 a4 = some (r)) : k_Mi l yX6_walksInto wsX6_walksInto rmX6_walksInto D (kT cI cJ cC cG) sz ([.int a0, .long a1, .int a3, .int a4] : List Value) [] [] (k_b r) := by
  refine k_st_i (cc := cX6_walksInto) (maxL := 7) (by decide) rfl (Nat.le_of_ble_eq_true rfl) ?_
  intro p e z m below meth c A hx hb hr hml hts hown hlocks hsz hN hA hK hP hD hS ls hl
  have hown : z.vm.findClass RX6 = some m.cls := hown
  have hl : lv_has ls 7 [(0, .int a0), (1, .long a1), (3, .int a3), (4, .int a4)] := hl
  have J_6 := k_loop (z := fun _ _ => none) (st := mX6_walksInto_6 a0 a1 a3 a4) (fun k6 : (Int32) → (Int32) → Option (Bool) => ∀ (l5 : Int32) (l6 : Int32) (H : Heap) (locs : List Loc), va_P D vwCl [] H → va_D A [] → va_S A z.heap H locs → ∀ ls : Array Slot, lv_has ls 7 [(1, .long a1), (3, .int a3), (4, .int a4), (5, .int l5), (6, .int l6)] → k6 l5 l6 = some (r) → W p l e rmX6_walksInto z m ([.int a0, .long a1, .int a3, .int a4] : List Value).toArray below meth c H locs 0 0 (k_Qi below ([.int a0, .long a1, .int a3, .int a4] : List Value) D (kT cI cJ cC cG) z A [] (k_b r)) (F0 m 6 ls [])) (by intros; contradiction) (by
    intro k6 ih6
    intro l5 l6 H locs hP hD hS ls hl hm
    unfold mX6_walksInto_6 at hm
    refine lv_iload hx hb dX6_walksInto_6 (lv_at hl 4 rfl) ?_
    refine lv_iconst (v := 4) hx hb dX6_walksInto_8 (by decide) ?_
    refine lv_icmp_ge (tgt := 66) hx hb dX6_walksInto_9 (by decide) (fun cc9 => ?_) (fun cc9 => ?_)
    · have hm := k_ip cc9 hm
      refine lv_iconst (v := 0) hx hb dX6_walksInto_66 (by decide) ?_
      cases hm
      exact k_end_z false hx hb hr hlocks hK hP hD hS dX6_walksInto_67
    · have hm := k_in cc9 hm
      refine lv_iload hx hb dX6_walksInto_12 (lv_at hl 2 rfl) ?_
      refine lv_iload hx hb dX6_walksInto_14 (lv_at hl 4 rfl) ?_
      obtain ⟨r1, hc16, hm⟩ := k_bds hm
      refine k_i_0 (k_rS (As := [.int a4, .int l6]) (rest := []) ⟨hx, hb, hml, hown, hts⟩ hK hN k_P0 (k_D0 (A := A)) (zX0_at hc16) (va_cwS 2 hts gX6_walksInto_X0_at rfl rfl rfl (by decide +kernel) ⟨Nat.le_of_ble_eq_true rfl, Nat.le_of_ble_eq_true rfl⟩) rfl hl.1 rfl (Nat.le_of_ble_eq_true rfl) dX6_walksInto_16 ⟨Nat.zero_le _, Nat.zero_le _⟩) hP hS hA (fun H locs hP hS => ?_)
      refine lv_if_eq (tgt := 66) hx hb dX6_walksInto_19 (by decide) (fun cc19 => ?_) (fun cc19 => ?_)
      · have hm := k_ip cc19 hm
        refine lv_iconst (v := 0) hx hb dX6_walksInto_66 (by decide) ?_
        cases hm
        exact k_end_z false hx hb hr hlocks hK hP hD hS dX6_walksInto_67
      · have hm := k_in cc19 hm
        refine lv_iload hx hb dX6_walksInto_22 (lv_at hl 3 rfl) ?_
        refine lv_iload hx hb dX6_walksInto_24 (lv_at hl 2 rfl) ?_
        refine lv_iload hx hb dX6_walksInto_26 (lv_at hl 4 rfl) ?_
        obtain ⟨r2, hc28, hm⟩ := k_bds hm
        refine k_i_0 (k_rS (As := [.int a4, .int l6]) (rest := [.int l5]) ⟨hx, hb, hml, hown, hts⟩ hK hN k_P0 (k_D0 (A := A)) (zX0_at hc28) (va_cwS 2 hts gX6_walksInto_X0_at rfl rfl rfl (by decide +kernel) ⟨Nat.le_of_ble_eq_true rfl, Nat.le_of_ble_eq_true rfl⟩) rfl hl.1 rfl (Nat.le_of_ble_eq_true rfl) dX6_walksInto_28 ⟨Nat.zero_le _, Nat.zero_le _⟩) hP hS hA (fun H locs hP hS => ?_)
        refine lv_isub hx hb dX6_walksInto_31 ?_
        refine lv_istore (lv' := [(5, .int (l5 - r2)), (1, .long a1), (3, .int a3), (4, .int a4), (6, .int l6)]) hx hb dX6_walksInto_32 hl (by decide) rfl (fun ls hl => ?_)
        refine lv_iload hx hb dX6_walksInto_34 (lv_at hl 0 rfl) ?_
        refine lv_iload_n hx hb dX6_walksInto_36 rfl (lv_at hl 2 rfl) ?_
        refine lv_icmp_ne (tgt := 42) hx hb dX6_walksInto_37 (by decide) (fun cc37 => ?_) (fun cc37 => ?_)
        · have hm := k_in cc37 hm
          refine lv_iload hx hb dX6_walksInto_42 (lv_at hl 0 rfl) ?_
          refine lv_iload_n hx hb dX6_walksInto_44 rfl (lv_at hl 2 rfl) ?_
          refine lv_icmp_lt (tgt := 58) hx hb dX6_walksInto_45 (by decide) (fun cc45 => ?_) (fun cc45 => ?_)
          · have hm := k_ip cc45 hm
            refine lv_iconst (v := 0) hx hb dX6_walksInto_58 (by decide) ?_
            cases hm
            exact k_end_z false hx hb hr hlocks hK hP hD hS dX6_walksInto_59
          · have hm := k_in cc45 hm
            refine lv_lload_n hx hb dX6_walksInto_48 rfl (lv_at hl 1 rfl) ?_
            refine lv_iload hx hb dX6_walksInto_49 (lv_at hl 0 rfl) ?_
            obtain ⟨r3, hc51, hm⟩ := k_bds hm
            refine k_i_0 (k_rS (As := [.long a1, .int (l5 - r2)]) (rest := []) ⟨hx, hb, hml, hown, hts⟩ hK hN k_P0 (k_D0 (A := A)) (zX3_across hc51) (va_cwS 2 hts gX6_walksInto_X3_across rfl rfl rfl (by decide +kernel) ⟨Nat.le_of_ble_eq_true rfl, Nat.le_of_ble_eq_true rfl⟩) rfl hl.1 rfl (Nat.le_of_ble_eq_true rfl) dX6_walksInto_51 ⟨Nat.zero_le _, Nat.zero_le _⟩) hP hS hA (fun H locs hP hS => ?_)
            refine lv_iconst (v := 2) hx hb dX6_walksInto_54 (by decide) ?_
            refine lv_icmp_lt (tgt := 60) hx hb dX6_walksInto_55 (by decide) (fun cc55 => ?_) (fun cc55 => ?_)
            · have hm := k_ip cc55 hm
              refine lv_iinc (v := (l6 + 1)) (lv' := [(6, .int (l6 + 1)), (5, .int (l5 - r2)), (1, .long a1), (3, .int a3), (4, .int a4)]) hx hb dX6_walksInto_60 hl (k := 4) rfl rfl (by decide) rfl (fun ls hl => ?_)
              refine lv_goto (tgt := 6) hx hb dX6_walksInto_63 (by decide) ?_
              exact ih6 (l5 - r2) (l6 + 1) _ _ hP hD hS _ (lv_sub hl [2, 3, 4, 1, 0] rfl) hm
            · have hm := k_in cc55 hm
              refine lv_iconst (v := 0) hx hb dX6_walksInto_58 (by decide) ?_
              cases hm
              exact k_end_z false hx hb hr hlocks hK hP hD hS dX6_walksInto_59
        · have hm := k_ip cc37 hm
          refine lv_iconst (v := 1) hx hb dX6_walksInto_40 (by decide) ?_
          cases hm
          exact k_end_z true hx hb hr hlocks hK hP hD hS dX6_walksInto_41) k_F
  unfold mX6_walksInto at hm
  refine lv_iload_n hx hb dX6_walksInto_0 rfl (lv_at hl 0 rfl) ?_
  refine lv_istore (lv' := [(5, .int a0), (0, .int a0), (1, .long a1), (3, .int a3), (4, .int a4)]) hx hb dX6_walksInto_1 hl (by decide) rfl (fun ls hl => ?_)
  refine lv_iconst (v := 0) hx hb dX6_walksInto_3 (by decide) ?_
  refine lv_istore (lv' := [(6, .int 0), (5, .int a0), (0, .int a0), (1, .long a1), (3, .int a3), (4, .int a4)]) hx hb dX6_walksInto_4 hl (by decide) rfl (fun ls hl => ?_)
  exact J_6 a0 0 _ _ hP hD hS _ (lv_sub hl [3, 4, 5, 1, 0] rfl) hm

abbrev rmX6_hitsInOrder : Room := { frames := 2, cells := 0, slots := 0, locals := 48 }
set_option maxHeartbeats 4000000 in
set_option maxRecDepth 100000 in
theorem zX6_hitsInOrder {l : Launch} {D : va_G} {cI cJ cC cG : ClassId} {sz : Nat}  {a0 : Int64} {a2 : Int64} {a4 : Int32} {a5 : Int32} {r : Bool} (hm : mX6_hitsInOrder a0 a2 a4 a5 = some (r)) : k_Mi l yX6_hitsInOrder wsX6_hitsInOrder rmX6_hitsInOrder D (kT cI cJ cC cG) sz ([.long a0, .long a2, .int a4, .int a5] : List Value) [] [] (k_b r) := by
  refine k_st_i (cc := cX6_hitsInOrder) (maxL := 11) (by decide) rfl (Nat.le_of_ble_eq_true rfl) ?_
  intro p e z m below meth c A hx hb hr hml hts hown hlocks hsz hN hA hK hP hD hS ls hl
  have hown : z.vm.findClass RX6 = some m.cls := hown
  have hl : lv_has ls 11 [(0, .long a0), (2, .long a2), (4, .int a4), (5, .int a5)] := hl
  have J_92 := k_loop (z := fun _ _ _ => none) (st := mX6_hitsInOrder_92 a0 a2 a4 a5) (fun k92 : (Int64) → (Int32) → (Int32) → Option (Bool) => ∀ (l6 : Int64) (l8 : Int32) (l9 : Int32) (H : Heap) (locs : List Loc), va_P D vwCl [] H → va_D A [] → va_S A z.heap H locs → ∀ ls : Array Slot, lv_has ls 11 [(2, .long a2), (4, .int a4), (6, .long l6), (8, .int l8), (9, .int l9)] → k92 l6 l8 l9 = some (r) → W p l e rmX6_hitsInOrder z m ([.long a0, .long a2, .int a4, .int a5] : List Value).toArray below meth c H locs 0 0 (k_Qi below ([.long a0, .long a2, .int a4, .int a5] : List Value) D (kT cI cJ cC cG) z A [] (k_b r)) (F0 m 92 ls [])) (by intros; contradiction) (by
    intro k92 ih92
    intro l6 l8 l9 H locs hP hD hS ls hl hm
    unfold mX6_hitsInOrder_92 at hm
    refine lv_iload hx hb dX6_hitsInOrder_92 (lv_at hl 4 rfl) ?_
    refine lv_bipush (v := 16) hx hb dX6_hitsInOrder_94 (by decide) ?_
    refine lv_icmp_gt (tgt := 130) hx hb dX6_hitsInOrder_96 (by decide) (fun cc96 => ?_) (fun cc96 => ?_)
    · have hm := k_ip cc96 hm
      refine lv_iconst (v := 0) hx hb dX6_hitsInOrder_130 (by decide) ?_
      cases hm
      exact k_end_z false hx hb hr hlocks hK hP hD hS dX6_hitsInOrder_131
    · have hm := k_in cc96 hm
      refine lv_lload hx hb dX6_hitsInOrder_99 (lv_at hl 2 rfl) ?_
      refine lv_iload hx hb dX6_hitsInOrder_101 (lv_at hl 4 rfl) ?_
      obtain ⟨r1, hc103, hm⟩ := k_bds hm
      refine k_i_0 (k_rS (As := [.long l6, .int l9]) (rest := []) ⟨hx, hb, hml, hown, hts⟩ hK hN k_P0 (k_D0 (A := A)) (zX3_on hc103) (va_cwS 2 hts gX6_hitsInOrder_X3_on rfl rfl rfl (by decide +kernel) ⟨Nat.le_of_ble_eq_true rfl, Nat.le_of_ble_eq_true rfl⟩) rfl hl.1 rfl (Nat.le_of_ble_eq_true rfl) dX6_hitsInOrder_103 ⟨Nat.zero_le _, Nat.zero_le _⟩) hP hS hA (fun H locs hP hS => ?_)
      refine lv_if_le (tgt := 124) hx hb dX6_hitsInOrder_106 (by decide) (fun cc106 => ?_) (fun cc106 => ?_)
      · have hm := k_ip cc106 hm
        refine lv_iinc (v := (l9 + 1)) (lv' := [(9, .int (l9 + 1)), (2, .long a2), (4, .int a4), (6, .long l6), (8, .int l8)]) hx hb dX6_hitsInOrder_124 hl (k := 4) rfl rfl (by decide) rfl (fun ls hl => ?_)
        refine lv_goto (tgt := 92) hx hb dX6_hitsInOrder_127 (by decide) ?_
        exact ih92 l6 l8 (l9 + 1) _ _ hP hD hS _ (lv_sub hl [1, 2, 3, 4, 0] rfl) hm
      · have hm := k_in cc106 hm
        refine lv_iload hx hb dX6_hitsInOrder_109 (lv_at hl 4 rfl) ?_
        refine lv_lload_n hx hb dX6_hitsInOrder_111 rfl (lv_at hl 0 rfl) ?_
        refine lv_iload hx hb dX6_hitsInOrder_112 (lv_at hl 1 rfl) ?_
        refine lv_iload hx hb dX6_hitsInOrder_114 (lv_at hl 3 rfl) ?_
        obtain ⟨r2, hc116, hm⟩ := k_bds hm
        refine k_i_0 (k_rS (As := [.int l9, .long a2, .int a4, .int l8]) (rest := []) ⟨hx, hb, hml, hown, hts⟩ hK hN k_P0 (k_D0 (A := A)) (zX6_walksInto hc116) (va_cwS 4 hts gX6_hitsInOrder_X6_walksInto rfl rfl rfl (by decide +kernel) ⟨Nat.le_of_ble_eq_true rfl, Nat.le_of_ble_eq_true rfl⟩) rfl hl.1 rfl (Nat.le_of_ble_eq_true rfl) dX6_hitsInOrder_116 ⟨Nat.zero_le _, Nat.zero_le _⟩) hP hS hA (fun H locs hP hS => ?_)
        refine lv_if_eq (tgt := 124) hx hb dX6_hitsInOrder_119 (by decide) (fun cc119 => ?_) (fun cc119 => ?_)
        · have hm := k_ip cc119 hm
          refine lv_iinc (v := (l9 + 1)) (lv' := [(9, .int (l9 + 1)), (2, .long a2), (4, .int a4), (6, .long l6), (8, .int l8)]) hx hb dX6_hitsInOrder_124 hl (k := 4) rfl rfl (by decide) rfl (fun ls hl => ?_)
          refine lv_goto (tgt := 92) hx hb dX6_hitsInOrder_127 (by decide) ?_
          exact ih92 l6 l8 (l9 + 1) _ _ hP hD hS _ (lv_sub hl [1, 2, 3, 4, 0] rfl) hm
        · have hm := k_in cc119 hm
          refine lv_iconst (v := 1) hx hb dX6_hitsInOrder_122 (by decide) ?_
          cases hm
          exact k_end_z true hx hb hr hlocks hK hP hD hS dX6_hitsInOrder_123) k_F
  have J_86 : ∀ (l6 : Int64) (l8 : Int32) (H : Heap) (locs : List Loc), va_P D vwCl [] H → va_D A [] → va_S A z.heap H locs → ∀ ls : Array Slot, lv_has ls 11 [(2, .long a2), (4, .int a4), (6, .long l6), (8, .int l8)] → mX6_hitsInOrder_86 a0 a2 a4 a5 l6 l8 = some (r) → W p l e rmX6_hitsInOrder z m ([.long a0, .long a2, .int a4, .int a5] : List Value).toArray below meth c H locs 0 0 (k_Qi below ([.long a0, .long a2, .int a4, .int a5] : List Value) D (kT cI cJ cC cG) z A [] (k_b r)) (F0 m 86 ls []) := by
    intro l6 l8 H locs hP hD hS ls hl hm
    unfold mX6_hitsInOrder_86 at hm
    refine lv_iload hx hb dX6_hitsInOrder_86 (lv_at hl 1 rfl) ?_
    refine lv_iconst (v := 1) hx hb dX6_hitsInOrder_88 (by decide) ?_
    refine lv_iadd hx hb dX6_hitsInOrder_89 ?_
    refine lv_istore (lv' := [(9, .int (a4 + 1)), (2, .long a2), (4, .int a4), (6, .long l6), (8, .int l8)]) hx hb dX6_hitsInOrder_90 hl (by decide) rfl (fun ls hl => ?_)
    exact J_92 l6 l8 (a4 + 1) _ _ hP hD hS _ (lv_sub hl [1, 2, 3, 4, 0] rfl) hm
  have J_10 := k_loop (z := fun _ _ _ => none) (st := mX6_hitsInOrder_10 a0 a2 a4 a5) (fun k10 : (Int64) → (Int32) → (Int32) → Option (Bool) => ∀ (l6 : Int64) (l8 : Int32) (l9 : Int32) (H : Heap) (locs : List Loc), va_P D vwCl [] H → va_D A [] → va_S A z.heap H locs → ∀ ls : Array Slot, lv_has ls 11 [(2, .long a2), (4, .int a4), (6, .long l6), (8, .int l8), (9, .int l9)] → k10 l6 l8 l9 = some (r) → W p l e rmX6_hitsInOrder z m ([.long a0, .long a2, .int a4, .int a5] : List Value).toArray below meth c H locs 0 0 (k_Qi below ([.long a0, .long a2, .int a4, .int a5] : List Value) D (kT cI cJ cC cG) z A [] (k_b r)) (F0 m 10 ls [])) (by intros; contradiction) (by
    intro k10 ih10
    intro l6 l8 l9 H locs hP hD hS ls hl hm
    unfold mX6_hitsInOrder_10 at hm
    refine lv_iload hx hb dX6_hitsInOrder_10 (lv_at hl 4 rfl) ?_
    refine lv_iconst (v := 4) hx hb dX6_hitsInOrder_12 (by decide) ?_
    refine lv_icmp_ge (tgt := 86) hx hb dX6_hitsInOrder_13 (by decide) (fun cc13 => ?_) (fun cc13 => ?_)
    · have hm := k_ip cc13 hm
      exact J_86 l6 l8 _ _ hP hD hS _ (lv_sub hl [0, 1, 2, 3] rfl) hm
    · have hm := k_in cc13 hm
      refine lv_iload hx hb dX6_hitsInOrder_16 (lv_at hl 3 rfl) ?_
      refine lv_if_eq (tgt := 86) hx hb dX6_hitsInOrder_18 (by decide) (fun cc18 => ?_) (fun cc18 => ?_)
      · have hm := k_ip cc18 hm
        exact J_86 l6 l8 _ _ hP hD hS _ (lv_sub hl [0, 1, 2, 3] rfl) hm
      · have hm := k_in cc18 hm
        refine lv_lload hx hb dX6_hitsInOrder_21 (lv_at hl 2 rfl) ?_
        refine lv_bipush (v := 17) hx hb dX6_hitsInOrder_23 (by decide) ?_
        obtain ⟨r3, hc25, hm⟩ := k_bds hm
        refine k_i_0 (k_rS (As := [.long l6, .int 17]) (rest := []) ⟨hx, hb, hml, hown, hts⟩ hK hN k_P0 (k_D0 (A := A)) (zX3_on hc25) (va_cwS 2 hts gX6_hitsInOrder_X3_on rfl rfl rfl (by decide +kernel) ⟨Nat.le_of_ble_eq_true rfl, Nat.le_of_ble_eq_true rfl⟩) rfl hl.1 rfl (Nat.le_of_ble_eq_true rfl) dX6_hitsInOrder_25 ⟨Nat.zero_le _, Nat.zero_le _⟩) hP hS hA (fun H locs hP hS => ?_)
        refine lv_if_le (tgt := 86) hx hb dX6_hitsInOrder_28 (by decide) (fun cc28 => ?_) (fun cc28 => ?_)
        · have hm := k_ip cc28 hm
          exact J_86 l6 l8 _ _ hP hD hS _ (lv_sub hl [0, 1, 2, 3] rfl) hm
        · have hm := k_in cc28 hm
          refine lv_bipush (v := 17) hx hb dX6_hitsInOrder_31 (by decide) ?_
          refine lv_iload hx hb dX6_hitsInOrder_33 (lv_at hl 3 rfl) ?_
          refine lv_iconst (v := 0) hx hb dX6_hitsInOrder_35 (by decide) ?_
          obtain ⟨r4, hc36, hm⟩ := k_bds hm
          refine k_i_0 (k_rS (As := [.int l8, .int 0]) (rest := [.int 17]) ⟨hx, hb, hml, hown, hts⟩ hK hN k_P0 (k_D0 (A := A)) (zX0_at hc36) (va_cwS 2 hts gX6_hitsInOrder_X0_at rfl rfl rfl (by decide +kernel) ⟨Nat.le_of_ble_eq_true rfl, Nat.le_of_ble_eq_true rfl⟩) rfl hl.1 rfl (Nat.le_of_ble_eq_true rfl) dX6_hitsInOrder_36 ⟨Nat.zero_le _, Nat.zero_le _⟩) hP hS hA (fun H locs hP hS => ?_)
          refine lv_isub hx hb dX6_hitsInOrder_39 ?_
          refine lv_istore (lv' := [(10, .int (17 - r4)), (2, .long a2), (4, .int a4), (6, .long l6), (8, .int l8), (9, .int l9)]) hx hb dX6_hitsInOrder_40 hl (by decide) rfl (fun ls hl => ?_)
          refine lv_iload hx hb dX6_hitsInOrder_42 (lv_at hl 0 rfl) ?_
          refine lv_iload hx hb dX6_hitsInOrder_44 (lv_at hl 2 rfl) ?_
          refine lv_icmp_ne (tgt := 51) hx hb dX6_hitsInOrder_46 (by decide) (fun cc46 => ?_) (fun cc46 => ?_)
          · have hm := k_in cc46 hm
            refine lv_lload_n hx hb dX6_hitsInOrder_51 rfl (lv_at hl 1 rfl) ?_
            refine lv_iload hx hb dX6_hitsInOrder_52 (lv_at hl 0 rfl) ?_
            obtain ⟨r5, hc54, hm⟩ := k_bds hm
            refine k_i_0 (k_rS (As := [.long a2, .int (17 - r4)]) (rest := []) ⟨hx, hb, hml, hown, hts⟩ hK hN k_P0 (k_D0 (A := A)) (zX3_across hc54) (va_cwS 2 hts gX6_hitsInOrder_X3_across rfl rfl rfl (by decide +kernel) ⟨Nat.le_of_ble_eq_true rfl, Nat.le_of_ble_eq_true rfl⟩) rfl hl.1 rfl (Nat.le_of_ble_eq_true rfl) dX6_hitsInOrder_54 ⟨Nat.zero_le _, Nat.zero_le _⟩) hP hS hA (fun H locs hP hS => ?_)
            refine lv_iconst (v := 2) hx hb dX6_hitsInOrder_57 (by decide) ?_
            refine lv_icmp_lt (tgt := 63) hx hb dX6_hitsInOrder_58 (by decide) (fun cc58 => ?_) (fun cc58 => ?_)
            · have hm := k_ip cc58 hm
              refine lv_lload hx hb dX6_hitsInOrder_63 (lv_at hl 3 rfl) ?_
              refine lv_bipush (v := 17) hx hb dX6_hitsInOrder_65 (by decide) ?_
              refine lv_iload hx hb dX6_hitsInOrder_67 (lv_at hl 0 rfl) ?_
              obtain ⟨r6, hc69, hm⟩ := k_bds hm
              refine k_l_0 (k_rS (As := [.long l6, .int 17, .int (17 - r4)]) (rest := []) ⟨hx, hb, hml, hown, hts⟩ hK hN k_P0 (k_D0 (A := A)) (zX3_moved hc69) (va_cwS 3 hts gX6_hitsInOrder_X3_moved rfl rfl rfl (by decide +kernel) ⟨Nat.le_of_ble_eq_true rfl, Nat.le_of_ble_eq_true rfl⟩) rfl hl.1 rfl (Nat.le_of_ble_eq_true rfl) dX6_hitsInOrder_69 ⟨Nat.zero_le _, Nat.zero_le _⟩) hP hS hA (fun H locs hP hS => ?_)
              refine lv_lstore (lv' := [(6, .long r6), (10, .int (17 - r4)), (2, .long a2), (4, .int a4), (8, .int l8), (9, .int l9)]) hx hb dX6_hitsInOrder_72 hl (by decide) rfl (fun ls hl => ?_)
              refine lv_iload hx hb dX6_hitsInOrder_74 (lv_at hl 4 rfl) ?_
              refine lv_iconst (v := 3) hx hb dX6_hitsInOrder_76 (by decide) ?_
              refine lv_iushr (v := (k_iushr l8 3)) hx hb dX6_hitsInOrder_77 rfl ?_
              refine lv_istore (lv' := [(8, .int (k_iushr l8 3)), (6, .long r6), (10, .int (17 - r4)), (2, .long a2), (4, .int a4), (9, .int l9)]) hx hb dX6_hitsInOrder_78 hl (by decide) rfl (fun ls hl => ?_)
              refine lv_iinc (v := (l9 + 1)) (lv' := [(9, .int (l9 + 1)), (8, .int (k_iushr l8 3)), (6, .long r6), (10, .int (17 - r4)), (2, .long a2), (4, .int a4)]) hx hb dX6_hitsInOrder_80 hl (k := 5) rfl rfl (by decide) rfl (fun ls hl => ?_)
              refine lv_goto (tgt := 10) hx hb dX6_hitsInOrder_83 (by decide) ?_
              exact ih10 r6 (k_iushr l8 3) (l9 + 1) _ _ hP hD hS _ (lv_sub hl [4, 5, 2, 1, 0] rfl) hm
            · have hm := k_in cc58 hm
              refine lv_iconst (v := 0) hx hb dX6_hitsInOrder_61 (by decide) ?_
              cases hm
              exact k_end_z false hx hb hr hlocks hK hP hD hS dX6_hitsInOrder_62
          · have hm := k_ip cc46 hm
            refine lv_iconst (v := 1) hx hb dX6_hitsInOrder_49 (by decide) ?_
            cases hm
            exact k_end_z true hx hb hr hlocks hK hP hD hS dX6_hitsInOrder_50) k_F
  unfold mX6_hitsInOrder at hm
  refine lv_lload_n hx hb dX6_hitsInOrder_0 rfl (lv_at hl 0 rfl) ?_
  refine lv_lstore (lv' := [(6, .long a0), (0, .long a0), (2, .long a2), (4, .int a4), (5, .int a5)]) hx hb dX6_hitsInOrder_1 hl (by decide) rfl (fun ls hl => ?_)
  refine lv_iload hx hb dX6_hitsInOrder_3 (lv_at hl 4 rfl) ?_
  refine lv_istore (lv' := [(8, .int a5), (6, .long a0), (0, .long a0), (2, .long a2), (4, .int a4), (5, .int a5)]) hx hb dX6_hitsInOrder_5 hl (by decide) rfl (fun ls hl => ?_)
  refine lv_iconst (v := 0) hx hb dX6_hitsInOrder_7 (by decide) ?_
  refine lv_istore (lv' := [(9, .int 0), (8, .int a5), (6, .long a0), (0, .long a0), (2, .long a2), (4, .int a4), (5, .int a5)]) hx hb dX6_hitsInOrder_8 hl (by decide) rfl (fun ls hl => ?_)
  exact J_10 a0 a5 0 _ _ hP hD hS _ (lv_sub hl [4, 5, 2, 1, 0] rfl) hm

abbrev rmX6_canHit : Room := { frames := 3, cells := 0, slots := 0, locals := 78 }
set_option maxHeartbeats 4000000 in
set_option maxRecDepth 100000 in
theorem zX6_canHit {l : Launch} {D : va_G} {cI cJ cC cG : ClassId} {sz : Nat}  {a0 : Int64} {a2 : Int64} {a4 : Int32} {a5 : Int32} {r : Bool} (hm : mX6_canHit a0 a2 a4 a5 = some (r)) : k_Mi l yX6_canHit wsX6_canHit rmX6_canHit D (kT cI cJ cC cG) sz ([.long a0, .long a2, .int a4, .int a5] : List Value) [] [] (k_b r) := by
  refine k_st_i (cc := cX6_canHit) (maxL := 6) (by decide) rfl (Nat.le_of_ble_eq_true rfl) ?_
  intro p e z m below meth c A hx hb hr hml hts hown hlocks hsz hN hA hK hP hD hS ls hl
  have hown : z.vm.findClass RX6 = some m.cls := hown
  have hl : lv_has ls 6 [(0, .long a0), (2, .long a2), (4, .int a4), (5, .int a5)] := hl
  unfold mX6_canHit at hm
  refine lv_lload_n hx hb dX6_canHit_0 rfl (lv_at hl 0 rfl) ?_
  refine lv_lload_n hx hb dX6_canHit_1 rfl (lv_at hl 1 rfl) ?_
  refine lv_iload hx hb dX6_canHit_2 (lv_at hl 2 rfl) ?_
  refine lv_iload hx hb dX6_canHit_4 (lv_at hl 3 rfl) ?_
  obtain ⟨r1, hc6, hm⟩ := k_bds hm
  refine k_i_0 (k_rS (As := [.long a0, .long a2, .int a4, .int a5]) (rest := []) ⟨hx, hb, hml, hown, hts⟩ hK hN k_P0 (k_D0 (A := A)) (zX6_hitsInOrder hc6) (va_cwS 4 hts gX6_canHit_X6_hitsInOrder rfl rfl rfl (by decide +kernel) ⟨Nat.le_of_ble_eq_true rfl, Nat.le_of_ble_eq_true rfl⟩) rfl hl.1 rfl (Nat.le_of_ble_eq_true rfl) dX6_canHit_6 ⟨Nat.zero_le _, Nat.zero_le _⟩) hP hS hA (fun H locs hP hS => ?_)
  refine lv_if_ne (tgt := 27) hx hb dX6_canHit_9 (by decide) (fun cc9 => ?_) (fun cc9 => ?_)
  · have hm := k_in cc9 hm
    refine lv_iconst (v := 1) hx hb dX6_canHit_27 (by decide) ?_
    refine lv_goto (tgt := 32) hx hb dX6_canHit_28 (by decide) ?_
    cases hm
    exact k_end_z true hx hb hr hlocks hK hP hD hS dX6_canHit_32
  · have hm := k_ip cc9 hm
    refine lv_lload_n hx hb dX6_canHit_12 rfl (lv_at hl 0 rfl) ?_
    refine lv_lload_n hx hb dX6_canHit_13 rfl (lv_at hl 1 rfl) ?_
    refine lv_iload hx hb dX6_canHit_14 (lv_at hl 2 rfl) ?_
    refine lv_iload hx hb dX6_canHit_16 (lv_at hl 3 rfl) ?_
    obtain ⟨r2, hc18, hm⟩ := k_bds hm
    refine k_i_0 (k_rS (As := [.int a5]) (rest := [.int a4, .long a2, .long a0]) ⟨hx, hb, hml, hown, hts⟩ hK hN k_P0 (k_D0 (A := A)) (zX0_turned hc18) (va_cwS 1 hts gX6_canHit_X0_turned rfl rfl rfl (by decide +kernel) ⟨Nat.le_of_ble_eq_true rfl, Nat.le_of_ble_eq_true rfl⟩) rfl hl.1 rfl (Nat.le_of_ble_eq_true rfl) dX6_canHit_18 ⟨Nat.zero_le _, Nat.zero_le _⟩) hP hS hA (fun H locs hP hS => ?_)
    obtain ⟨r3, hc21, hm⟩ := k_bds hm
    refine k_i_0 (k_rS (As := [.long a0, .long a2, .int a4, .int r2]) (rest := []) ⟨hx, hb, hml, hown, hts⟩ hK hN k_P0 (k_D0 (A := A)) (zX6_hitsInOrder hc21) (va_cwS 4 hts gX6_canHit_X6_hitsInOrder rfl rfl rfl (by decide +kernel) ⟨Nat.le_of_ble_eq_true rfl, Nat.le_of_ble_eq_true rfl⟩) rfl hl.1 rfl (Nat.le_of_ble_eq_true rfl) dX6_canHit_21 ⟨Nat.zero_le _, Nat.zero_le _⟩) hP hS hA (fun H locs hP hS => ?_)
    refine lv_if_eq (tgt := 31) hx hb dX6_canHit_24 (by decide) (fun cc24 => ?_) (fun cc24 => ?_)
    · have hm := k_ip cc24 hm
      refine lv_iconst (v := 0) hx hb dX6_canHit_31 (by decide) ?_
      cases hm
      exact k_end_z false hx hb hr hlocks hK hP hD hS dX6_canHit_32
    · have hm := k_in cc24 hm
      refine lv_iconst (v := 1) hx hb dX6_canHit_27 (by decide) ?_
      refine lv_goto (tgt := 32) hx hb dX6_canHit_28 (by decide) ?_
      cases hm
      exact k_end_z true hx hb hr hlocks hK hP hD hS dX6_canHit_32

abbrev rmX6_rollByRoll : Room := { frames := 4, cells := 0, slots := 0, locals := 103 }
set_option maxHeartbeats 4000000 in
set_option maxRecDepth 100000 in
theorem zX6_rollByRoll {l : Launch} {D : va_G} {cI cJ cC cG : ClassId} {sz : Nat}  {a0 : Int64} {a2 : Int64} {a4 : Int32} {r : Int32} (hm : mX6_rollByRoll a0 a2 a4 = some (r)) : k_Mi l yX6_rollByRoll wsX6_rollByRoll rmX6_rollByRoll D (kT cI cJ cC cG) sz ([.long a0, .long a2, .int a4] : List Value) [] [] r := by
  refine k_st_i (cc := cX6_rollByRoll) (maxL := 8) (by decide) rfl (Nat.le_of_ble_eq_true rfl) ?_
  intro p e z m below meth c A hx hb hr hml hts hown hlocks hsz hN hA hK hP hD hS ls hl
  have hown : z.vm.findClass RX6 = some m.cls := hown
  have hl : lv_has ls 8 [(0, .long a0), (2, .long a2), (4, .int a4)] := hl
  have J_6 := k_loop (z := fun _ _ => none) (st := mX6_rollByRoll_6 a0 a2 a4) (fun k6 : (Int32) → (Int32) → Option (Int32) => ∀ (l5 : Int32) (l6 : Int32) (H : Heap) (locs : List Loc), va_P D vwCl [] H → va_D A [] → va_S A z.heap H locs → ∀ ls : Array Slot, lv_has ls 8 [(0, .long a0), (2, .long a2), (4, .int a4), (5, .int l5), (6, .int l6)] → k6 l5 l6 = some (r) → W p l e rmX6_rollByRoll z m ([.long a0, .long a2, .int a4] : List Value).toArray below meth c H locs 0 0 (k_Qi below ([.long a0, .long a2, .int a4] : List Value) D (kT cI cJ cC cG) z A [] r) (F0 m 6 ls [])) (by intros; contradiction) (by
    intro k6 ih6
    have J_16 := k_loop (z := fun _ _ _ => none) (st := mX6_rollByRoll_16 a0 a2 a4 k6) (fun k16 : (Int32) → (Int32) → (Int32) → Option (Int32) => ∀ (l5 : Int32) (l6 : Int32) (l7 : Int32) (H : Heap) (locs : List Loc), va_P D vwCl [] H → va_D A [] → va_S A z.heap H locs → ∀ ls : Array Slot, lv_has ls 8 [(0, .long a0), (2, .long a2), (4, .int a4), (5, .int l5), (6, .int l6), (7, .int l7)] → k16 l5 l6 l7 = some (r) → W p l e rmX6_rollByRoll z m ([.long a0, .long a2, .int a4] : List Value).toArray below meth c H locs 0 0 (k_Qi below ([.long a0, .long a2, .int a4] : List Value) D (kT cI cJ cC cG) z A [] r) (F0 m 16 ls [])) (by intros; contradiction) (by
      intro k16 ih16
      intro l5 l6 l7 H locs hP hD hS ls hl hm
      unfold mX6_rollByRoll_16 at hm
      refine lv_iload hx hb dX6_rollByRoll_16 (lv_at hl 5 rfl) ?_
      refine lv_bipush (v := 6) hx hb dX6_rollByRoll_18 (by decide) ?_
      refine lv_icmp_gt (tgt := 56) hx hb dX6_rollByRoll_20 (by decide) (fun cc20 => ?_) (fun cc20 => ?_)
      · have hm := k_ip cc20 hm
        refine lv_iinc (v := (l6 + 1)) (lv' := [(6, .int (l6 + 1)), (0, .long a0), (2, .long a2), (4, .int a4), (5, .int l5), (7, .int l7)]) hx hb dX6_rollByRoll_56 hl (k := 4) rfl rfl (by decide) rfl (fun ls hl => ?_)
        refine lv_goto (tgt := 6) hx hb dX6_rollByRoll_59 (by decide) ?_
        exact ih6 l5 (l6 + 1) _ _ hP hD hS _ (lv_sub hl [1, 2, 3, 4, 0] rfl) hm
      · have hm := k_in cc20 hm
        refine lv_iload hx hb dX6_rollByRoll_23 (lv_at hl 3 rfl) ?_
        refine lv_lload_n hx hb dX6_rollByRoll_25 rfl (lv_at hl 0 rfl) ?_
        refine lv_lload_n hx hb dX6_rollByRoll_26 rfl (lv_at hl 1 rfl) ?_
        refine lv_iload hx hb dX6_rollByRoll_27 (lv_at hl 2 rfl) ?_
        refine lv_iload hx hb dX6_rollByRoll_29 (lv_at hl 4 rfl) ?_
        refine lv_iload hx hb dX6_rollByRoll_31 (lv_at hl 5 rfl) ?_
        obtain ⟨r1, hc33, hm⟩ := k_bds hm
        refine k_i_0 (k_rS (As := [.int l6, .int l7]) (rest := [.int a4, .long a2, .long a0, .int l5]) ⟨hx, hb, hml, hown, hts⟩ hK hN k_P0 (k_D0 (A := A)) (zX0_rolled hc33) (va_cwS 2 hts gX6_rollByRoll_X0_rolled rfl rfl rfl (by decide +kernel) ⟨Nat.le_of_ble_eq_true rfl, Nat.le_of_ble_eq_true rfl⟩) rfl hl.1 rfl (Nat.le_of_ble_eq_true rfl) dX6_rollByRoll_33 ⟨Nat.zero_le _, Nat.zero_le _⟩) hP hS hA (fun H locs hP hS => ?_)
        obtain ⟨r2, hc36, hm⟩ := k_bds hm
        refine k_i_0 (k_rS (As := [.long a0, .long a2, .int a4, .int r1]) (rest := [.int l5]) ⟨hx, hb, hml, hown, hts⟩ hK hN k_P0 (k_D0 (A := A)) (zX6_canHit hc36) (va_cwS 4 hts gX6_rollByRoll_X6_canHit rfl rfl rfl (by decide +kernel) ⟨Nat.le_of_ble_eq_true rfl, Nat.le_of_ble_eq_true rfl⟩) rfl hl.1 rfl (Nat.le_of_ble_eq_true rfl) dX6_rollByRoll_36 ⟨Nat.zero_le _, Nat.zero_le _⟩) hP hS hA (fun H locs hP hS => ?_)
        refine lv_if_eq (tgt := 46) hx hb dX6_rollByRoll_39 (by decide) (fun cc39 => ?_) (fun cc39 => ?_)
        · have hm := k_ip cc39 hm
          refine lv_iconst (v := 0) hx hb dX6_rollByRoll_46 (by decide) ?_
          refine lv_iadd hx hb dX6_rollByRoll_47 ?_
          refine lv_istore (lv' := [(5, .int (l5 + 0)), (0, .long a0), (2, .long a2), (4, .int a4), (6, .int l6), (7, .int l7)]) hx hb dX6_rollByRoll_48 hl (by decide) rfl (fun ls hl => ?_)
          refine lv_iinc (v := (l7 + 1)) (lv' := [(7, .int (l7 + 1)), (5, .int (l5 + 0)), (0, .long a0), (2, .long a2), (4, .int a4), (6, .int l6)]) hx hb dX6_rollByRoll_50 hl (k := 5) rfl rfl (by decide) rfl (fun ls hl => ?_)
          refine lv_goto (tgt := 16) hx hb dX6_rollByRoll_53 (by decide) ?_
          exact ih16 (l5 + 0) l6 (l7 + 1) _ _ hP hD hS _ (lv_sub hl [2, 3, 4, 1, 5, 0] rfl) hm
        · have hm := k_in cc39 hm
          refine lv_iconst (v := 1) hx hb dX6_rollByRoll_42 (by decide) ?_
          refine lv_goto (tgt := 47) hx hb dX6_rollByRoll_43 (by decide) ?_
          refine lv_iadd hx hb dX6_rollByRoll_47 ?_
          refine lv_istore (lv' := [(5, .int (l5 + 1)), (0, .long a0), (2, .long a2), (4, .int a4), (6, .int l6), (7, .int l7)]) hx hb dX6_rollByRoll_48 hl (by decide) rfl (fun ls hl => ?_)
          refine lv_iinc (v := (l7 + 1)) (lv' := [(7, .int (l7 + 1)), (5, .int (l5 + 1)), (0, .long a0), (2, .long a2), (4, .int a4), (6, .int l6)]) hx hb dX6_rollByRoll_50 hl (k := 5) rfl rfl (by decide) rfl (fun ls hl => ?_)
          refine lv_goto (tgt := 16) hx hb dX6_rollByRoll_53 (by decide) ?_
          exact ih16 (l5 + 1) l6 (l7 + 1) _ _ hP hD hS _ (lv_sub hl [2, 3, 4, 1, 5, 0] rfl) hm) k_F
    intro l5 l6 H locs hP hD hS ls hl hm
    unfold mX6_rollByRoll_6 at hm
    refine lv_iload hx hb dX6_rollByRoll_6 (lv_at hl 4 rfl) ?_
    refine lv_bipush (v := 6) hx hb dX6_rollByRoll_8 (by decide) ?_
    refine lv_icmp_gt (tgt := 62) hx hb dX6_rollByRoll_10 (by decide) (fun cc10 => ?_) (fun cc10 => ?_)
    · have hm := k_ip cc10 hm
      refine lv_iload hx hb dX6_rollByRoll_62 (lv_at hl 3 rfl) ?_
      cases hm
      exact k_end_i hx hb hr hlocks hK hP hD hS dX6_rollByRoll_64
    · have hm := k_in cc10 hm
      refine lv_iconst (v := 1) hx hb dX6_rollByRoll_13 (by decide) ?_
      refine lv_istore (lv' := [(7, .int 1), (0, .long a0), (2, .long a2), (4, .int a4), (5, .int l5), (6, .int l6)]) hx hb dX6_rollByRoll_14 hl (by decide) rfl (fun ls hl => ?_)
      exact J_16 l5 l6 1 _ _ hP hD hS _ (lv_sub hl [1, 2, 3, 4, 5, 0] rfl) hm) k_F
  unfold mX6_rollByRoll at hm
  refine lv_iconst (v := 0) hx hb dX6_rollByRoll_0 (by decide) ?_
  refine lv_istore (lv' := [(5, .int 0), (0, .long a0), (2, .long a2), (4, .int a4)]) hx hb dX6_rollByRoll_1 hl (by decide) rfl (fun ls hl => ?_)
  refine lv_iconst (v := 1) hx hb dX6_rollByRoll_3 (by decide) ?_
  refine lv_istore (lv' := [(6, .int 1), (5, .int 0), (0, .long a0), (2, .long a2), (4, .int a4)]) hx hb dX6_rollByRoll_4 hl (by decide) rfl (fun ls hl => ?_)
  exact J_6 0 1 _ _ hP hD hS _ (lv_sub hl [2, 3, 4, 1, 0] rfl) hm

abbrev rmX6_kindByKind : Room := { frames := 4, cells := 0, slots := 0, locals := 103 }
set_option maxHeartbeats 4000000 in
set_option maxRecDepth 100000 in
theorem zX6_kindByKind {l : Launch} {D : va_G} {cI cJ cC cG : ClassId} {sz : Nat}  {a0 : Int64} {a2 : Int64} {a4 : Int32} {r : Int32} (hm : mX6_kindByKind a0 a2 a4 = some (r)) : k_Mi l yX6_kindByKind wsX6_kindByKind rmX6_kindByKind D (kT cI cJ cC cG) sz ([.long a0, .long a2, .int a4] : List Value) [] [] r := by
  refine k_st_i (cc := cX6_kindByKind) (maxL := 9) (by decide) rfl (Nat.le_of_ble_eq_true rfl) ?_
  intro p e z m below meth c A hx hb hr hml hts hown hlocks hsz hN hA hK hP hD hS ls hl
  have hown : z.vm.findClass RX6 = some m.cls := hown
  have hl : lv_has ls 9 [(0, .long a0), (2, .long a2), (4, .int a4)] := hl
  have J_6 := k_loop (z := fun _ _ => none) (st := mX6_kindByKind_6 a0 a2 a4) (fun k6 : (Int32) → (Int32) → Option (Int32) => ∀ (l5 : Int32) (l6 : Int32) (H : Heap) (locs : List Loc), va_P D vwCl [] H → va_D A [] → va_S A z.heap H locs → ∀ ls : Array Slot, lv_has ls 9 [(0, .long a0), (2, .long a2), (4, .int a4), (5, .int l5), (6, .int l6)] → k6 l5 l6 = some (r) → W p l e rmX6_kindByKind z m ([.long a0, .long a2, .int a4] : List Value).toArray below meth c H locs 0 0 (k_Qi below ([.long a0, .long a2, .int a4] : List Value) D (kT cI cJ cC cG) z A [] r) (F0 m 6 ls [])) (by intros; contradiction) (by
    intro k6 ih6
    have J_17 := k_loop (z := fun _ _ _ => none) (st := mX6_kindByKind_17 a0 a2 a4 k6) (fun k17 : (Int32) → (Int32) → (Int32) → Option (Int32) => ∀ (l5 : Int32) (l6 : Int32) (l7 : Int32) (H : Heap) (locs : List Loc), va_P D vwCl [] H → va_D A [] → va_S A z.heap H locs → ∀ ls : Array Slot, lv_has ls 9 [(0, .long a0), (2, .long a2), (4, .int a4), (5, .int l5), (6, .int l6), (7, .int l7)] → k17 l5 l6 l7 = some (r) → W p l e rmX6_kindByKind z m ([.long a0, .long a2, .int a4] : List Value).toArray below meth c H locs 0 0 (k_Qi below ([.long a0, .long a2, .int a4] : List Value) D (kT cI cJ cC cG) z A [] r) (F0 m 17 ls [])) (by intros; contradiction) (by
      intro k17 ih17
      have J_36 : ∀ (t0 : Int32) (l5 : Int32) (l6 : Int32) (l7 : Int32) (H : Heap) (locs : List Loc), va_P D vwCl [] H → va_D A [] → va_S A z.heap H locs → ∀ ls : Array Slot, lv_has ls 9 [(0, .long a0), (2, .long a2), (4, .int a4), (5, .int l5), (6, .int l6), (7, .int l7)] → mX6_kindByKind_36 a0 a2 a4 k6 k17 t0 l5 l6 l7 = some (r) → W p l e rmX6_kindByKind z m ([.long a0, .long a2, .int a4] : List Value).toArray below meth c H locs 0 0 (k_Qi below ([.long a0, .long a2, .int a4] : List Value) D (kT cI cJ cC cG) z A [] r) (F0 m 36 ls [.int t0]) := by
        intro t0 l5 l6 l7 H locs hP hD hS ls hl hm
        unfold mX6_kindByKind_36 at hm
        refine lv_istore (lv' := [(8, .int t0), (0, .long a0), (2, .long a2), (4, .int a4), (5, .int l5), (6, .int l6), (7, .int l7)]) hx hb dX6_kindByKind_36 hl (by decide) rfl (fun ls hl => ?_)
        refine lv_iload hx hb dX6_kindByKind_38 (lv_at hl 4 rfl) ?_
        refine lv_lload_n hx hb dX6_kindByKind_40 rfl (lv_at hl 1 rfl) ?_
        refine lv_lload_n hx hb dX6_kindByKind_41 rfl (lv_at hl 2 rfl) ?_
        refine lv_iload hx hb dX6_kindByKind_42 (lv_at hl 3 rfl) ?_
        refine lv_iload hx hb dX6_kindByKind_44 (lv_at hl 5 rfl) ?_
        refine lv_iload hx hb dX6_kindByKind_46 (lv_at hl 6 rfl) ?_
        obtain ⟨r1, hc48, hm⟩ := k_bds hm
        refine k_i_0 (k_rS (As := [.int l6, .int l7]) (rest := [.int a4, .long a2, .long a0, .int l5]) ⟨hx, hb, hml, hown, hts⟩ hK hN k_P0 (k_D0 (A := A)) (zX0_rolled hc48) (va_cwS 2 hts gX6_kindByKind_X0_rolled rfl rfl rfl (by decide +kernel) ⟨Nat.le_of_ble_eq_true rfl, Nat.le_of_ble_eq_true rfl⟩) rfl hl.1 rfl (Nat.le_of_ble_eq_true rfl) dX6_kindByKind_48 ⟨Nat.zero_le _, Nat.zero_le _⟩) hP hS hA (fun H locs hP hS => ?_)
        obtain ⟨r2, hc51, hm⟩ := k_bds hm
        refine k_i_0 (k_rS (As := [.long a0, .long a2, .int a4, .int r1]) (rest := [.int l5]) ⟨hx, hb, hml, hown, hts⟩ hK hN k_P0 (k_D0 (A := A)) (zX6_canHit hc51) (va_cwS 4 hts gX6_kindByKind_X6_canHit rfl rfl rfl (by decide +kernel) ⟨Nat.le_of_ble_eq_true rfl, Nat.le_of_ble_eq_true rfl⟩) rfl hl.1 rfl (Nat.le_of_ble_eq_true rfl) dX6_kindByKind_51 ⟨Nat.zero_le _, Nat.zero_le _⟩) hP hS hA (fun H locs hP hS => ?_)
        refine lv_if_eq (tgt := 62) hx hb dX6_kindByKind_54 (by decide) (fun cc54 => ?_) (fun cc54 => ?_)
        · have hm := k_ip cc54 hm
          refine lv_iconst (v := 0) hx hb dX6_kindByKind_62 (by decide) ?_
          refine lv_iadd hx hb dX6_kindByKind_63 ?_
          refine lv_istore (lv' := [(5, .int (l5 + 0)), (8, .int t0), (0, .long a0), (2, .long a2), (4, .int a4), (6, .int l6), (7, .int l7)]) hx hb dX6_kindByKind_64 hl (by decide) rfl (fun ls hl => ?_)
          refine lv_iinc (v := (l7 + 1)) (lv' := [(7, .int (l7 + 1)), (5, .int (l5 + 0)), (8, .int t0), (0, .long a0), (2, .long a2), (4, .int a4), (6, .int l6)]) hx hb dX6_kindByKind_66 hl (k := 6) rfl rfl (by decide) rfl (fun ls hl => ?_)
          refine lv_goto (tgt := 17) hx hb dX6_kindByKind_69 (by decide) ?_
          exact ih17 (l5 + 0) l6 (l7 + 1) _ _ hP hD hS _ (lv_sub hl [3, 4, 5, 1, 6, 0] rfl) hm
        · have hm := k_in cc54 hm
          refine lv_iload hx hb dX6_kindByKind_57 (lv_at hl 0 rfl) ?_
          refine lv_goto (tgt := 63) hx hb dX6_kindByKind_59 (by decide) ?_
          refine lv_iadd hx hb dX6_kindByKind_63 ?_
          refine lv_istore (lv' := [(5, .int (l5 + t0)), (8, .int t0), (0, .long a0), (2, .long a2), (4, .int a4), (6, .int l6), (7, .int l7)]) hx hb dX6_kindByKind_64 hl (by decide) rfl (fun ls hl => ?_)
          refine lv_iinc (v := (l7 + 1)) (lv' := [(7, .int (l7 + 1)), (5, .int (l5 + t0)), (8, .int t0), (0, .long a0), (2, .long a2), (4, .int a4), (6, .int l6)]) hx hb dX6_kindByKind_66 hl (k := 6) rfl rfl (by decide) rfl (fun ls hl => ?_)
          refine lv_goto (tgt := 17) hx hb dX6_kindByKind_69 (by decide) ?_
          exact ih17 (l5 + t0) l6 (l7 + 1) _ _ hP hD hS _ (lv_sub hl [3, 4, 5, 1, 6, 0] rfl) hm
      intro l5 l6 l7 H locs hP hD hS ls hl hm
      unfold mX6_kindByKind_17 at hm
      refine lv_iload hx hb dX6_kindByKind_17 (lv_at hl 5 rfl) ?_
      refine lv_bipush (v := 6) hx hb dX6_kindByKind_19 (by decide) ?_
      refine lv_icmp_gt (tgt := 72) hx hb dX6_kindByKind_21 (by decide) (fun cc21 => ?_) (fun cc21 => ?_)
      · have hm := k_ip cc21 hm
        refine lv_iinc (v := (l6 + 1)) (lv' := [(6, .int (l6 + 1)), (0, .long a0), (2, .long a2), (4, .int a4), (5, .int l5), (7, .int l7)]) hx hb dX6_kindByKind_72 hl (k := 4) rfl rfl (by decide) rfl (fun ls hl => ?_)
        refine lv_goto (tgt := 6) hx hb dX6_kindByKind_75 (by decide) ?_
        exact ih6 l5 (l6 + 1) _ _ hP hD hS _ (lv_sub hl [1, 2, 3, 4, 0] rfl) hm
      · have hm := k_in cc21 hm
        refine lv_iload hx hb dX6_kindByKind_24 (lv_at hl 4 rfl) ?_
        refine lv_iload hx hb dX6_kindByKind_26 (lv_at hl 5 rfl) ?_
        refine lv_icmp_ne (tgt := 35) hx hb dX6_kindByKind_28 (by decide) (fun cc28 => ?_) (fun cc28 => ?_)
        · have hm := k_in cc28 hm
          refine lv_iconst (v := 2) hx hb dX6_kindByKind_35 (by decide) ?_
          exact J_36 2 l5 l6 l7 _ _ hP hD hS _ (lv_sub hl [0, 1, 2, 3, 4, 5] rfl) hm
        · have hm := k_ip cc28 hm
          refine lv_iconst (v := 1) hx hb dX6_kindByKind_31 (by decide) ?_
          refine lv_goto (tgt := 36) hx hb dX6_kindByKind_32 (by decide) ?_
          exact J_36 1 l5 l6 l7 _ _ hP hD hS _ (lv_sub hl [0, 1, 2, 3, 4, 5] rfl) hm) k_F
    intro l5 l6 H locs hP hD hS ls hl hm
    unfold mX6_kindByKind_6 at hm
    refine lv_iload hx hb dX6_kindByKind_6 (lv_at hl 4 rfl) ?_
    refine lv_bipush (v := 6) hx hb dX6_kindByKind_8 (by decide) ?_
    refine lv_icmp_gt (tgt := 78) hx hb dX6_kindByKind_10 (by decide) (fun cc10 => ?_) (fun cc10 => ?_)
    · have hm := k_ip cc10 hm
      refine lv_iload hx hb dX6_kindByKind_78 (lv_at hl 3 rfl) ?_
      cases hm
      exact k_end_i hx hb hr hlocks hK hP hD hS dX6_kindByKind_80
    · have hm := k_in cc10 hm
      refine lv_iload hx hb dX6_kindByKind_13 (lv_at hl 4 rfl) ?_
      refine lv_istore (lv' := [(7, .int l6), (0, .long a0), (2, .long a2), (4, .int a4), (5, .int l5), (6, .int l6)]) hx hb dX6_kindByKind_15 hl (by decide) rfl (fun ls hl => ?_)
      exact J_17 l5 l6 l6 _ _ hP hD hS _ (lv_sub hl [1, 2, 3, 4, 5, 0] rfl) hm) k_F
  unfold mX6_kindByKind at hm
  refine lv_iconst (v := 0) hx hb dX6_kindByKind_0 (by decide) ?_
  refine lv_istore (lv' := [(5, .int 0), (0, .long a0), (2, .long a2), (4, .int a4)]) hx hb dX6_kindByKind_1 hl (by decide) rfl (fun ls hl => ?_)
  refine lv_iconst (v := 1) hx hb dX6_kindByKind_3 (by decide) ?_
  refine lv_istore (lv' := [(6, .int 1), (5, .int 0), (0, .long a0), (2, .long a2), (4, .int a4)]) hx hb dX6_kindByKind_4 hl (by decide) rfl (fun ls hl => ?_)
  exact J_6 0 1 _ _ hP hD hS _ (lv_sub hl [2, 3, 4, 1, 0] rfl) hm

abbrev rmX6_rollsThatEnter : Room := { frames := 1, cells := 0, slots := 0, locals := 22 }
set_option maxHeartbeats 4000000 in
set_option maxRecDepth 100000 in
theorem zX6_rollsThatEnter {l : Launch} {D : va_G} {cI cJ cC cG : ClassId} {sz : Nat}  {a0 : Int64} {r : Int32} (hm : mX6_rollsThatEnter a0 = some (r)) : k_Mi l yX6_rollsThatEnter wsX6_rollsThatEnter rmX6_rollsThatEnter D (kT cI cJ cC cG) sz ([.long a0] : List Value) [] [] r := by
  refine k_st_i (cc := cX6_rollsThatEnter) (maxL := 4) (by decide) rfl (Nat.le_of_ble_eq_true rfl) ?_
  intro p e z m below meth c A hx hb hr hml hts hown hlocks hsz hN hA hK hP hD hS ls hl
  have hown : z.vm.findClass RX6 = some m.cls := hown
  have hl : lv_has ls 4 [(0, .long a0)] := hl
  have J_4 := k_loop (z := fun _ _ => none) (st := mX6_rollsThatEnter_4 a0) (fun k4 : (Int32) → (Int32) → Option (Int32) => ∀ (l2 : Int32) (l3 : Int32) (H : Heap) (locs : List Loc), va_P D vwCl [] H → va_D A [] → va_S A z.heap H locs → ∀ ls : Array Slot, lv_has ls 4 [(0, .long a0), (2, .int l2), (3, .int l3)] → k4 l2 l3 = some (r) → W p l e rmX6_rollsThatEnter z m ([.long a0] : List Value).toArray below meth c H locs 0 0 (k_Qi below ([.long a0] : List Value) D (kT cI cJ cC cG) z A [] r) (F0 m 4 ls [])) (by intros; contradiction) (by
    intro k4 ih4
    intro l2 l3 H locs hP hD hS ls hl hm
    unfold mX6_rollsThatEnter_4 at hm
    refine lv_iload_n hx hb dX6_rollsThatEnter_4 rfl (lv_at hl 2 rfl) ?_
    refine lv_bipush (v := 6) hx hb dX6_rollsThatEnter_5 (by decide) ?_
    refine lv_icmp_gt (tgt := 36) hx hb dX6_rollsThatEnter_7 (by decide) (fun cc7 => ?_) (fun cc7 => ?_)
    · have hm := k_ip cc7 hm
      refine lv_bipush (v := 36) hx hb dX6_rollsThatEnter_36 (by decide) ?_
      refine lv_iload_n hx hb dX6_rollsThatEnter_38 rfl (lv_at hl 1 rfl) ?_
      refine lv_iload_n hx hb dX6_rollsThatEnter_39 rfl (lv_at hl 1 rfl) ?_
      refine lv_imul hx hb dX6_rollsThatEnter_40 ?_
      refine lv_isub hx hb dX6_rollsThatEnter_41 ?_
      cases hm
      exact k_end_i hx hb hr hlocks hK hP hD hS dX6_rollsThatEnter_42
    · have hm := k_in cc7 hm
      refine lv_iload_n hx hb dX6_rollsThatEnter_10 rfl (lv_at hl 1 rfl) ?_
      refine lv_lload_n hx hb dX6_rollsThatEnter_11 rfl (lv_at hl 0 rfl) ?_
      refine lv_bipush (v := 17) hx hb dX6_rollsThatEnter_12 (by decide) ?_
      refine lv_iload_n hx hb dX6_rollsThatEnter_14 rfl (lv_at hl 2 rfl) ?_
      refine lv_isub hx hb dX6_rollsThatEnter_15 ?_
      obtain ⟨r1, hc16, hm⟩ := k_bds hm
      refine k_i_0 (k_rS (As := [.long a0, .int (17 - l3)]) (rest := [.int l2]) ⟨hx, hb, hml, hown, hts⟩ hK hN k_P0 (k_D0 (A := A)) (zX3_across hc16) (va_cwS 2 hts gX6_rollsThatEnter_X3_across rfl rfl rfl (by decide +kernel) ⟨Nat.le_of_ble_eq_true rfl, Nat.le_of_ble_eq_true rfl⟩) rfl hl.1 rfl (Nat.le_of_ble_eq_true rfl) dX6_rollsThatEnter_16 ⟨Nat.zero_le _, Nat.zero_le _⟩) hP hS hA (fun H locs hP hS => ?_)
      refine lv_iconst (v := 2) hx hb dX6_rollsThatEnter_19 (by decide) ?_
      refine lv_icmp_lt (tgt := 27) hx hb dX6_rollsThatEnter_20 (by decide) (fun cc20 => ?_) (fun cc20 => ?_)
      · have hm := k_ip cc20 hm
        refine lv_iconst (v := 0) hx hb dX6_rollsThatEnter_27 (by decide) ?_
        refine lv_iadd hx hb dX6_rollsThatEnter_28 ?_
        refine lv_istore_n (lv' := [(2, .int (l2 + 0)), (0, .long a0), (3, .int l3)]) hx hb dX6_rollsThatEnter_29 rfl hl (by decide) rfl (fun ls hl => ?_)
        refine lv_iinc (v := (l3 + 1)) (lv' := [(3, .int (l3 + 1)), (2, .int (l2 + 0)), (0, .long a0)]) hx hb dX6_rollsThatEnter_30 hl (k := 2) rfl rfl (by decide) rfl (fun ls hl => ?_)
        refine lv_goto (tgt := 4) hx hb dX6_rollsThatEnter_33 (by decide) ?_
        exact ih4 (l2 + 0) (l3 + 1) _ _ hP hD hS _ (lv_sub hl [2, 1, 0] rfl) hm
      · have hm := k_in cc20 hm
        refine lv_iconst (v := 1) hx hb dX6_rollsThatEnter_23 (by decide) ?_
        refine lv_goto (tgt := 28) hx hb dX6_rollsThatEnter_24 (by decide) ?_
        refine lv_iadd hx hb dX6_rollsThatEnter_28 ?_
        refine lv_istore_n (lv' := [(2, .int (l2 + 1)), (0, .long a0), (3, .int l3)]) hx hb dX6_rollsThatEnter_29 rfl hl (by decide) rfl (fun ls hl => ?_)
        refine lv_iinc (v := (l3 + 1)) (lv' := [(3, .int (l3 + 1)), (2, .int (l2 + 1)), (0, .long a0)]) hx hb dX6_rollsThatEnter_30 hl (k := 2) rfl rfl (by decide) rfl (fun ls hl => ?_)
        refine lv_goto (tgt := 4) hx hb dX6_rollsThatEnter_33 (by decide) ?_
        exact ih4 (l2 + 1) (l3 + 1) _ _ hP hD hS _ (lv_sub hl [2, 1, 0] rfl) hm) k_F
  unfold mX6_rollsThatEnter at hm
  refine lv_iconst (v := 0) hx hb dX6_rollsThatEnter_0 (by decide) ?_
  refine lv_istore_n (lv' := [(2, .int 0), (0, .long a0)]) hx hb dX6_rollsThatEnter_1 rfl hl (by decide) rfl (fun ls hl => ?_)
  refine lv_iconst (v := 1) hx hb dX6_rollsThatEnter_2 (by decide) ?_
  refine lv_istore_n (lv' := [(3, .int 1), (2, .int 0), (0, .long a0)]) hx hb dX6_rollsThatEnter_3 rfl hl (by decide) rfl (fun ls hl => ?_)
  exact J_4 0 1 _ _ hP hD hS _ (lv_sub hl [2, 1, 0] rfl) hm

