abbrev rmL_isStepped : Room := { frames := 16, cells := 0, slots := 0, locals := 549 }
set_option maxHeartbeats 4000000 in
set_option maxRecDepth 100000 in
theorem zL_isStepped {l : Launch} {D : va_G} {cI cJ cC cG : ClassId} {sz : Nat} {h9 hn h0 : Nat} {ap q ht pa pb pc : Nat → Nat} {jk : JT} {x : XT} {a1 : Int32} {r : Bool} {x' : XT} (hm : mL_isStepped x a1 = some (r, x')) : k_MiE l yL_isStepped wsL_isStepped rmL_isStepped D (kT cI cJ cC cG) sz ([.ref h9, .int a1] : List Value) (wXt cI cJ cC cG h9 hn ap q ht h0 pa pb pc jk x) (fun u : (Nat → Nat) × (Nat → Nat) × (Nat → Nat) × (JT) => (wXt cI cJ cC cG h9 hn ap (u.1) ht h0 (u.2.1) (u.2.2.1) pc (u.2.2.2) x')) (k_b r) := by
  refine k_st_iE (cc := cL_isStepped) (maxL := 16) (by decide) rfl (Nat.le_of_ble_eq_true rfl) ?_
  intro p e z m below meth c A hx hb hr hml hts hown hlocks hsz hN hA hK hP hD hS ls hl
  have hown : z.vm.findClass RL = some m.cls := hown
  have hl : lv_has ls 16 [(0, .ref h9), (1, .int a1)] := hl
  have J_332 : ∀ (q : Nat → Nat) (pa : Nat → Nat) (pb : Nat → Nat) (jk : JT) (t0 : Bool) (l5 : Int32) (l6 : Int32) (l7 : Bool) (l8 : Int32) (l9 : Int32) (l13 : Int32) (x : XT) (H : Heap) (locs : List Loc), va_P D vwCl (wXt cI cJ cC cG h9 hn ap q ht h0 pa pb pc jk x) H → va_D A (wXt cI cJ cC cG h9 hn ap q ht h0 pa pb pc jk x) → va_S A z.heap H locs → ∀ ls : Array Slot, lv_has ls 16 [(0, .ref h9), (5, .int l5), (6, .int l6), (7, .int (k_b l7)), (8, .int l8), (9, .int l9), (13, .int l13)] → mL_isStepped_332 a1 t0 l5 l6 l7 l8 l9 l13 x = some (r, x') → W p l e rmL_isStepped z m ([.ref h9, .int a1] : List Value).toArray below meth c H locs 0 0 (k_QiE below ([.ref h9, .int a1] : List Value) D (kT cI cJ cC cG) z A (fun u : (Nat → Nat) × (Nat → Nat) × (Nat → Nat) × (JT) => (wXt cI cJ cC cG h9 hn ap (u.1) ht h0 (u.2.1) (u.2.2.1) pc (u.2.2.2) x')) (k_b r)) (F0 m 332 ls [.int (k_b t0)]) := by
    intro q pa pb jk t0 l5 l6 l7 l8 l9 l13 x H locs hP hD hS ls hl hm
    unfold mL_isStepped_332 at hm
    refine lv_istore (lv' := [(15, .int (k_b t0)), (0, .ref h9), (5, .int l5), (6, .int l6), (7, .int (k_b l7)), (8, .int l8), (9, .int l9), (13, .int l13)]) hx hb dL_isStepped_332 hl (by decide) rfl (fun ls hl => ?_)
    refine lv_aload_n hx hb dL_isStepped_334 rfl (lv_at hl 1 rfl) ?_
    obtain ⟨r1, hc335, hm⟩ := k_bds hm
    refine k_i_sE (k_rV (As := []) (rest := []) ⟨hx, hb, hml, hown, hts⟩ hK hN hP hD (zB_phase hc335) (cwV 0 hts gL_isStepped_X9_phase rfl rfl rfl (by decide +kernel) ⟨Nat.le_of_ble_eq_true rfl, Nat.le_of_ble_eq_true rfl⟩) rfl rfl rfl hl.1 rfl (Nat.le_of_ble_eq_true rfl) dL_isStepped_335 ⟨Nat.zero_le _, Nat.zero_le _⟩) hD hS hA (fun u9 H locs hP hD hS => ?_)
    obtain ⟨u2, u3, u4, u5⟩ := u9
    have hP : va_P D vwCl (wXt cI cJ cC cG h9 hn ap u2 ht h0 u3 u4 pc u5 x) H := hP
    have hD : va_D A (wXt cI cJ cC cG h9 hn ap u2 ht h0 u3 u4 pc u5 x) := hD
    refine lv_iconst (v := 3) hx hb dL_isStepped_338 (by decide) ?_
    refine lv_icmp_ne (tgt := 380) hx hb dL_isStepped_339 (by decide) (fun cc339 => ?_) (fun cc339 => ?_)
    · have hm := k_in cc339 hm
      refine lv_iload hx hb dL_isStepped_380 (lv_at hl 0 rfl) ?_
      refine lv_if_eq (tgt := 454) hx hb dL_isStepped_382 (by decide) (fun cc382 => ?_) (fun cc382 => ?_)
      · have hm := k_ip cc382 hm
        refine lv_iconst (v := 0) hx hb dL_isStepped_454 (by decide) ?_
        cases hm
        exact k_end_zE (u2, u3, u4, u5) false hx hb hr hlocks hK hP hD hS dL_isStepped_455
      · have hm := k_in cc382 hm
        refine lv_aload_n hx hb dL_isStepped_385 rfl (lv_at hl 1 rfl) ?_
        obtain ⟨r6, hc386, hm⟩ := k_bds hm
        refine k_i_sE (k_rV (As := []) (rest := []) ⟨hx, hb, hml, hown, hts⟩ hK hN hP hD (zB_phase hc386) (cwV 0 hts gL_isStepped_X9_phase rfl rfl rfl (by decide +kernel) ⟨Nat.le_of_ble_eq_true rfl, Nat.le_of_ble_eq_true rfl⟩) rfl rfl rfl hl.1 rfl (Nat.le_of_ble_eq_true rfl) dL_isStepped_386 ⟨Nat.zero_le _, Nat.zero_le _⟩) hD hS hA (fun u9 H locs hP hD hS => ?_)
        obtain ⟨u7, u8, u9, u10⟩ := u9
        have hP : va_P D vwCl (wXt cI cJ cC cG h9 hn ap u7 ht h0 u8 u9 pc u10 x) H := hP
        have hD : va_D A (wXt cI cJ cC cG h9 hn ap u7 ht h0 u8 u9 pc u10 x) := hD
        refine lv_iconst (v := 1) hx hb dL_isStepped_389 (by decide) ?_
        refine lv_icmp_ne (tgt := 454) hx hb dL_isStepped_390 (by decide) (fun cc390 => ?_) (fun cc390 => ?_)
        · have hm := k_in cc390 hm
          refine lv_iconst (v := 0) hx hb dL_isStepped_454 (by decide) ?_
          cases hm
          exact k_end_zE (u7, u8, u9, u10) false hx hb hr hlocks hK hP hD hS dL_isStepped_455
        · have hm := k_ip cc390 hm
          refine lv_aload_n hx hb dL_isStepped_393 rfl (lv_at hl 1 rfl) ?_
          refine lv_iload hx hb dL_isStepped_394 (lv_at hl 2 rfl) ?_
          obtain ⟨r11, hc396, hm⟩ := k_bds hm
          refine k_i_sE (k_rV (As := [.int l5]) (rest := []) ⟨hx, hb, hml, hown, hts⟩ hK hN hP hD (zB_blots hc396) (cwV 1 hts gL_isStepped_X9_blots rfl rfl rfl (by decide +kernel) ⟨Nat.le_of_ble_eq_true rfl, Nat.le_of_ble_eq_true rfl⟩) rfl rfl rfl hl.1 rfl (Nat.le_of_ble_eq_true rfl) dL_isStepped_396 ⟨Nat.zero_le _, Nat.zero_le _⟩) hD hS hA (fun u9 H locs hP hD hS => ?_)
          obtain ⟨u12, u13, u14, u15⟩ := u9
          have hP : va_P D vwCl (wXt cI cJ cC cG h9 hn ap u12 ht h0 u13 u14 pc u15 x) H := hP
          have hD : va_D A (wXt cI cJ cC cG h9 hn ap u12 ht h0 u13 u14 pc u15 x) := hD
          refine lv_iload hx hb dL_isStepped_399 (lv_at hl 7 rfl) ?_
          refine lv_icmp_ne (tgt := 454) hx hb dL_isStepped_401 (by decide) (fun cc401 => ?_) (fun cc401 => ?_)
          · have hm := k_in cc401 hm
            refine lv_iconst (v := 0) hx hb dL_isStepped_454 (by decide) ?_
            cases hm
            exact k_end_zE (u12, u13, u14, u15) false hx hb hr hlocks hK hP hD hS dL_isStepped_455
          · have hm := k_ip cc401 hm
            refine lv_aload_n hx hb dL_isStepped_404 rfl (lv_at hl 1 rfl) ?_
            obtain ⟨r16, hc405, hm⟩ := k_bds hm
            refine k_i_sE (k_rV (As := []) (rest := []) ⟨hx, hb, hml, hown, hts⟩ hK hN hP hD (zB_diceLeft hc405) (cwV 0 hts gL_isStepped_X9_diceLeft rfl rfl rfl (by decide +kernel) ⟨Nat.le_of_ble_eq_true rfl, Nat.le_of_ble_eq_true rfl⟩) rfl rfl rfl hl.1 rfl (Nat.le_of_ble_eq_true rfl) dL_isStepped_405 ⟨Nat.zero_le _, Nat.zero_le _⟩) hD hS hA (fun u9 H locs hP hD hS => ?_)
            obtain ⟨u17, u18, u19, u20⟩ := u9
            have hP : va_P D vwCl (wXt cI cJ cC cG h9 hn ap u17 ht h0 u18 u19 pc u20 x) H := hP
            have hD : va_D A (wXt cI cJ cC cG h9 hn ap u17 ht h0 u18 u19 pc u20 x) := hD
            refine lv_iload hx hb dL_isStepped_408 (lv_at hl 5 rfl) ?_
            refine lv_iconst (v := 1) hx hb dL_isStepped_410 (by decide) ?_
            refine lv_isub hx hb dL_isStepped_411 ?_
            refine lv_icmp_ne (tgt := 454) hx hb dL_isStepped_412 (by decide) (fun cc412 => ?_) (fun cc412 => ?_)
            · have hm := k_in cc412 hm
              refine lv_iconst (v := 0) hx hb dL_isStepped_454 (by decide) ?_
              cases hm
              exact k_end_zE (u17, u18, u19, u20) false hx hb hr hlocks hK hP hD hS dL_isStepped_455
            · have hm := k_ip cc412 hm
              refine lv_aload_n hx hb dL_isStepped_415 rfl (lv_at hl 1 rfl) ?_
              obtain ⟨r21, hc416, hm⟩ := k_bds hm
              refine k_i_sE (k_rV (As := []) (rest := []) ⟨hx, hb, hml, hown, hts⟩ hK hN hP hD (zB_reach hc416) (cwV 0 hts gL_isStepped_X9_reach rfl rfl rfl (by decide +kernel) ⟨Nat.le_of_ble_eq_true rfl, Nat.le_of_ble_eq_true rfl⟩) rfl rfl rfl hl.1 rfl (Nat.le_of_ble_eq_true rfl) dL_isStepped_416 ⟨Nat.zero_le _, Nat.zero_le _⟩) hD hS hA (fun u9 H locs hP hD hS => ?_)
              obtain ⟨u22, u23, u24, u25⟩ := u9
              have hP : va_P D vwCl (wXt cI cJ cC cG h9 hn ap u22 ht h0 u23 u24 pc u25 x) H := hP
              have hD : va_D A (wXt cI cJ cC cG h9 hn ap u22 ht h0 u23 u24 pc u25 x) := hD
              refine lv_iload hx hb dL_isStepped_419 (lv_at hl 6 rfl) ?_
              refine lv_iconst (v := 1) hx hb dL_isStepped_421 (by decide) ?_
              refine lv_isub hx hb dL_isStepped_422 ?_
              refine lv_icmp_ne (tgt := 454) hx hb dL_isStepped_423 (by decide) (fun cc423 => ?_) (fun cc423 => ?_)
              · have hm := k_in cc423 hm
                refine lv_iconst (v := 0) hx hb dL_isStepped_454 (by decide) ?_
                cases hm
                exact k_end_zE (u22, u23, u24, u25) false hx hb hr hlocks hK hP hD hS dL_isStepped_455
              · have hm := k_ip cc423 hm
                refine lv_iload hx hb dL_isStepped_426 (lv_at hl 3 rfl) ?_
                refine lv_bipush (v := 16) hx hb dL_isStepped_428 (by decide) ?_
                refine lv_icmp_eq (tgt := 450) hx hb dL_isStepped_430 (by decide) (fun cc430 => ?_) (fun cc430 => ?_)
                · have hm := k_ip cc430 hm
                  refine lv_iconst (v := 1) hx hb dL_isStepped_450 (by decide) ?_
                  refine lv_goto (tgt := 455) hx hb dL_isStepped_451 (by decide) ?_
                  cases hm
                  exact k_end_zE (u22, u23, u24, u25) true hx hb hr hlocks hK hP hD hS dL_isStepped_455
                · have hm := k_in cc430 hm
                  refine lv_iload hx hb dL_isStepped_433 (lv_at hl 4 rfl) ?_
                  refine lv_if_eq (tgt := 450) hx hb dL_isStepped_435 (by decide) (fun cc435 => ?_) (fun cc435 => ?_)
                  · have hm := k_ip cc435 hm
                    refine lv_iconst (v := 1) hx hb dL_isStepped_450 (by decide) ?_
                    refine lv_goto (tgt := 455) hx hb dL_isStepped_451 (by decide) ?_
                    cases hm
                    exact k_end_zE (u22, u23, u24, u25) true hx hb hr hlocks hK hP hD hS dL_isStepped_455
                  · have hm := k_in cc435 hm
                    refine lv_aload_n hx hb dL_isStepped_438 rfl (lv_at hl 1 rfl) ?_
                    refine lv_iload hx hb dL_isStepped_439 (lv_at hl 2 rfl) ?_
                    refine lv_iload hx hb dL_isStepped_441 (lv_at hl 3 rfl) ?_
                    obtain ⟨r26, hc443, hm⟩ := k_bds hm
                    refine k_i_sE (k_rV (As := [.int l5, .int l6]) (rest := []) ⟨hx, hb, hml, hown, hts⟩ hK hN hP hD (zB_piecesOn hc443) (cwV 2 hts gL_isStepped_X9_piecesOn rfl rfl rfl (by decide +kernel) ⟨Nat.le_of_ble_eq_true rfl, Nat.le_of_ble_eq_true rfl⟩) rfl rfl rfl hl.1 rfl (Nat.le_of_ble_eq_true rfl) dL_isStepped_443 ⟨Nat.zero_le _, Nat.zero_le _⟩) hD hS hA (fun u9 H locs hP hD hS => ?_)
                    obtain ⟨u27, u28, u29, u30⟩ := u9
                    have hP : va_P D vwCl (wXt cI cJ cC cG h9 hn ap u27 ht h0 u28 u29 pc u30 x) H := hP
                    have hD : va_D A (wXt cI cJ cC cG h9 hn ap u27 ht h0 u28 u29 pc u30 x) := hD
                    refine lv_iconst (v := 1) hx hb dL_isStepped_446 (by decide) ?_
                    refine lv_icmp_ne (tgt := 454) hx hb dL_isStepped_447 (by decide) (fun cc447 => ?_) (fun cc447 => ?_)
                    · have hm := k_in cc447 hm
                      refine lv_iconst (v := 0) hx hb dL_isStepped_454 (by decide) ?_
                      cases hm
                      exact k_end_zE (u27, u28, u29, u30) false hx hb hr hlocks hK hP hD hS dL_isStepped_455
                    · have hm := k_ip cc447 hm
                      refine lv_iconst (v := 1) hx hb dL_isStepped_450 (by decide) ?_
                      refine lv_goto (tgt := 455) hx hb dL_isStepped_451 (by decide) ?_
                      cases hm
                      exact k_end_zE (u27, u28, u29, u30) true hx hb hr hlocks hK hP hD hS dL_isStepped_455
    · have hm := k_ip cc339 hm
      refine lv_iload hx hb dL_isStepped_342 (lv_at hl 0 rfl) ?_
      refine lv_if_eq (tgt := 378) hx hb dL_isStepped_344 (by decide) (fun cc344 => ?_) (fun cc344 => ?_)
      · have hm := k_ip cc344 hm
        refine lv_iconst (v := 0) hx hb dL_isStepped_378 (by decide) ?_
        cases hm
        exact k_end_zE (u2, u3, u4, u5) false hx hb hr hlocks hK hP hD hS dL_isStepped_379
      · have hm := k_in cc344 hm
        refine lv_aload_n hx hb dL_isStepped_347 rfl (lv_at hl 1 rfl) ?_
        refine lv_iload hx hb dL_isStepped_348 (lv_at hl 2 rfl) ?_
        obtain ⟨r31, hc350, hm⟩ := k_bds hm
        refine k_i_sE (k_rV (As := [.int l5]) (rest := []) ⟨hx, hb, hml, hown, hts⟩ hK hN hP hD (zB_borneOff hc350) (cwV 1 hts gL_isStepped_X9_borneOff rfl rfl rfl (by decide +kernel) ⟨Nat.le_of_ble_eq_true rfl, Nat.le_of_ble_eq_true rfl⟩) rfl rfl rfl hl.1 rfl (Nat.le_of_ble_eq_true rfl) dL_isStepped_350 ⟨Nat.zero_le _, Nat.zero_le _⟩) hD hS hA (fun u9 H locs hP hD hS => ?_)
        obtain ⟨u32, u33, u34, u35⟩ := u9
        have hP : va_P D vwCl (wXt cI cJ cC cG h9 hn ap u32 ht h0 u33 u34 pc u35 x) H := hP
        have hD : va_D A (wXt cI cJ cC cG h9 hn ap u32 ht h0 u33 u34 pc u35 x) := hD
        refine lv_bipush (v := 6) hx hb dL_isStepped_353 (by decide) ?_
        refine lv_icmp_ne (tgt := 378) hx hb dL_isStepped_355 (by decide) (fun cc355 => ?_) (fun cc355 => ?_)
        · have hm := k_in cc355 hm
          refine lv_iconst (v := 0) hx hb dL_isStepped_378 (by decide) ?_
          cases hm
          exact k_end_zE (u32, u33, u34, u35) false hx hb hr hlocks hK hP hD hS dL_isStepped_379
        · have hm := k_ip cc355 hm
          refine lv_aload_n hx hb dL_isStepped_358 rfl (lv_at hl 1 rfl) ?_
          obtain ⟨r36, hc359, hm⟩ := k_bds hm
          refine k_i_sE (k_rV (As := []) (rest := []) ⟨hx, hb, hml, hown, hts⟩ hK hN hP hD (zB_diceLeft hc359) (cwV 0 hts gL_isStepped_X9_diceLeft rfl rfl rfl (by decide +kernel) ⟨Nat.le_of_ble_eq_true rfl, Nat.le_of_ble_eq_true rfl⟩) rfl rfl rfl hl.1 rfl (Nat.le_of_ble_eq_true rfl) dL_isStepped_359 ⟨Nat.zero_le _, Nat.zero_le _⟩) hD hS hA (fun u9 H locs hP hD hS => ?_)
          obtain ⟨u37, u38, u39, u40⟩ := u9
          have hP : va_P D vwCl (wXt cI cJ cC cG h9 hn ap u37 ht h0 u38 u39 pc u40 x) H := hP
          have hD : va_D A (wXt cI cJ cC cG h9 hn ap u37 ht h0 u38 u39 pc u40 x) := hD
          refine lv_if_ne (tgt := 378) hx hb dL_isStepped_362 (by decide) (fun cc362 => ?_) (fun cc362 => ?_)
          · have hm := k_in cc362 hm
            refine lv_iconst (v := 0) hx hb dL_isStepped_378 (by decide) ?_
            cases hm
            exact k_end_zE (u37, u38, u39, u40) false hx hb hr hlocks hK hP hD hS dL_isStepped_379
          · have hm := k_ip cc362 hm
            refine lv_aload_n hx hb dL_isStepped_365 rfl (lv_at hl 1 rfl) ?_
            refine lv_iload hx hb dL_isStepped_366 (lv_at hl 2 rfl) ?_
            obtain ⟨r41, hc368, hm⟩ := k_bds hm
            refine k_i_sE (k_rV (As := [.int l5]) (rest := []) ⟨hx, hb, hml, hown, hts⟩ hK hN hP hD (zB_pips hc368) (cwV 1 hts gL_isStepped_X9_pips rfl rfl rfl (by decide +kernel) ⟨Nat.le_of_ble_eq_true rfl, Nat.le_of_ble_eq_true rfl⟩) rfl rfl rfl hl.1 rfl (Nat.le_of_ble_eq_true rfl) dL_isStepped_368 ⟨Nat.zero_le _, Nat.zero_le _⟩) hD hS hA (fun u9 H locs hP hD hS => ?_)
            obtain ⟨u42, u43, u44, u45⟩ := u9
            have hP : va_P D vwCl (wXt cI cJ cC cG h9 hn ap u42 ht h0 u43 u44 pc u45 x) H := hP
            have hD : va_D A (wXt cI cJ cC cG h9 hn ap u42 ht h0 u43 u44 pc u45 x) := hD
            refine lv_if_ne (tgt := 378) hx hb dL_isStepped_371 (by decide) (fun cc371 => ?_) (fun cc371 => ?_)
            · have hm := k_in cc371 hm
              refine lv_iconst (v := 0) hx hb dL_isStepped_378 (by decide) ?_
              cases hm
              exact k_end_zE (u42, u43, u44, u45) false hx hb hr hlocks hK hP hD hS dL_isStepped_379
            · have hm := k_ip cc371 hm
              refine lv_iconst (v := 1) hx hb dL_isStepped_374 (by decide) ?_
              refine lv_goto (tgt := 379) hx hb dL_isStepped_375 (by decide) ?_
              cases hm
              exact k_end_zE (u42, u43, u44, u45) true hx hb hr hlocks hK hP hD hS dL_isStepped_379
  have J_331 : ∀ (q : Nat → Nat) (pa : Nat → Nat) (pb : Nat → Nat) (jk : JT) (l5 : Int32) (l6 : Int32) (l7 : Bool) (l8 : Int32) (l9 : Int32) (l13 : Int32) (x : XT) (H : Heap) (locs : List Loc), va_P D vwCl (wXt cI cJ cC cG h9 hn ap q ht h0 pa pb pc jk x) H → va_D A (wXt cI cJ cC cG h9 hn ap q ht h0 pa pb pc jk x) → va_S A z.heap H locs → ∀ ls : Array Slot, lv_has ls 16 [(0, .ref h9), (5, .int l5), (6, .int l6), (7, .int (k_b l7)), (8, .int l8), (9, .int l9), (13, .int l13)] → mL_isStepped_331 a1 l5 l6 l7 l8 l9 l13 x = some (r, x') → W p l e rmL_isStepped z m ([.ref h9, .int a1] : List Value).toArray below meth c H locs 0 0 (k_QiE below ([.ref h9, .int a1] : List Value) D (kT cI cJ cC cG) z A (fun u : (Nat → Nat) × (Nat → Nat) × (Nat → Nat) × (JT) => (wXt cI cJ cC cG h9 hn ap (u.1) ht h0 (u.2.1) (u.2.2.1) pc (u.2.2.2) x')) (k_b r)) (F0 m 331 ls []) := by
    intro q pa pb jk l5 l6 l7 l8 l9 l13 x H locs hP hD hS ls hl hm
    unfold mL_isStepped_331 at hm
    refine lv_iconst (v := 0) hx hb dL_isStepped_331 (by decide) ?_
    exact J_332 q pa pb jk false l5 l6 l7 l8 l9 l13 x _ _ hP hD hS _ (lv_sub hl [0, 1, 2, 3, 4, 5, 6] rfl) hm
  have J_323 : ∀ (q : Nat → Nat) (pa : Nat → Nat) (pb : Nat → Nat) (jk : JT) (t0 : Int32) (t1 : Int32) (t2 : Int32) (l5 : Int32) (l6 : Int32) (l7 : Bool) (l8 : Int32) (l9 : Int32) (l13 : Int32) (x : XT) (H : Heap) (locs : List Loc), va_P D vwCl (wXt cI cJ cC cG h9 hn ap q ht h0 pa pb pc jk x) H → va_D A (wXt cI cJ cC cG h9 hn ap q ht h0 pa pb pc jk x) → va_S A z.heap H locs → ∀ ls : Array Slot, lv_has ls 16 [(0, .ref h9), (5, .int l5), (6, .int l6), (7, .int (k_b l7)), (8, .int l8), (9, .int l9), (13, .int l13)] → mL_isStepped_323 a1 t0 t1 t2 l5 l6 l7 l8 l9 l13 x = some (r, x') → W p l e rmL_isStepped z m ([.ref h9, .int a1] : List Value).toArray below meth c H locs 0 0 (k_QiE below ([.ref h9, .int a1] : List Value) D (kT cI cJ cC cG) z A (fun u : (Nat → Nat) × (Nat → Nat) × (Nat → Nat) × (JT) => (wXt cI cJ cC cG h9 hn ap (u.1) ht h0 (u.2.1) (u.2.2.1) pc (u.2.2.2) x')) (k_b r)) (F0 m 323 ls [.int t0, .int t1, .int t2]) := by
    intro q pa pb jk t0 t1 t2 l5 l6 l7 l8 l9 l13 x H locs hP hD hS ls hl hm
    unfold mL_isStepped_323 at hm
    refine lv_isub hx hb dL_isStepped_323 ?_
    refine lv_icmp_ne (tgt := 331) hx hb dL_isStepped_324 (by decide) (fun cc324 => ?_) (fun cc324 => ?_)
    · have hm := k_in cc324 hm
      exact J_331 q pa pb jk l5 l6 l7 l8 l9 l13 x _ _ hP hD hS _ (lv_sub hl [0, 1, 2, 3, 4, 5, 6] rfl) hm
    · have hm := k_ip cc324 hm
      refine lv_iconst (v := 1) hx hb dL_isStepped_327 (by decide) ?_
      refine lv_goto (tgt := 332) hx hb dL_isStepped_328 (by decide) ?_
      exact J_332 q pa pb jk true l5 l6 l7 l8 l9 l13 x _ _ hP hD hS _ (lv_sub hl [0, 1, 2, 3, 4, 5, 6] rfl) hm
  have J_293 : ∀ (q : Nat → Nat) (pa : Nat → Nat) (pb : Nat → Nat) (jk : JT) (t0 : Bool) (t1 : Int32) (t2 : Int32) (l3 : Int32) (l4 : Int32) (l5 : Int32) (l6 : Int32) (l7 : Bool) (l8 : Int32) (l9 : Int32) (l13 : Int32) (l14 : Int32) (x : XT) (H : Heap) (locs : List Loc), va_P D vwCl (wXt cI cJ cC cG h9 hn ap q ht h0 pa pb pc jk x) H → va_D A (wXt cI cJ cC cG h9 hn ap q ht h0 pa pb pc jk x) → va_S A z.heap H locs → ∀ ls : Array Slot, lv_has ls 16 [(0, .ref h9), (3, .int l3), (4, .int l4), (5, .int l5), (6, .int l6), (7, .int (k_b l7)), (8, .int l8), (9, .int l9), (13, .int l13), (14, .int l14)] → mL_isStepped_293 a1 t0 t1 t2 l3 l4 l5 l6 l7 l8 l9 l13 l14 x = some (r, x') → W p l e rmL_isStepped z m ([.ref h9, .int a1] : List Value).toArray below meth c H locs 0 0 (k_QiE below ([.ref h9, .int a1] : List Value) D (kT cI cJ cC cG) z A (fun u : (Nat → Nat) × (Nat → Nat) × (Nat → Nat) × (JT) => (wXt cI cJ cC cG h9 hn ap (u.1) ht h0 (u.2.1) (u.2.2.1) pc (u.2.2.2) x')) (k_b r)) (F0 m 293 ls [.int (k_b t0), .int t1, .int t2]) := by
    intro q pa pb jk t0 t1 t2 l3 l4 l5 l6 l7 l8 l9 l13 l14 x H locs hP hD hS ls hl hm
    unfold mL_isStepped_293 at hm
    refine lv_iadd hx hb dL_isStepped_293 ?_
    refine lv_icmp_ne (tgt := 331) hx hb dL_isStepped_294 (by decide) (fun cc294 => ?_) (fun cc294 => ?_)
    · have hm := k_in cc294 hm
      exact J_331 q pa pb jk l5 l6 l7 l8 l9 l13 x _ _ hP hD hS _ (lv_sub hl [0, 3, 4, 5, 6, 7, 8] rfl) hm
    · have hm := k_ip cc294 hm
      refine lv_aload_n hx hb dL_isStepped_297 rfl (lv_at hl 0 rfl) ?_
      refine lv_iload hx hb dL_isStepped_298 (lv_at hl 3 rfl) ?_
      obtain ⟨r46, hc300, hm⟩ := k_bds hm
      refine k_i_sE (k_rV (As := [.int l5]) (rest := []) ⟨hx, hb, hml, hown, hts⟩ hK hN hP hD (zB_pips hc300) (cwV 1 hts gL_isStepped_X9_pips rfl rfl rfl (by decide +kernel) ⟨Nat.le_of_ble_eq_true rfl, Nat.le_of_ble_eq_true rfl⟩) rfl rfl rfl hl.1 rfl (Nat.le_of_ble_eq_true rfl) dL_isStepped_300 ⟨Nat.zero_le _, Nat.zero_le _⟩) hD hS hA (fun u9 H locs hP hD hS => ?_)
      obtain ⟨u47, u48, u49, u50⟩ := u9
      have hP : va_P D vwCl (wXt cI cJ cC cG h9 hn ap u47 ht h0 u48 u49 pc u50 x) H := hP
      have hD : va_D A (wXt cI cJ cC cG h9 hn ap u47 ht h0 u48 u49 pc u50 x) := hD
      refine lv_iload hx hb dL_isStepped_303 (lv_at hl 9 rfl) ?_
      refine lv_iload hx hb dL_isStepped_305 (lv_at hl 4 rfl) ?_
      refine lv_bipush (v := 16) hx hb dL_isStepped_307 (by decide) ?_
      refine lv_icmp_ne (tgt := 321) hx hb dL_isStepped_309 (by decide) (fun cc309 => ?_) (fun cc309 => ?_)
      · have hm := k_in cc309 hm
        refine lv_iload hx hb dL_isStepped_321 (lv_at hl 2 rfl) ?_
        exact J_323 u47 u48 u49 u50 l4 l14 r46 l5 l6 l7 l8 l9 l13 x _ _ hP hD hS _ (lv_sub hl [0, 3, 4, 5, 6, 7, 8] rfl) hm
      · have hm := k_ip cc309 hm
        refine lv_iload hx hb dL_isStepped_312 (lv_at hl 3 rfl) ?_
        refine lv_iload_n hx hb dL_isStepped_314 rfl (lv_at hl 1 rfl) ?_
        obtain ⟨r51, hc315, hm⟩ := k_bds hm
        refine k_i_0 (k_rS (As := [.int l5, .int l3]) (rest := [.int l14, .int r46]) ⟨hx, hb, hml, hown, hts⟩ hK hN k_P0 (k_D0 (A := A)) (zL_way hc315) (va_cwS 2 hts gL_isStepped_L_way rfl rfl rfl (by decide +kernel) ⟨Nat.le_of_ble_eq_true rfl, Nat.le_of_ble_eq_true rfl⟩) rfl hl.1 rfl (Nat.le_of_ble_eq_true rfl) dL_isStepped_315 ⟨Nat.zero_le _, Nat.zero_le _⟩) hP hS hA (fun H locs hP hS => ?_)
        refine lv_goto (tgt := 323) hx hb dL_isStepped_318 (by decide) ?_
        exact J_323 u47 u48 u49 u50 r51 l14 r46 l5 l6 l7 l8 l9 l13 x _ _ hP hD hS _ (lv_sub hl [0, 3, 4, 5, 6, 7, 8] rfl) hm
  have J_269 : ∀ (q : Nat → Nat) (pa : Nat → Nat) (pb : Nat → Nat) (jk : JT) (t0 : Bool) (t1 : Int32) (t2 : Int32) (l3 : Int32) (l4 : Int32) (l5 : Int32) (l6 : Int32) (l7 : Bool) (l8 : Int32) (l9 : Int32) (l12 : Int32) (l13 : Int32) (l14 : Int32) (x : XT) (H : Heap) (locs : List Loc), va_P D vwCl (wXt cI cJ cC cG h9 hn ap q ht h0 pa pb pc jk x) H → va_D A (wXt cI cJ cC cG h9 hn ap q ht h0 pa pb pc jk x) → va_S A z.heap H locs → ∀ ls : Array Slot, lv_has ls 16 [(0, .ref h9), (3, .int l3), (4, .int l4), (5, .int l5), (6, .int l6), (7, .int (k_b l7)), (8, .int l8), (9, .int l9), (12, .int l12), (13, .int l13), (14, .int l14)] → mL_isStepped_269 a1 t0 t1 t2 l3 l4 l5 l6 l7 l8 l9 l12 l13 l14 x = some (r, x') → W p l e rmL_isStepped z m ([.ref h9, .int a1] : List Value).toArray below meth c H locs 0 0 (k_QiE below ([.ref h9, .int a1] : List Value) D (kT cI cJ cC cG) z A (fun u : (Nat → Nat) × (Nat → Nat) × (Nat → Nat) × (JT) => (wXt cI cJ cC cG h9 hn ap (u.1) ht h0 (u.2.1) (u.2.2.1) pc (u.2.2.2) x')) (k_b r)) (F0 m 269 ls [.int (k_b t0), .int t1, .int t2]) := by
    intro q pa pb jk t0 t1 t2 l3 l4 l5 l6 l7 l8 l9 l12 l13 l14 x H locs hP hD hS ls hl hm
    unfold mL_isStepped_269 at hm
    refine lv_iadd hx hb dL_isStepped_269 ?_
    refine lv_icmp_ne (tgt := 331) hx hb dL_isStepped_270 (by decide) (fun cc270 => ?_) (fun cc270 => ?_)
    · have hm := k_in cc270 hm
      exact J_331 q pa pb jk l5 l6 l7 l8 l9 l13 x _ _ hP hD hS _ (lv_sub hl [0, 3, 4, 5, 6, 7, 9] rfl) hm
    · have hm := k_ip cc270 hm
      refine lv_aload_n hx hb dL_isStepped_273 rfl (lv_at hl 0 rfl) ?_
      refine lv_iload hx hb dL_isStepped_274 (lv_at hl 3 rfl) ?_
      obtain ⟨r52, hc276, hm⟩ := k_bds hm
      refine k_i_sE (k_rV (As := [.int l5]) (rest := []) ⟨hx, hb, hml, hown, hts⟩ hK hN hP hD (zB_borneOff hc276) (cwV 1 hts gL_isStepped_X9_borneOff rfl rfl rfl (by decide +kernel) ⟨Nat.le_of_ble_eq_true rfl, Nat.le_of_ble_eq_true rfl⟩) rfl rfl rfl hl.1 rfl (Nat.le_of_ble_eq_true rfl) dL_isStepped_276 ⟨Nat.zero_le _, Nat.zero_le _⟩) hD hS hA (fun u9 H locs hP hD hS => ?_)
      obtain ⟨u53, u54, u55, u56⟩ := u9
      have hP : va_P D vwCl (wXt cI cJ cC cG h9 hn ap u53 ht h0 u54 u55 pc u56 x) H := hP
      have hD : va_D A (wXt cI cJ cC cG h9 hn ap u53 ht h0 u54 u55 pc u56 x) := hD
      refine lv_iload hx hb dL_isStepped_279 (lv_at hl 8 rfl) ?_
      refine lv_iload hx hb dL_isStepped_281 (lv_at hl 4 rfl) ?_
      refine lv_bipush (v := 16) hx hb dL_isStepped_283 (by decide) ?_
      refine lv_icmp_ne (tgt := 292) hx hb dL_isStepped_285 (by decide) (fun cc285 => ?_) (fun cc285 => ?_)
      · have hm := k_in cc285 hm
        refine lv_iconst (v := 0) hx hb dL_isStepped_292 (by decide) ?_
        exact J_293 u53 u54 u55 u56 false l12 r52 l3 l4 l5 l6 l7 l8 l9 l13 l14 x _ _ hP hD hS _ (lv_sub hl [0, 1, 2, 3, 4, 5, 6, 7, 9, 10] rfl) hm
      · have hm := k_ip cc285 hm
        refine lv_iconst (v := 1) hx hb dL_isStepped_288 (by decide) ?_
        refine lv_goto (tgt := 293) hx hb dL_isStepped_289 (by decide) ?_
        exact J_293 u53 u54 u55 u56 true l12 r52 l3 l4 l5 l6 l7 l8 l9 l13 l14 x _ _ hP hD hS _ (lv_sub hl [0, 1, 2, 3, 4, 5, 6, 7, 9, 10] rfl) hm
  have J_245 : ∀ (q : Nat → Nat) (pa : Nat → Nat) (pb : Nat → Nat) (jk : JT) (t0 : Bool) (t1 : Int32) (t2 : Int32) (l3 : Int32) (l4 : Int32) (l5 : Int32) (l6 : Int32) (l7 : Bool) (l8 : Int32) (l9 : Int32) (l11 : Int32) (l12 : Int32) (l13 : Int32) (l14 : Int32) (x : XT) (H : Heap) (locs : List Loc), va_P D vwCl (wXt cI cJ cC cG h9 hn ap q ht h0 pa pb pc jk x) H → va_D A (wXt cI cJ cC cG h9 hn ap q ht h0 pa pb pc jk x) → va_S A z.heap H locs → ∀ ls : Array Slot, lv_has ls 16 [(0, .ref h9), (3, .int l3), (4, .int l4), (5, .int l5), (6, .int l6), (7, .int (k_b l7)), (8, .int l8), (9, .int l9), (11, .int l11), (12, .int l12), (13, .int l13), (14, .int l14)] → mL_isStepped_245 a1 t0 t1 t2 l3 l4 l5 l6 l7 l8 l9 l11 l12 l13 l14 x = some (r, x') → W p l e rmL_isStepped z m ([.ref h9, .int a1] : List Value).toArray below meth c H locs 0 0 (k_QiE below ([.ref h9, .int a1] : List Value) D (kT cI cJ cC cG) z A (fun u : (Nat → Nat) × (Nat → Nat) × (Nat → Nat) × (JT) => (wXt cI cJ cC cG h9 hn ap (u.1) ht h0 (u.2.1) (u.2.2.1) pc (u.2.2.2) x')) (k_b r)) (F0 m 245 ls [.int (k_b t0), .int t1, .int t2]) := by
    intro q pa pb jk t0 t1 t2 l3 l4 l5 l6 l7 l8 l9 l11 l12 l13 l14 x H locs hP hD hS ls hl hm
    unfold mL_isStepped_245 at hm
    refine lv_iadd hx hb dL_isStepped_245 ?_
    refine lv_icmp_ne (tgt := 331) hx hb dL_isStepped_246 (by decide) (fun cc246 => ?_) (fun cc246 => ?_)
    · have hm := k_in cc246 hm
      exact J_331 q pa pb jk l5 l6 l7 l8 l9 l13 x _ _ hP hD hS _ (lv_sub hl [0, 3, 4, 5, 6, 7, 10] rfl) hm
    · have hm := k_ip cc246 hm
      refine lv_aload_n hx hb dL_isStepped_249 rfl (lv_at hl 0 rfl) ?_
      refine lv_iconst (v := 1) hx hb dL_isStepped_250 (by decide) ?_
      refine lv_iload hx hb dL_isStepped_251 (lv_at hl 3 rfl) ?_
      refine lv_isub hx hb dL_isStepped_253 ?_
      obtain ⟨r57, hc254, hm⟩ := k_bds hm
      refine k_i_sE (k_rV (As := [.int (1 - l5)]) (rest := []) ⟨hx, hb, hml, hown, hts⟩ hK hN hP hD (zB_onBar hc254) (cwV 1 hts gL_isStepped_X9_onBar rfl rfl rfl (by decide +kernel) ⟨Nat.le_of_ble_eq_true rfl, Nat.le_of_ble_eq_true rfl⟩) rfl rfl rfl hl.1 rfl (Nat.le_of_ble_eq_true rfl) dL_isStepped_254 ⟨Nat.zero_le _, Nat.zero_le _⟩) hD hS hA (fun u9 H locs hP hD hS => ?_)
      obtain ⟨u58, u59, u60, u61⟩ := u9
      have hP : va_P D vwCl (wXt cI cJ cC cG h9 hn ap u58 ht h0 u59 u60 pc u61 x) H := hP
      have hD : va_D A (wXt cI cJ cC cG h9 hn ap u58 ht h0 u59 u60 pc u61 x) := hD
      refine lv_iload hx hb dL_isStepped_257 (lv_at hl 8 rfl) ?_
      refine lv_iload hx hb dL_isStepped_259 (lv_at hl 5 rfl) ?_
      refine lv_if_eq (tgt := 268) hx hb dL_isStepped_261 (by decide) (fun cc261 => ?_) (fun cc261 => ?_)
      · have hm := k_ip cc261 hm
        refine lv_iconst (v := 0) hx hb dL_isStepped_268 (by decide) ?_
        exact J_269 u58 u59 u60 u61 false l11 r57 l3 l4 l5 l6 l7 l8 l9 l12 l13 l14 x _ _ hP hD hS _ (lv_sub hl [0, 1, 2, 3, 4, 5, 6, 7, 9, 10, 11] rfl) hm
      · have hm := k_in cc261 hm
        refine lv_iconst (v := 1) hx hb dL_isStepped_264 (by decide) ?_
        refine lv_goto (tgt := 269) hx hb dL_isStepped_265 (by decide) ?_
        exact J_269 u58 u59 u60 u61 true l11 r57 l3 l4 l5 l6 l7 l8 l9 l12 l13 l14 x _ _ hP hD hS _ (lv_sub hl [0, 1, 2, 3, 4, 5, 6, 7, 9, 10, 11] rfl) hm
  have J_206 : ∀ (q : Nat → Nat) (pa : Nat → Nat) (pb : Nat → Nat) (jk : JT) (t0 : Bool) (l3 : Int32) (l4 : Int32) (l5 : Int32) (l6 : Int32) (l7 : Bool) (l8 : Int32) (l9 : Int32) (l10 : Int32) (l11 : Int32) (l12 : Int32) (l13 : Int32) (l14 : Int32) (x : XT) (H : Heap) (locs : List Loc), va_P D vwCl (wXt cI cJ cC cG h9 hn ap q ht h0 pa pb pc jk x) H → va_D A (wXt cI cJ cC cG h9 hn ap q ht h0 pa pb pc jk x) → va_S A z.heap H locs → ∀ ls : Array Slot, lv_has ls 16 [(0, .ref h9), (3, .int l3), (4, .int l4), (5, .int l5), (6, .int l6), (7, .int (k_b l7)), (8, .int l8), (9, .int l9), (10, .int l10), (11, .int l11), (12, .int l12), (13, .int l13), (14, .int l14)] → mL_isStepped_206 a1 t0 l3 l4 l5 l6 l7 l8 l9 l10 l11 l12 l13 l14 x = some (r, x') → W p l e rmL_isStepped z m ([.ref h9, .int a1] : List Value).toArray below meth c H locs 0 0 (k_QiE below ([.ref h9, .int a1] : List Value) D (kT cI cJ cC cG) z A (fun u : (Nat → Nat) × (Nat → Nat) × (Nat → Nat) × (JT) => (wXt cI cJ cC cG h9 hn ap (u.1) ht h0 (u.2.1) (u.2.2.1) pc (u.2.2.2) x')) (k_b r)) (F0 m 206 ls [.int (k_b t0)]) := by
    intro q pa pb jk t0 l3 l4 l5 l6 l7 l8 l9 l10 l11 l12 l13 l14 x H locs hP hD hS ls hl hm
    unfold mL_isStepped_206 at hm
    refine lv_istore (lv' := [(15, .int (k_b t0)), (0, .ref h9), (3, .int l3), (4, .int l4), (5, .int l5), (6, .int l6), (7, .int (k_b l7)), (8, .int l8), (9, .int l9), (10, .int l10), (11, .int l11), (12, .int l12), (13, .int l13), (14, .int l14)]) hx hb dL_isStepped_206 hl (by decide) rfl (fun ls hl => ?_)
    refine lv_iload hx hb dL_isStepped_208 (lv_at hl 0 rfl) ?_
    refine lv_if_eq (tgt := 331) hx hb dL_isStepped_210 (by decide) (fun cc210 => ?_) (fun cc210 => ?_)
    · have hm := k_ip cc210 hm
      exact J_331 q pa pb jk l5 l6 l7 l8 l9 l13 x _ _ hP hD hS _ (lv_sub hl [1, 4, 5, 6, 7, 8, 12] rfl) hm
    · have hm := k_in cc210 hm
      refine lv_aload_n hx hb dL_isStepped_213 rfl (lv_at hl 1 rfl) ?_
      refine lv_iload_n hx hb dL_isStepped_214 rfl (lv_at hl 2 rfl) ?_
      refine lv_iload hx hb dL_isStepped_215 (lv_at hl 3 rfl) ?_
      obtain ⟨r62, w63, hc217, hm⟩ := k_bd2s hm
      refine k_i_sE (k_rV (As := [.int l3, .int l4]) (rest := []) ⟨hx, hb, hml, hown, hts⟩ hK hN hP hD (zB_step hc217) (cwV 2 hts gL_isStepped_X9_step rfl rfl rfl (by decide +kernel) ⟨Nat.le_of_ble_eq_true rfl, Nat.le_of_ble_eq_true rfl⟩) rfl rfl rfl hl.1 rfl (Nat.le_of_ble_eq_true rfl) dL_isStepped_217 ⟨Nat.zero_le _, Nat.zero_le _⟩) hD hS hA (fun u9 H locs hP hD hS => ?_)
      obtain ⟨u64, u65, u66, u67⟩ := u9
      have hP : va_P D vwCl (wXt cI cJ cC cG h9 hn ap u64 ht h0 u65 u66 pc u67 w63) H := hP
      have hD : va_D A (wXt cI cJ cC cG h9 hn ap u64 ht h0 u65 u66 pc u67 w63) := hD
      refine lv_iload hx hb dL_isStepped_220 (lv_at hl 6 rfl) ?_
      refine lv_icmp_ne (tgt := 331) hx hb dL_isStepped_222 (by decide) (fun cc222 => ?_) (fun cc222 => ?_)
      · have hm := k_in cc222 hm
        exact J_331 u64 u65 u66 u67 l5 l6 l7 l8 l9 l13 w63 _ _ hP hD hS _ (lv_sub hl [1, 4, 5, 6, 7, 8, 12] rfl) hm
      · have hm := k_ip cc222 hm
        refine lv_aload_n hx hb dL_isStepped_225 rfl (lv_at hl 1 rfl) ?_
        refine lv_iconst (v := 1) hx hb dL_isStepped_226 (by decide) ?_
        refine lv_iload hx hb dL_isStepped_227 (lv_at hl 4 rfl) ?_
        refine lv_isub hx hb dL_isStepped_229 ?_
        obtain ⟨r68, hc230, hm⟩ := k_bds hm
        refine k_i_sE (k_rV (As := [.int (1 - l5)]) (rest := []) ⟨hx, hb, hml, hown, hts⟩ hK hN hP hD (zB_hits hc230) (cwV 1 hts gL_isStepped_X9_hits rfl rfl rfl (by decide +kernel) ⟨Nat.le_of_ble_eq_true rfl, Nat.le_of_ble_eq_true rfl⟩) rfl rfl rfl hl.1 rfl (Nat.le_of_ble_eq_true rfl) dL_isStepped_230 ⟨Nat.zero_le _, Nat.zero_le _⟩) hD hS hA (fun u9 H locs hP hD hS => ?_)
        obtain ⟨u69, u70, u71, u72⟩ := u9
        have hP : va_P D vwCl (wXt cI cJ cC cG h9 hn ap u69 ht h0 u70 u71 pc u72 w63) H := hP
        have hD : va_D A (wXt cI cJ cC cG h9 hn ap u69 ht h0 u70 u71 pc u72 w63) := hD
        refine lv_iload hx hb dL_isStepped_233 (lv_at hl 9 rfl) ?_
        refine lv_iload hx hb dL_isStepped_235 (lv_at hl 6 rfl) ?_
        refine lv_if_eq (tgt := 244) hx hb dL_isStepped_237 (by decide) (fun cc237 => ?_) (fun cc237 => ?_)
        · have hm := k_ip cc237 hm
          refine lv_iconst (v := 0) hx hb dL_isStepped_244 (by decide) ?_
          exact J_245 u69 u70 u71 u72 false l10 r68 l3 l4 l5 l6 l7 l8 l9 l11 l12 l13 l14 w63 _ _ hP hD hS _ (lv_sub hl [1, 2, 3, 4, 5, 6, 7, 8, 10, 11, 12, 13] rfl) hm
        · have hm := k_in cc237 hm
          refine lv_iconst (v := 1) hx hb dL_isStepped_240 (by decide) ?_
          refine lv_goto (tgt := 245) hx hb dL_isStepped_241 (by decide) ?_
          exact J_245 u69 u70 u71 u72 true l10 r68 l3 l4 l5 l6 l7 l8 l9 l11 l12 l13 l14 w63 _ _ hP hD hS _ (lv_sub hl [1, 2, 3, 4, 5, 6, 7, 8, 10, 11, 12, 13] rfl) hm
  have J_205 : ∀ (q : Nat → Nat) (pa : Nat → Nat) (pb : Nat → Nat) (jk : JT) (l3 : Int32) (l4 : Int32) (l5 : Int32) (l6 : Int32) (l7 : Bool) (l8 : Int32) (l9 : Int32) (l10 : Int32) (l11 : Int32) (l12 : Int32) (l13 : Int32) (l14 : Int32) (x : XT) (H : Heap) (locs : List Loc), va_P D vwCl (wXt cI cJ cC cG h9 hn ap q ht h0 pa pb pc jk x) H → va_D A (wXt cI cJ cC cG h9 hn ap q ht h0 pa pb pc jk x) → va_S A z.heap H locs → ∀ ls : Array Slot, lv_has ls 16 [(0, .ref h9), (3, .int l3), (4, .int l4), (5, .int l5), (6, .int l6), (7, .int (k_b l7)), (8, .int l8), (9, .int l9), (10, .int l10), (11, .int l11), (12, .int l12), (13, .int l13), (14, .int l14)] → mL_isStepped_205 a1 l3 l4 l5 l6 l7 l8 l9 l10 l11 l12 l13 l14 x = some (r, x') → W p l e rmL_isStepped z m ([.ref h9, .int a1] : List Value).toArray below meth c H locs 0 0 (k_QiE below ([.ref h9, .int a1] : List Value) D (kT cI cJ cC cG) z A (fun u : (Nat → Nat) × (Nat → Nat) × (Nat → Nat) × (JT) => (wXt cI cJ cC cG h9 hn ap (u.1) ht h0 (u.2.1) (u.2.2.1) pc (u.2.2.2) x')) (k_b r)) (F0 m 205 ls []) := by
    intro q pa pb jk l3 l4 l5 l6 l7 l8 l9 l10 l11 l12 l13 l14 x H locs hP hD hS ls hl hm
    unfold mL_isStepped_205 at hm
    refine lv_iconst (v := 0) hx hb dL_isStepped_205 (by decide) ?_
    exact J_206 q pa pb jk false l3 l4 l5 l6 l7 l8 l9 l10 l11 l12 l13 l14 x _ _ hP hD hS _ (lv_sub hl [0, 1, 2, 3, 4, 5, 6, 7, 8, 9, 10, 11, 12] rfl) hm
  have J_175 : ∀ (q : Nat → Nat) (pa : Nat → Nat) (pb : Nat → Nat) (jk : JT) (l3 : Int32) (l4 : Int32) (l5 : Int32) (l6 : Int32) (l7 : Bool) (l8 : Int32) (l9 : Int32) (l10 : Int32) (l11 : Int32) (l12 : Int32) (l13 : Int32) (l14 : Int32) (x : XT) (H : Heap) (locs : List Loc), va_P D vwCl (wXt cI cJ cC cG h9 hn ap q ht h0 pa pb pc jk x) H → va_D A (wXt cI cJ cC cG h9 hn ap q ht h0 pa pb pc jk x) → va_S A z.heap H locs → ∀ ls : Array Slot, lv_has ls 16 [(0, .ref h9), (3, .int l3), (4, .int l4), (5, .int l5), (6, .int l6), (7, .int (k_b l7)), (8, .int l8), (9, .int l9), (10, .int l10), (11, .int l11), (12, .int l12), (13, .int l13), (14, .int l14)] → mL_isStepped_175 a1 l3 l4 l5 l6 l7 l8 l9 l10 l11 l12 l13 l14 x = some (r, x') → W p l e rmL_isStepped z m ([.ref h9, .int a1] : List Value).toArray below meth c H locs 0 0 (k_QiE below ([.ref h9, .int a1] : List Value) D (kT cI cJ cC cG) z A (fun u : (Nat → Nat) × (Nat → Nat) × (Nat → Nat) × (JT) => (wXt cI cJ cC cG h9 hn ap (u.1) ht h0 (u.2.1) (u.2.2.1) pc (u.2.2.2) x')) (k_b r)) (F0 m 175 ls []) := by
    intro q pa pb jk l3 l4 l5 l6 l7 l8 l9 l10 l11 l12 l13 l14 x H locs hP hD hS ls hl hm
    unfold mL_isStepped_175 at hm
    refine lv_iload hx hb dL_isStepped_175 (lv_at hl 7 rfl) ?_
    refine lv_if_le (tgt := 205) hx hb dL_isStepped_177 (by decide) (fun cc177 => ?_) (fun cc177 => ?_)
    · have hm := k_ip cc177 hm
      exact J_205 q pa pb jk l3 l4 l5 l6 l7 l8 l9 l10 l11 l12 l13 l14 x _ _ hP hD hS _ (lv_sub hl [0, 1, 2, 3, 4, 5, 6, 7, 8, 9, 10, 11, 12] rfl) hm
    · have hm := k_in cc177 hm
      refine lv_iload hx hb dL_isStepped_180 (lv_at hl 4 rfl) ?_
      refine lv_bipush (v := 16) hx hb dL_isStepped_182 (by decide) ?_
      refine lv_icmp_eq (tgt := 201) hx hb dL_isStepped_184 (by decide) (fun cc184 => ?_) (fun cc184 => ?_)
      · have hm := k_ip cc184 hm
        refine lv_iconst (v := 1) hx hb dL_isStepped_201 (by decide) ?_
        refine lv_goto (tgt := 206) hx hb dL_isStepped_202 (by decide) ?_
        exact J_206 q pa pb jk true l3 l4 l5 l6 l7 l8 l9 l10 l11 l12 l13 l14 x _ _ hP hD hS _ (lv_sub hl [0, 1, 2, 3, 4, 5, 6, 7, 8, 9, 10, 11, 12] rfl) hm
      · have hm := k_in cc184 hm
        refine lv_aload_n hx hb dL_isStepped_187 rfl (lv_at hl 0 rfl) ?_
        refine lv_iconst (v := 1) hx hb dL_isStepped_188 (by decide) ?_
        refine lv_iload hx hb dL_isStepped_189 (lv_at hl 3 rfl) ?_
        refine lv_isub hx hb dL_isStepped_191 ?_
        refine lv_iload hx hb dL_isStepped_192 (lv_at hl 4 rfl) ?_
        obtain ⟨r73, hc194, hm⟩ := k_bds hm
        refine k_i_sE (k_rV (As := [.int (1 - l5), .int l6]) (rest := []) ⟨hx, hb, hml, hown, hts⟩ hK hN hP hD (zB_piecesOn hc194) (cwV 2 hts gL_isStepped_X9_piecesOn rfl rfl rfl (by decide +kernel) ⟨Nat.le_of_ble_eq_true rfl, Nat.le_of_ble_eq_true rfl⟩) rfl rfl rfl hl.1 rfl (Nat.le_of_ble_eq_true rfl) dL_isStepped_194 ⟨Nat.zero_le _, Nat.zero_le _⟩) hD hS hA (fun u9 H locs hP hD hS => ?_)
        obtain ⟨u74, u75, u76, u77⟩ := u9
        have hP : va_P D vwCl (wXt cI cJ cC cG h9 hn ap u74 ht h0 u75 u76 pc u77 x) H := hP
        have hD : va_D A (wXt cI cJ cC cG h9 hn ap u74 ht h0 u75 u76 pc u77 x) := hD
        refine lv_iconst (v := 2) hx hb dL_isStepped_197 (by decide) ?_
        refine lv_icmp_ge (tgt := 205) hx hb dL_isStepped_198 (by decide) (fun cc198 => ?_) (fun cc198 => ?_)
        · have hm := k_ip cc198 hm
          exact J_205 u74 u75 u76 u77 l3 l4 l5 l6 l7 l8 l9 l10 l11 l12 l13 l14 x _ _ hP hD hS _ (lv_sub hl [0, 1, 2, 3, 4, 5, 6, 7, 8, 9, 10, 11, 12] rfl) hm
        · have hm := k_in cc198 hm
          refine lv_iconst (v := 1) hx hb dL_isStepped_201 (by decide) ?_
          refine lv_goto (tgt := 206) hx hb dL_isStepped_202 (by decide) ?_
          exact J_206 u74 u75 u76 u77 true l3 l4 l5 l6 l7 l8 l9 l10 l11 l12 l13 l14 x _ _ hP hD hS _ (lv_sub hl [0, 1, 2, 3, 4, 5, 6, 7, 8, 9, 10, 11, 12] rfl) hm
  have J_93 : ∀ (q : Nat → Nat) (pa : Nat → Nat) (pb : Nat → Nat) (jk : JT) (t0 : Bool) (l3 : Int32) (l4 : Int32) (l5 : Int32) (l6 : Int32) (x : XT) (H : Heap) (locs : List Loc), va_P D vwCl (wXt cI cJ cC cG h9 hn ap q ht h0 pa pb pc jk x) H → va_D A (wXt cI cJ cC cG h9 hn ap q ht h0 pa pb pc jk x) → va_S A z.heap H locs → ∀ ls : Array Slot, lv_has ls 16 [(0, .ref h9), (3, .int l3), (4, .int l4), (5, .int l5), (6, .int l6)] → mL_isStepped_93 a1 t0 l3 l4 l5 l6 x = some (r, x') → W p l e rmL_isStepped z m ([.ref h9, .int a1] : List Value).toArray below meth c H locs 0 0 (k_QiE below ([.ref h9, .int a1] : List Value) D (kT cI cJ cC cG) z A (fun u : (Nat → Nat) × (Nat → Nat) × (Nat → Nat) × (JT) => (wXt cI cJ cC cG h9 hn ap (u.1) ht h0 (u.2.1) (u.2.2.1) pc (u.2.2.2) x')) (k_b r)) (F0 m 93 ls [.int (k_b t0)]) := by
    intro q pa pb jk t0 l3 l4 l5 l6 x H locs hP hD hS ls hl hm
    unfold mL_isStepped_93 at hm
    refine lv_istore (lv' := [(7, .int (k_b t0)), (0, .ref h9), (3, .int l3), (4, .int l4), (5, .int l5), (6, .int l6)]) hx hb dL_isStepped_93 hl (by decide) rfl (fun ls hl => ?_)
    refine lv_aload_n hx hb dL_isStepped_95 rfl (lv_at hl 1 rfl) ?_
    obtain ⟨r78, hc96, hm⟩ := k_bds hm
    refine k_i_sE (k_rV (As := []) (rest := []) ⟨hx, hb, hml, hown, hts⟩ hK hN hP hD (zB_diceLeft hc96) (cwV 0 hts gL_isStepped_X9_diceLeft rfl rfl rfl (by decide +kernel) ⟨Nat.le_of_ble_eq_true rfl, Nat.le_of_ble_eq_true rfl⟩) rfl rfl rfl hl.1 rfl (Nat.le_of_ble_eq_true rfl) dL_isStepped_96 ⟨Nat.zero_le _, Nat.zero_le _⟩) hD hS hA (fun u9 H locs hP hD hS => ?_)
    obtain ⟨u79, u80, u81, u82⟩ := u9
    have hP : va_P D vwCl (wXt cI cJ cC cG h9 hn ap u79 ht h0 u80 u81 pc u82 x) H := hP
    have hD : va_D A (wXt cI cJ cC cG h9 hn ap u79 ht h0 u80 u81 pc u82 x) := hD
    refine lv_istore (lv' := [(8, .int r78), (7, .int (k_b t0)), (0, .ref h9), (3, .int l3), (4, .int l4), (5, .int l5), (6, .int l6)]) hx hb dL_isStepped_99 hl (by decide) rfl (fun ls hl => ?_)
    refine lv_aload_n hx hb dL_isStepped_101 rfl (lv_at hl 2 rfl) ?_
    obtain ⟨r83, hc102, hm⟩ := k_bds hm
    refine k_i_sE (k_rV (As := []) (rest := []) ⟨hx, hb, hml, hown, hts⟩ hK hN hP hD (zB_reach hc102) (cwV 0 hts gL_isStepped_X9_reach rfl rfl rfl (by decide +kernel) ⟨Nat.le_of_ble_eq_true rfl, Nat.le_of_ble_eq_true rfl⟩) rfl rfl rfl hl.1 rfl (Nat.le_of_ble_eq_true rfl) dL_isStepped_102 ⟨Nat.zero_le _, Nat.zero_le _⟩) hD hS hA (fun u9 H locs hP hD hS => ?_)
    obtain ⟨u84, u85, u86, u87⟩ := u9
    have hP : va_P D vwCl (wXt cI cJ cC cG h9 hn ap u84 ht h0 u85 u86 pc u87 x) H := hP
    have hD : va_D A (wXt cI cJ cC cG h9 hn ap u84 ht h0 u85 u86 pc u87 x) := hD
    refine lv_istore (lv' := [(9, .int r83), (8, .int r78), (7, .int (k_b t0)), (0, .ref h9), (3, .int l3), (4, .int l4), (5, .int l5), (6, .int l6)]) hx hb dL_isStepped_105 hl (by decide) rfl (fun ls hl => ?_)
    refine lv_aload_n hx hb dL_isStepped_107 rfl (lv_at hl 3 rfl) ?_
    refine lv_iconst (v := 1) hx hb dL_isStepped_108 (by decide) ?_
    refine lv_iload hx hb dL_isStepped_109 (lv_at hl 6 rfl) ?_
    refine lv_isub hx hb dL_isStepped_111 ?_
    obtain ⟨r88, hc112, hm⟩ := k_bds hm
    refine k_i_sE (k_rV (As := [.int (1 - l5)]) (rest := []) ⟨hx, hb, hml, hown, hts⟩ hK hN hP hD (zB_hits hc112) (cwV 1 hts gL_isStepped_X9_hits rfl rfl rfl (by decide +kernel) ⟨Nat.le_of_ble_eq_true rfl, Nat.le_of_ble_eq_true rfl⟩) rfl rfl rfl hl.1 rfl (Nat.le_of_ble_eq_true rfl) dL_isStepped_112 ⟨Nat.zero_le _, Nat.zero_le _⟩) hD hS hA (fun u9 H locs hP hD hS => ?_)
    obtain ⟨u89, u90, u91, u92⟩ := u9
    have hP : va_P D vwCl (wXt cI cJ cC cG h9 hn ap u89 ht h0 u90 u91 pc u92 x) H := hP
    have hD : va_D A (wXt cI cJ cC cG h9 hn ap u89 ht h0 u90 u91 pc u92 x) := hD
    refine lv_istore (lv' := [(10, .int r88), (9, .int r83), (8, .int r78), (7, .int (k_b t0)), (0, .ref h9), (3, .int l3), (4, .int l4), (5, .int l5), (6, .int l6)]) hx hb dL_isStepped_115 hl (by decide) rfl (fun ls hl => ?_)
    refine lv_aload_n hx hb dL_isStepped_117 rfl (lv_at hl 4 rfl) ?_
    refine lv_iconst (v := 1) hx hb dL_isStepped_118 (by decide) ?_
    refine lv_iload hx hb dL_isStepped_119 (lv_at hl 7 rfl) ?_
    refine lv_isub hx hb dL_isStepped_121 ?_
    obtain ⟨r93, hc122, hm⟩ := k_bds hm
    refine k_i_sE (k_rV (As := [.int (1 - l5)]) (rest := []) ⟨hx, hb, hml, hown, hts⟩ hK hN hP hD (zB_onBar hc122) (cwV 1 hts gL_isStepped_X9_onBar rfl rfl rfl (by decide +kernel) ⟨Nat.le_of_ble_eq_true rfl, Nat.le_of_ble_eq_true rfl⟩) rfl rfl rfl hl.1 rfl (Nat.le_of_ble_eq_true rfl) dL_isStepped_122 ⟨Nat.zero_le _, Nat.zero_le _⟩) hD hS hA (fun u9 H locs hP hD hS => ?_)
    obtain ⟨u94, u95, u96, u97⟩ := u9
    have hP : va_P D vwCl (wXt cI cJ cC cG h9 hn ap u94 ht h0 u95 u96 pc u97 x) H := hP
    have hD : va_D A (wXt cI cJ cC cG h9 hn ap u94 ht h0 u95 u96 pc u97 x) := hD
    refine lv_istore (lv' := [(11, .int r93), (10, .int r88), (9, .int r83), (8, .int r78), (7, .int (k_b t0)), (0, .ref h9), (3, .int l3), (4, .int l4), (5, .int l5), (6, .int l6)]) hx hb dL_isStepped_125 hl (by decide) rfl (fun ls hl => ?_)
    refine lv_aload_n hx hb dL_isStepped_127 rfl (lv_at hl 5 rfl) ?_
    refine lv_iload hx hb dL_isStepped_128 (lv_at hl 8 rfl) ?_
    obtain ⟨r98, hc130, hm⟩ := k_bds hm
    refine k_i_sE (k_rV (As := [.int l5]) (rest := []) ⟨hx, hb, hml, hown, hts⟩ hK hN hP hD (zB_borneOff hc130) (cwV 1 hts gL_isStepped_X9_borneOff rfl rfl rfl (by decide +kernel) ⟨Nat.le_of_ble_eq_true rfl, Nat.le_of_ble_eq_true rfl⟩) rfl rfl rfl hl.1 rfl (Nat.le_of_ble_eq_true rfl) dL_isStepped_130 ⟨Nat.zero_le _, Nat.zero_le _⟩) hD hS hA (fun u9 H locs hP hD hS => ?_)
    obtain ⟨u99, u100, u101, u102⟩ := u9
    have hP : va_P D vwCl (wXt cI cJ cC cG h9 hn ap u99 ht h0 u100 u101 pc u102 x) H := hP
    have hD : va_D A (wXt cI cJ cC cG h9 hn ap u99 ht h0 u100 u101 pc u102 x) := hD
    refine lv_istore (lv' := [(12, .int r98), (11, .int r93), (10, .int r88), (9, .int r83), (8, .int r78), (7, .int (k_b t0)), (0, .ref h9), (3, .int l3), (4, .int l4), (5, .int l5), (6, .int l6)]) hx hb dL_isStepped_133 hl (by decide) rfl (fun ls hl => ?_)
    refine lv_aload_n hx hb dL_isStepped_135 rfl (lv_at hl 6 rfl) ?_
    refine lv_iload_n hx hb dL_isStepped_136 rfl (lv_at hl 7 rfl) ?_
    refine lv_iload hx hb dL_isStepped_137 (lv_at hl 8 rfl) ?_
    obtain ⟨r103, hc139, hm⟩ := k_bds hm
    refine k_i_sE (k_rV (As := [.int l3, .int l4]) (rest := []) ⟨hx, hb, hml, hown, hts⟩ hK hN hP hD (zB_blotsBehind hc139) (cwV 2 hts gL_isStepped_X9_blotsBehind rfl rfl rfl (by decide +kernel) ⟨Nat.le_of_ble_eq_true rfl, Nat.le_of_ble_eq_true rfl⟩) rfl rfl rfl hl.1 rfl (Nat.le_of_ble_eq_true rfl) dL_isStepped_139 ⟨Nat.zero_le _, Nat.zero_le _⟩) hD hS hA (fun u9 H locs hP hD hS => ?_)
    obtain ⟨u104, u105, u106, u107⟩ := u9
    have hP : va_P D vwCl (wXt cI cJ cC cG h9 hn ap u104 ht h0 u105 u106 pc u107 x) H := hP
    have hD : va_D A (wXt cI cJ cC cG h9 hn ap u104 ht h0 u105 u106 pc u107 x) := hD
    refine lv_istore (lv' := [(13, .int r103), (12, .int r98), (11, .int r93), (10, .int r88), (9, .int r83), (8, .int r78), (7, .int (k_b t0)), (0, .ref h9), (3, .int l3), (4, .int l4), (5, .int l5), (6, .int l6)]) hx hb dL_isStepped_142 hl (by decide) rfl (fun ls hl => ?_)
    refine lv_aload_n hx hb dL_isStepped_144 rfl (lv_at hl 7 rfl) ?_
    refine lv_iload hx hb dL_isStepped_145 (lv_at hl 10 rfl) ?_
    obtain ⟨r108, hc147, hm⟩ := k_bds hm
    refine k_i_sE (k_rV (As := [.int l5]) (rest := []) ⟨hx, hb, hml, hown, hts⟩ hK hN hP hD (zB_pips hc147) (cwV 1 hts gL_isStepped_X9_pips rfl rfl rfl (by decide +kernel) ⟨Nat.le_of_ble_eq_true rfl, Nat.le_of_ble_eq_true rfl⟩) rfl rfl rfl hl.1 rfl (Nat.le_of_ble_eq_true rfl) dL_isStepped_147 ⟨Nat.zero_le _, Nat.zero_le _⟩) hD hS hA (fun u9 H locs hP hD hS => ?_)
    obtain ⟨u109, u110, u111, u112⟩ := u9
    have hP : va_P D vwCl (wXt cI cJ cC cG h9 hn ap u109 ht h0 u110 u111 pc u112 x) H := hP
    have hD : va_D A (wXt cI cJ cC cG h9 hn ap u109 ht h0 u110 u111 pc u112 x) := hD
    refine lv_istore (lv' := [(14, .int r108), (13, .int r103), (12, .int r98), (11, .int r93), (10, .int r88), (9, .int r83), (8, .int r78), (7, .int (k_b t0)), (0, .ref h9), (3, .int l3), (4, .int l4), (5, .int l5), (6, .int l6)]) hx hb dL_isStepped_150 hl (by decide) rfl (fun ls hl => ?_)
    refine lv_aload_n hx hb dL_isStepped_152 rfl (lv_at hl 8 rfl) ?_
    refine lv_iload hx hb dL_isStepped_153 (lv_at hl 11 rfl) ?_
    refine lv_iload_n hx hb dL_isStepped_155 rfl (lv_at hl 9 rfl) ?_
    obtain ⟨r113, hc156, hm⟩ := k_bds hm
    refine k_i_sE (k_rS (As := [.ref h9, .int l5, .int l3]) (rest := []) ⟨hx, hb, hml, hown, hts⟩ hK hN hP hD (zL_pieces hc156) (va_cwS 3 hts gL_isStepped_L_pieces rfl rfl rfl (by decide +kernel) ⟨Nat.le_of_ble_eq_true rfl, Nat.le_of_ble_eq_true rfl⟩) rfl hl.1 rfl (Nat.le_of_ble_eq_true rfl) dL_isStepped_156 ⟨Nat.zero_le _, Nat.zero_le _⟩) hD hS hA (fun u9 H locs hP hD hS => ?_)
    obtain ⟨u114, u115, u116, u117⟩ := u9
    have hP : va_P D vwCl (wXt cI cJ cC cG h9 hn ap u114 ht h0 u115 u116 pc u117 x) H := hP
    have hD : va_D A (wXt cI cJ cC cG h9 hn ap u114 ht h0 u115 u116 pc u117 x) := hD
    refine lv_if_le (tgt := 205) hx hb dL_isStepped_159 (by decide) (fun cc159 => ?_) (fun cc159 => ?_)
    · have hm := k_ip cc159 hm
      exact J_205 u114 u115 u116 u117 l3 l4 l5 l6 t0 r78 r83 r88 r93 r98 r103 r108 x _ _ hP hD hS _ (lv_sub hl [8, 9, 10, 11, 12, 7, 6, 5, 4, 3, 2, 1, 0] rfl) hm
    · have hm := k_in cc159 hm
      refine lv_iload_n hx hb dL_isStepped_162 rfl (lv_at hl 9 rfl) ?_
      refine lv_if_lt (tgt := 175) hx hb dL_isStepped_163 (by decide) (fun cc163 => ?_) (fun cc163 => ?_)
      · have hm := k_ip cc163 hm
        exact J_175 u114 u115 u116 u117 l3 l4 l5 l6 t0 r78 r83 r88 r93 r98 r103 r108 x _ _ hP hD hS _ (lv_sub hl [8, 9, 10, 11, 12, 7, 6, 5, 4, 3, 2, 1, 0] rfl) hm
      · have hm := k_in cc163 hm
        refine lv_aload_n hx hb dL_isStepped_166 rfl (lv_at hl 8 rfl) ?_
        refine lv_iload hx hb dL_isStepped_167 (lv_at hl 11 rfl) ?_
        obtain ⟨r118, hc169, hm⟩ := k_bds hm
        refine k_i_sE (k_rV (As := [.int l5]) (rest := []) ⟨hx, hb, hml, hown, hts⟩ hK hN hP hD (zB_onBar hc169) (cwV 1 hts gL_isStepped_X9_onBar rfl rfl rfl (by decide +kernel) ⟨Nat.le_of_ble_eq_true rfl, Nat.le_of_ble_eq_true rfl⟩) rfl rfl rfl hl.1 rfl (Nat.le_of_ble_eq_true rfl) dL_isStepped_169 ⟨Nat.zero_le _, Nat.zero_le _⟩) hD hS hA (fun u9 H locs hP hD hS => ?_)
        obtain ⟨u119, u120, u121, u122⟩ := u9
        have hP : va_P D vwCl (wXt cI cJ cC cG h9 hn ap u119 ht h0 u120 u121 pc u122 x) H := hP
        have hD : va_D A (wXt cI cJ cC cG h9 hn ap u119 ht h0 u120 u121 pc u122 x) := hD
        refine lv_if_ne (tgt := 205) hx hb dL_isStepped_172 (by decide) (fun cc172 => ?_) (fun cc172 => ?_)
        · have hm := k_in cc172 hm
          exact J_205 u119 u120 u121 u122 l3 l4 l5 l6 t0 r78 r83 r88 r93 r98 r103 r108 x _ _ hP hD hS _ (lv_sub hl [8, 9, 10, 11, 12, 7, 6, 5, 4, 3, 2, 1, 0] rfl) hm
        · have hm := k_ip cc172 hm
          exact J_175 u119 u120 u121 u122 l3 l4 l5 l6 t0 r78 r83 r88 r93 r98 r103 r108 x _ _ hP hD hS _ (lv_sub hl [8, 9, 10, 11, 12, 7, 6, 5, 4, 3, 2, 1, 0] rfl) hm
  have J_92 : ∀ (q : Nat → Nat) (pa : Nat → Nat) (pb : Nat → Nat) (jk : JT) (l3 : Int32) (l4 : Int32) (l5 : Int32) (l6 : Int32) (x : XT) (H : Heap) (locs : List Loc), va_P D vwCl (wXt cI cJ cC cG h9 hn ap q ht h0 pa pb pc jk x) H → va_D A (wXt cI cJ cC cG h9 hn ap q ht h0 pa pb pc jk x) → va_S A z.heap H locs → ∀ ls : Array Slot, lv_has ls 16 [(0, .ref h9), (3, .int l3), (4, .int l4), (5, .int l5), (6, .int l6)] → mL_isStepped_92 a1 l3 l4 l5 l6 x = some (r, x') → W p l e rmL_isStepped z m ([.ref h9, .int a1] : List Value).toArray below meth c H locs 0 0 (k_QiE below ([.ref h9, .int a1] : List Value) D (kT cI cJ cC cG) z A (fun u : (Nat → Nat) × (Nat → Nat) × (Nat → Nat) × (JT) => (wXt cI cJ cC cG h9 hn ap (u.1) ht h0 (u.2.1) (u.2.2.1) pc (u.2.2.2) x')) (k_b r)) (F0 m 92 ls []) := by
    intro q pa pb jk l3 l4 l5 l6 x H locs hP hD hS ls hl hm
    unfold mL_isStepped_92 at hm
    refine lv_iconst (v := 0) hx hb dL_isStepped_92 (by decide) ?_
    exact J_93 q pa pb jk false l3 l4 l5 l6 x _ _ hP hD hS _ (lv_sub hl [0, 1, 2, 3, 4] rfl) hm
  unfold mL_isStepped at hm
  refine lv_aload_n hx hb dL_isStepped_0 rfl (lv_at hl 0 rfl) ?_
  refine lv_iload_n hx hb dL_isStepped_1 rfl (lv_at hl 1 rfl) ?_
  obtain ⟨r123, hc2, hm⟩ := k_bds hm
  refine k_i_sE (k_rS (As := [.ref h9, .int a1]) (rest := []) ⟨hx, hb, hml, hown, hts⟩ hK hN hP hD (zL_find hc2) (va_cwS 2 hts gL_isStepped_L_find rfl rfl rfl (by decide +kernel) ⟨Nat.le_of_ble_eq_true rfl, Nat.le_of_ble_eq_true rfl⟩) rfl hl.1 rfl (Nat.le_of_ble_eq_true rfl) dL_isStepped_2 ⟨Nat.zero_le _, Nat.zero_le _⟩) hD hS hA (fun u9 H locs hP hD hS => ?_)
  obtain ⟨u124, u125, u126, u127⟩ := u9
  have hP : va_P D vwCl (wXt cI cJ cC cG h9 hn ap u124 ht h0 u125 u126 pc u127 x) H := hP
  have hD : va_D A (wXt cI cJ cC cG h9 hn ap u124 ht h0 u125 u126 pc u127 x) := hD
  refine lv_istore_n (lv' := [(2, .int r123), (0, .ref h9), (1, .int a1)]) hx hb dL_isStepped_5 rfl hl (by decide) rfl (fun ls hl => ?_)
  refine lv_iload_n hx hb dL_isStepped_6 rfl (lv_at hl 0 rfl) ?_
  refine lv_if_ge (tgt := 38) hx hb dL_isStepped_7 (by decide) (fun cc7 => ?_) (fun cc7 => ?_)
  · have hm := k_ip cc7 hm
    refine lv_iload_n hx hb dL_isStepped_38 rfl (lv_at hl 0 rfl) ?_
    refine lv_bipush (v := 32) hx hb dL_isStepped_39 (by decide) ?_
    refine lv_irem hx hb dL_isStepped_41 (by decide) ?_
    refine lv_iconst (v := 1) hx hb dL_isStepped_42 (by decide) ?_
    refine lv_isub hx hb dL_isStepped_43 ?_
    refine lv_istore_n (lv' := [(3, .int ((k_irem r123 32) - 1)), (2, .int r123), (0, .ref h9), (1, .int a1)]) hx hb dL_isStepped_44 rfl hl (by decide) rfl (fun ls hl => ?_)
    refine lv_iload_n hx hb dL_isStepped_45 rfl (lv_at hl 1 rfl) ?_
    refine lv_bipush (v := 32) hx hb dL_isStepped_46 (by decide) ?_
    refine lv_idiv hx hb dL_isStepped_48 (by decide) ?_
    refine lv_istore (lv' := [(4, .int (r123 / 32)), (3, .int ((k_irem r123 32) - 1)), (2, .int r123), (0, .ref h9), (1, .int a1)]) hx hb dL_isStepped_49 hl (by decide) rfl (fun ls hl => ?_)
    refine lv_aload_n hx hb dL_isStepped_51 rfl (lv_at hl 3 rfl) ?_
    obtain ⟨r128, hc52, hm⟩ := k_bds hm
    refine k_i_sE (k_rV (As := []) (rest := []) ⟨hx, hb, hml, hown, hts⟩ hK hN hP hD (zB_mover hc52) (cwV 0 hts gL_isStepped_X9_mover rfl rfl rfl (by decide +kernel) ⟨Nat.le_of_ble_eq_true rfl, Nat.le_of_ble_eq_true rfl⟩) rfl rfl rfl hl.1 rfl (Nat.le_of_ble_eq_true rfl) dL_isStepped_52 ⟨Nat.zero_le _, Nat.zero_le _⟩) hD hS hA (fun u9 H locs hP hD hS => ?_)
    obtain ⟨u129, u130, u131, u132⟩ := u9
    have hP : va_P D vwCl (wXt cI cJ cC cG h9 hn ap u129 ht h0 u130 u131 pc u132 x) H := hP
    have hD : va_D A (wXt cI cJ cC cG h9 hn ap u129 ht h0 u130 u131 pc u132 x) := hD
    refine lv_istore (lv' := [(5, .int r128), (4, .int (r123 / 32)), (3, .int ((k_irem r123 32) - 1)), (2, .int r123), (0, .ref h9), (1, .int a1)]) hx hb dL_isStepped_55 hl (by decide) rfl (fun ls hl => ?_)
    refine lv_iload hx hb dL_isStepped_57 (lv_at hl 0 rfl) ?_
    refine lv_iload_n hx hb dL_isStepped_59 rfl (lv_at hl 2 rfl) ?_
    refine lv_iload hx hb dL_isStepped_60 (lv_at hl 1 rfl) ?_
    obtain ⟨r133, hc62, hm⟩ := k_bds hm
    refine k_i_0 (k_rS (As := [.int r128, .int ((k_irem r123 32) - 1), .int (r123 / 32)]) (rest := []) ⟨hx, hb, hml, hown, hts⟩ hK hN k_P0 (k_D0 (A := A)) (zL_target hc62) (va_cwS 3 hts gL_isStepped_L_target rfl rfl rfl (by decide +kernel) ⟨Nat.le_of_ble_eq_true rfl, Nat.le_of_ble_eq_true rfl⟩) rfl hl.1 rfl (Nat.le_of_ble_eq_true rfl) dL_isStepped_62 ⟨Nat.zero_le _, Nat.zero_le _⟩) hP hS hA (fun H locs hP hS => ?_)
    refine lv_istore (lv' := [(6, .int r133), (5, .int r128), (4, .int (r123 / 32)), (3, .int ((k_irem r123 32) - 1)), (2, .int r123), (0, .ref h9), (1, .int a1)]) hx hb dL_isStepped_65 hl (by decide) rfl (fun ls hl => ?_)
    refine lv_iload hx hb dL_isStepped_67 (lv_at hl 0 rfl) ?_
    refine lv_bipush (v := 16) hx hb dL_isStepped_69 (by decide) ?_
    refine lv_icmp_ge (tgt := 92) hx hb dL_isStepped_71 (by decide) (fun cc71 => ?_) (fun cc71 => ?_)
    · have hm := k_ip cc71 hm
      exact J_92 u129 u130 u131 u132 ((k_irem r123 32) - 1) (r123 / 32) r128 r133 x _ _ hP hD hS _ (lv_sub hl [5, 3, 2, 1, 0] rfl) hm
    · have hm := k_in cc71 hm
      refine lv_aload_n hx hb dL_isStepped_74 rfl (lv_at hl 5 rfl) ?_
      refine lv_iconst (v := 1) hx hb dL_isStepped_75 (by decide) ?_
      refine lv_iload hx hb dL_isStepped_76 (lv_at hl 1 rfl) ?_
      refine lv_isub hx hb dL_isStepped_78 ?_
      refine lv_iload hx hb dL_isStepped_79 (lv_at hl 0 rfl) ?_
      obtain ⟨r134, hc81, hm⟩ := k_bds hm
      refine k_i_sE (k_rV (As := [.int (1 - r128), .int r133]) (rest := []) ⟨hx, hb, hml, hown, hts⟩ hK hN hP hD (zB_piecesOn hc81) (cwV 2 hts gL_isStepped_X9_piecesOn rfl rfl rfl (by decide +kernel) ⟨Nat.le_of_ble_eq_true rfl, Nat.le_of_ble_eq_true rfl⟩) rfl rfl rfl hl.1 rfl (Nat.le_of_ble_eq_true rfl) dL_isStepped_81 ⟨Nat.zero_le _, Nat.zero_le _⟩) hD hS hA (fun u9 H locs hP hD hS => ?_)
      obtain ⟨u135, u136, u137, u138⟩ := u9
      have hP : va_P D vwCl (wXt cI cJ cC cG h9 hn ap u135 ht h0 u136 u137 pc u138 x) H := hP
      have hD : va_D A (wXt cI cJ cC cG h9 hn ap u135 ht h0 u136 u137 pc u138 x) := hD
      refine lv_iconst (v := 1) hx hb dL_isStepped_84 (by decide) ?_
      refine lv_icmp_ne (tgt := 92) hx hb dL_isStepped_85 (by decide) (fun cc85 => ?_) (fun cc85 => ?_)
      · have hm := k_in cc85 hm
        exact J_92 u135 u136 u137 u138 ((k_irem r123 32) - 1) (r123 / 32) r128 r133 x _ _ hP hD hS _ (lv_sub hl [5, 3, 2, 1, 0] rfl) hm
      · have hm := k_ip cc85 hm
        refine lv_iconst (v := 1) hx hb dL_isStepped_88 (by decide) ?_
        refine lv_goto (tgt := 93) hx hb dL_isStepped_89 (by decide) ?_
        exact J_93 u135 u136 u137 u138 true ((k_irem r123 32) - 1) (r123 / 32) r128 r133 x _ _ hP hD hS _ (lv_sub hl [5, 3, 2, 1, 0] rfl) hm
  · have hm := k_in cc7 hm
    refine lv_aload_n hx hb dL_isStepped_10 rfl (lv_at hl 1 rfl) ?_
    obtain ⟨r139, hc11, hm⟩ := k_bds hm
    refine k_i_sE (k_rV (As := []) (rest := []) ⟨hx, hb, hml, hown, hts⟩ hK hN hP hD (zB_reach hc11) (cwV 0 hts gL_isStepped_X9_reach rfl rfl rfl (by decide +kernel) ⟨Nat.le_of_ble_eq_true rfl, Nat.le_of_ble_eq_true rfl⟩) rfl rfl rfl hl.1 rfl (Nat.le_of_ble_eq_true rfl) dL_isStepped_11 ⟨Nat.zero_le _, Nat.zero_le _⟩) hD hS hA (fun u9 H locs hP hD hS => ?_)
    obtain ⟨u140, u141, u142, u143⟩ := u9
    have hP : va_P D vwCl (wXt cI cJ cC cG h9 hn ap u140 ht h0 u141 u142 pc u143 x) H := hP
    have hD : va_D A (wXt cI cJ cC cG h9 hn ap u140 ht h0 u141 u142 pc u143 x) := hD
    refine lv_if_ne (tgt := 36) hx hb dL_isStepped_14 (by decide) (fun cc14 => ?_) (fun cc14 => ?_)
    · have hm := k_in cc14 hm
      refine lv_iconst (v := 0) hx hb dL_isStepped_36 (by decide) ?_
      cases hm
      exact k_end_zE (u140, u141, u142, u143) false hx hb hr hlocks hK hP hD hS dL_isStepped_37
    · have hm := k_ip cc14 hm
      refine lv_aload_n hx hb dL_isStepped_17 rfl (lv_at hl 1 rfl) ?_
      obtain ⟨r144, hc18, hm⟩ := k_bds hm
      refine k_i_sE (k_rV (As := []) (rest := []) ⟨hx, hb, hml, hown, hts⟩ hK hN hP hD (zB_possibleSteps hc18) (cwV 0 hts gL_isStepped_X9_possibleSteps rfl rfl rfl (by decide +kernel) ⟨Nat.le_of_ble_eq_true rfl, Nat.le_of_ble_eq_true rfl⟩) rfl rfl rfl hl.1 rfl (Nat.le_of_ble_eq_true rfl) dL_isStepped_18 ⟨Nat.zero_le _, Nat.zero_le _⟩) hD hS hA (fun u9 H locs hP hD hS => ?_)
      obtain ⟨u145, u146, u147, u148⟩ := u9
      have hP : va_P D vwCl (wXt cI cJ cC cG h9 hn ap u145 ht h0 u146 u147 pc u148 x) H := hP
      have hD : va_D A (wXt cI cJ cC cG h9 hn ap u145 ht h0 u146 u147 pc u148 x) := hD
      refine lv_if_ne (tgt := 36) hx hb dL_isStepped_21 (by decide) (fun cc21 => ?_) (fun cc21 => ?_)
      · have hm := k_in cc21 hm
        refine lv_iconst (v := 0) hx hb dL_isStepped_36 (by decide) ?_
        cases hm
        exact k_end_zE (u145, u146, u147, u148) false hx hb hr hlocks hK hP hD hS dL_isStepped_37
      · have hm := k_ip cc21 hm
        refine lv_aload_n hx hb dL_isStepped_24 rfl (lv_at hl 1 rfl) ?_
        obtain ⟨r149, hc25, hm⟩ := k_bds hm
        refine k_i_sE (k_rV (As := []) (rest := []) ⟨hx, hb, hml, hown, hts⟩ hK hN hP hD (zB_plays hc25) (cwV 0 hts gL_isStepped_X9_plays rfl rfl rfl (by decide +kernel) ⟨Nat.le_of_ble_eq_true rfl, Nat.le_of_ble_eq_true rfl⟩) rfl rfl rfl hl.1 rfl (Nat.le_of_ble_eq_true rfl) dL_isStepped_25 ⟨Nat.zero_le _, Nat.zero_le _⟩) hD hS hA (fun u9 H locs hP hD hS => ?_)
        obtain ⟨u150, u151, u152, u153⟩ := u9
        have hP : va_P D vwCl (wXt cI cJ cC cG h9 hn ap u150 ht h0 u151 u152 pc u153 x) H := hP
        have hD : va_D A (wXt cI cJ cC cG h9 hn ap u150 ht h0 u151 u152 pc u153 x) := hD
        refine lv_iconst (v := 1) hx hb dL_isStepped_28 (by decide) ?_
        refine lv_icmp_ne (tgt := 36) hx hb dL_isStepped_29 (by decide) (fun cc29 => ?_) (fun cc29 => ?_)
        · have hm := k_in cc29 hm
          refine lv_iconst (v := 0) hx hb dL_isStepped_36 (by decide) ?_
          cases hm
          exact k_end_zE (u150, u151, u152, u153) false hx hb hr hlocks hK hP hD hS dL_isStepped_37
        · have hm := k_ip cc29 hm
          refine lv_iconst (v := 1) hx hb dL_isStepped_32 (by decide) ?_
          refine lv_goto (tgt := 37) hx hb dL_isStepped_33 (by decide) ?_
          cases hm
          exact k_end_zE (u150, u151, u152, u153) true hx hb hr hlocks hK hP hD hS dL_isStepped_37

