abbrev rmL_does : Room := { frames := 17, cells := 0, slots := 0, locals := 584 }
set_option maxHeartbeats 4000000 in
set_option maxRecDepth 100000 in
theorem zL_does {l : Launch} {D : va_G} {cI cJ cC cG : ClassId} {sz : Nat} {h9 hn h0 : Nat} {ap q ht pa pb pc : Nat → Nat} {jk : JT} {x : XT} {a1 : Int32} {a2 : Int32} {r : Bool} {x' : XT} (hm : mL_does x a1 a2 = some (r, x')) : k_MiE l yL_does wsL_does rmL_does D (kT cI cJ cC cG) sz ([.ref h9, .int a1, .int a2] : List Value) (wXt cI cJ cC cG h9 hn ap q ht h0 pa pb pc jk x) (fun u : (Nat → Nat) × (Nat → Nat) × (Nat → Nat) × (JT) => (wXt cI cJ cC cG h9 hn ap (u.1) ht h0 (u.2.1) (u.2.2.1) pc (u.2.2.2) x')) (k_b r) := by
  refine k_st_iE (cc := cL_does) (maxL := 4) (by decide) rfl (Nat.le_of_ble_eq_true rfl) ?_
  intro p e z m below meth c A hx hb hr hml hts hown hlocks hsz hN hA hK hP hD hS ls hl
  have hown : z.vm.findClass RL = some m.cls := hown
  have hl : lv_has ls 4 [(0, .ref h9), (1, .int a1), (2, .int a2)] := hl
  have J_69 : ∀ (q : Nat → Nat) (pa : Nat → Nat) (pb : Nat → Nat) (jk : JT) (t0 : Bool) (x : XT) (H : Heap) (locs : List Loc), va_P D vwCl (wXt cI cJ cC cG h9 hn ap q ht h0 pa pb pc jk x) H → va_D A (wXt cI cJ cC cG h9 hn ap q ht h0 pa pb pc jk x) → va_S A z.heap H locs → ∀ ls : Array Slot, lv_has ls 4 [] → mL_does_69 a1 a2 t0 x = some (r, x') → W p l e rmL_does z m ([.ref h9, .int a1, .int a2] : List Value).toArray below meth c H locs 0 0 (k_QiE below ([.ref h9, .int a1, .int a2] : List Value) D (kT cI cJ cC cG) z A (fun u : (Nat → Nat) × (Nat → Nat) × (Nat → Nat) × (JT) => (wXt cI cJ cC cG h9 hn ap (u.1) ht h0 (u.2.1) (u.2.2.1) pc (u.2.2.2) x')) (k_b r)) (F0 m 69 ls [.int (k_b t0), .ref h9]) := by
    intro q pa pb jk t0 x H locs hP hD hS ls hl hm
    unfold mL_does_69 at hm
    obtain ⟨r1, w2, hc69, hm⟩ := k_bd2s hm
    refine k_i_sE (k_rS (As := [.ref h9, .int (k_b t0)]) (rest := []) ⟨hx, hb, hml, hown, hts⟩ hK hN hP hD (zL_isOffered hc69) (va_cwS 2 hts gL_does_L_isOffered rfl rfl rfl (by decide +kernel) ⟨Nat.le_of_ble_eq_true rfl, Nat.le_of_ble_eq_true rfl⟩) rfl hl.1 rfl (Nat.le_of_ble_eq_true rfl) dL_does_69 ⟨Nat.zero_le _, Nat.zero_le _⟩) hD hS hA (fun u9 H locs hP hD hS => ?_)
    obtain ⟨u3, u4, u5, u6⟩ := u9
    have hP : va_P D vwCl (wXt cI cJ cC cG h9 hn ap u3 ht h0 u4 u5 pc u6 w2) H := hP
    have hD : va_D A (wXt cI cJ cC cG h9 hn ap u3 ht h0 u4 u5 pc u6 w2) := hD
    refine lv_goto (tgt := 80) hx hb dL_does_72 (by decide) ?_
    cases hm
    exact k_end_zE (u3, u4, u5, u6) _ hx hb hr hlocks hK hP hD hS dL_does_80
  unfold mL_does at hm
  refine lv_aload_n hx hb dL_does_0 rfl (lv_at hl 0 rfl) ?_
  obtain ⟨r7, hc1, hm⟩ := k_bds hm
  refine k_i_sE (k_rV (As := []) (rest := []) ⟨hx, hb, hml, hown, hts⟩ hK hN hP hD (zB_phase hc1) (cwV 0 hts gL_does_X9_phase rfl rfl rfl (by decide +kernel) ⟨Nat.le_of_ble_eq_true rfl, Nat.le_of_ble_eq_true rfl⟩) rfl rfl rfl hl.1 rfl (Nat.le_of_ble_eq_true rfl) dL_does_1 ⟨Nat.zero_le _, Nat.zero_le _⟩) hD hS hA (fun u9 H locs hP hD hS => ?_)
  obtain ⟨u8, u9, u10, u11⟩ := u9
  have hP : va_P D vwCl (wXt cI cJ cC cG h9 hn ap u8 ht h0 u9 u10 pc u11 x) H := hP
  have hD : va_D A (wXt cI cJ cC cG h9 hn ap u8 ht h0 u9 u10 pc u11 x) := hD
  by_cases cs4_0 : r7 = 0
  · have hm := k_ip cs4_0 hm
    refine lv_tableIn (off := 28) (tgt := 32) hx hb dL_does_4 (by rw [cs4_0]; decide +kernel) (by rw [cs4_0]; decide +kernel) (by rw [cs4_0]; decide +kernel) (by decide) ?_
    refine lv_iload_n hx hb dL_does_32 rfl (lv_at hl 1 rfl) ?_
    refine lv_bipush (v := 15) hx hb dL_does_33 (by decide) ?_
    refine lv_iand hx hb dL_does_35 ?_
    refine lv_iconst (v := 2) hx hb dL_does_36 (by decide) ?_
    refine lv_icmp_ge (tgt := 48) hx hb dL_does_37 (by decide) (fun cc37 => ?_) (fun cc37 => ?_)
    · have hm := k_ip cc37 hm
      refine lv_iload_n hx hb dL_does_48 rfl (lv_at hl 1 rfl) ?_
      refine lv_bipush (v := 15) hx hb dL_does_49 (by decide) ?_
      refine lv_iand hx hb dL_does_51 ?_
      refine lv_iconst (v := 2) hx hb dL_does_52 (by decide) ?_
      refine lv_icmp_ne (tgt := 75) hx hb dL_does_53 (by decide) (fun cc53 => ?_) (fun cc53 => ?_)
      · have hm := k_in cc53 hm
        refine lv_aload_n hx hb dL_does_75 rfl (lv_at hl 0 rfl) ?_
        refine lv_iload_n hx hb dL_does_76 rfl (lv_at hl 2 rfl) ?_
        obtain ⟨r12, w13, hc77, hm⟩ := k_bd2s hm
        refine k_i_sE (k_rS (As := [.ref h9, .int a2]) (rest := []) ⟨hx, hb, hml, hown, hts⟩ hK hN hP hD (zL_isRolled hc77) (va_cwS 2 hts gL_does_L_isRolled rfl rfl rfl (by decide +kernel) ⟨Nat.le_of_ble_eq_true rfl, Nat.le_of_ble_eq_true rfl⟩) rfl hl.1 rfl (Nat.le_of_ble_eq_true rfl) dL_does_77 ⟨Nat.zero_le _, Nat.zero_le _⟩) hD hS hA (fun u9 H locs hP hD hS => ?_)
        obtain ⟨u14, u15, u16, u17⟩ := u9
        have hP : va_P D vwCl (wXt cI cJ cC cG h9 hn ap u14 ht h0 u15 u16 pc u17 w13) H := hP
        have hD : va_D A (wXt cI cJ cC cG h9 hn ap u14 ht h0 u15 u16 pc u17 w13) := hD
        cases hm
        exact k_end_zE (u14, u15, u16, u17) _ hx hb hr hlocks hK hP hD hS dL_does_80
      · have hm := k_ip cc53 hm
        refine lv_aload_n hx hb dL_does_56 rfl (lv_at hl 0 rfl) ?_
        refine lv_iload_n hx hb dL_does_57 rfl (lv_at hl 2 rfl) ?_
        refine lv_bipush (v := 7) hx hb dL_does_58 (by decide) ?_
        refine lv_iand hx hb dL_does_60 ?_
        refine lv_if_le (tgt := 68) hx hb dL_does_61 (by decide) (fun cc61 => ?_) (fun cc61 => ?_)
        · have hm := k_ip cc61 hm
          refine lv_iconst (v := 0) hx hb dL_does_68 (by decide) ?_
          exact J_69 u8 u9 u10 u11 false x _ _ hP hD hS _ (lv_sub hl [] rfl) hm
        · have hm := k_in cc61 hm
          refine lv_iconst (v := 1) hx hb dL_does_64 (by decide) ?_
          refine lv_goto (tgt := 69) hx hb dL_does_65 (by decide) ?_
          exact J_69 u8 u9 u10 u11 true x _ _ hP hD hS _ (lv_sub hl [] rfl) hm
    · have hm := k_in cc37 hm
      refine lv_aload_n hx hb dL_does_40 rfl (lv_at hl 0 rfl) ?_
      refine lv_iload_n hx hb dL_does_41 rfl (lv_at hl 2 rfl) ?_
      obtain ⟨r18, w19, hc42, hm⟩ := k_bd2s hm
      refine k_i_sE (k_rS (As := [.ref h9, .int a2]) (rest := []) ⟨hx, hb, hml, hown, hts⟩ hK hN hP hD (zL_isCarried hc42) (va_cwS 2 hts gL_does_L_isCarried rfl rfl rfl (by decide +kernel) ⟨Nat.le_of_ble_eq_true rfl, Nat.le_of_ble_eq_true rfl⟩) rfl hl.1 rfl (Nat.le_of_ble_eq_true rfl) dL_does_42 ⟨Nat.zero_le _, Nat.zero_le _⟩) hD hS hA (fun u9 H locs hP hD hS => ?_)
      obtain ⟨u20, u21, u22, u23⟩ := u9
      have hP : va_P D vwCl (wXt cI cJ cC cG h9 hn ap u20 ht h0 u21 u22 pc u23 w19) H := hP
      have hD : va_D A (wXt cI cJ cC cG h9 hn ap u20 ht h0 u21 u22 pc u23 w19) := hD
      refine lv_goto (tgt := 80) hx hb dL_does_45 (by decide) ?_
      cases hm
      exact k_end_zE (u20, u21, u22, u23) _ hx hb hr hlocks hK hP hD hS dL_does_80
  · have hm := k_in cs4_0 hm
    by_cases cs4_1 : r7 = 1
    · have hm := k_ip cs4_1 hm
      refine lv_tableIn (off := 77) (tgt := 81) hx hb dL_does_4 (by rw [cs4_1]; decide +kernel) (by rw [cs4_1]; decide +kernel) (by rw [cs4_1]; decide +kernel) (by decide) ?_
      refine lv_aload_n hx hb dL_does_81 rfl (lv_at hl 0 rfl) ?_
      obtain ⟨r24, hc82, hm⟩ := k_bds hm
      refine k_i_sE (k_rV (As := []) (rest := []) ⟨hx, hb, hml, hown, hts⟩ hK hN hP hD (zB_mover hc82) (cwV 0 hts gL_does_X9_mover rfl rfl rfl (by decide +kernel) ⟨Nat.le_of_ble_eq_true rfl, Nat.le_of_ble_eq_true rfl⟩) rfl rfl rfl hl.1 rfl (Nat.le_of_ble_eq_true rfl) dL_does_82 ⟨Nat.zero_le _, Nat.zero_le _⟩) hD hS hA (fun u9 H locs hP hD hS => ?_)
      obtain ⟨u25, u26, u27, u28⟩ := u9
      have hP : va_P D vwCl (wXt cI cJ cC cG h9 hn ap u25 ht h0 u26 u27 pc u28 x) H := hP
      have hD : va_D A (wXt cI cJ cC cG h9 hn ap u25 ht h0 u26 u27 pc u28 x) := hD
      refine lv_istore_n (lv' := [(3, .int r24), (0, .ref h9), (1, .int a1), (2, .int a2)]) hx hb dL_does_85 rfl hl (by decide) rfl (fun ls hl => ?_)
      refine lv_aload_n hx hb dL_does_86 rfl (lv_at hl 1 rfl) ?_
      obtain ⟨r29, hc87, hm⟩ := k_bds hm
      refine k_i_sE (k_rV (As := []) (rest := []) ⟨hx, hb, hml, hown, hts⟩ hK hN hP hD (zB_reach hc87) (cwV 0 hts gL_does_X9_reach rfl rfl rfl (by decide +kernel) ⟨Nat.le_of_ble_eq_true rfl, Nat.le_of_ble_eq_true rfl⟩) rfl rfl rfl hl.1 rfl (Nat.le_of_ble_eq_true rfl) dL_does_87 ⟨Nat.zero_le _, Nat.zero_le _⟩) hD hS hA (fun u9 H locs hP hD hS => ?_)
      obtain ⟨u30, u31, u32, u33⟩ := u9
      have hP : va_P D vwCl (wXt cI cJ cC cG h9 hn ap u30 ht h0 u31 u32 pc u33 x) H := hP
      have hD : va_D A (wXt cI cJ cC cG h9 hn ap u30 ht h0 u31 u32 pc u33 x) := hD
      refine lv_if_le (tgt := 101) hx hb dL_does_90 (by decide) (fun cc90 => ?_) (fun cc90 => ?_)
      · have hm := k_ip cc90 hm
        refine lv_aload_n hx hb dL_does_101 rfl (lv_at hl 1 rfl) ?_
        obtain ⟨r34, w35, hc102, hm⟩ := k_bd2s hm
        refine k_i_sE (k_rV (As := []) (rest := []) ⟨hx, hb, hml, hown, hts⟩ hK hN hP hD (zB_endTurn hc102) (cwV 0 hts gL_does_X9_endTurn rfl rfl rfl (by decide +kernel) ⟨Nat.le_of_ble_eq_true rfl, Nat.le_of_ble_eq_true rfl⟩) rfl rfl rfl hl.1 rfl (Nat.le_of_ble_eq_true rfl) dL_does_102 ⟨Nat.zero_le _, Nat.zero_le _⟩) hD hS hA (fun u9 H locs hP hD hS => ?_)
        obtain ⟨u36, u37, u38, u39⟩ := u9
        have hP : va_P D vwCl (wXt cI cJ cC cG h9 hn ap u36 ht h0 u37 u38 pc u39 w35) H := hP
        have hD : va_D A (wXt cI cJ cC cG h9 hn ap u36 ht h0 u37 u38 pc u39 w35) := hD
        refine lv_iconst (v := 1) hx hb dL_does_105 (by decide) ?_
        refine lv_iload_n hx hb dL_does_106 rfl (lv_at hl 0 rfl) ?_
        refine lv_isub hx hb dL_does_107 ?_
        refine lv_icmp_ne (tgt := 139) hx hb dL_does_108 (by decide) (fun cc108 => ?_) (fun cc108 => ?_)
        · have hm := k_in cc108 hm
          refine lv_iconst (v := 0) hx hb dL_does_139 (by decide) ?_
          cases hm
          exact k_end_zE (u36, u37, u38, u39) false hx hb hr hlocks hK hP hD hS dL_does_140
        · have hm := k_ip cc108 hm
          refine lv_aload_n hx hb dL_does_111 rfl (lv_at hl 1 rfl) ?_
          obtain ⟨r40, hc112, hm⟩ := k_bds hm
          refine k_i_sE (k_rV (As := []) (rest := []) ⟨hx, hb, hml, hown, hts⟩ hK hN hP hD (zB_mover hc112) (cwV 0 hts gL_does_X9_mover rfl rfl rfl (by decide +kernel) ⟨Nat.le_of_ble_eq_true rfl, Nat.le_of_ble_eq_true rfl⟩) rfl rfl rfl hl.1 rfl (Nat.le_of_ble_eq_true rfl) dL_does_112 ⟨Nat.zero_le _, Nat.zero_le _⟩) hD hS hA (fun u9 H locs hP hD hS => ?_)
          obtain ⟨u41, u42, u43, u44⟩ := u9
          have hP : va_P D vwCl (wXt cI cJ cC cG h9 hn ap u41 ht h0 u42 u43 pc u44 w35) H := hP
          have hD : va_D A (wXt cI cJ cC cG h9 hn ap u41 ht h0 u42 u43 pc u44 w35) := hD
          refine lv_iconst (v := 1) hx hb dL_does_115 (by decide) ?_
          refine lv_iload_n hx hb dL_does_116 rfl (lv_at hl 0 rfl) ?_
          refine lv_isub hx hb dL_does_117 ?_
          refine lv_icmp_ne (tgt := 139) hx hb dL_does_118 (by decide) (fun cc118 => ?_) (fun cc118 => ?_)
          · have hm := k_in cc118 hm
            refine lv_iconst (v := 0) hx hb dL_does_139 (by decide) ?_
            cases hm
            exact k_end_zE (u41, u42, u43, u44) false hx hb hr hlocks hK hP hD hS dL_does_140
          · have hm := k_ip cc118 hm
            refine lv_aload_n hx hb dL_does_121 rfl (lv_at hl 1 rfl) ?_
            obtain ⟨r45, hc122, hm⟩ := k_bds hm
            refine k_i_sE (k_rV (As := []) (rest := []) ⟨hx, hb, hml, hown, hts⟩ hK hN hP hD (zB_phase hc122) (cwV 0 hts gL_does_X9_phase rfl rfl rfl (by decide +kernel) ⟨Nat.le_of_ble_eq_true rfl, Nat.le_of_ble_eq_true rfl⟩) rfl rfl rfl hl.1 rfl (Nat.le_of_ble_eq_true rfl) dL_does_122 ⟨Nat.zero_le _, Nat.zero_le _⟩) hD hS hA (fun u9 H locs hP hD hS => ?_)
            obtain ⟨u46, u47, u48, u49⟩ := u9
            have hP : va_P D vwCl (wXt cI cJ cC cG h9 hn ap u46 ht h0 u47 u48 pc u49 w35) H := hP
            have hD : va_D A (wXt cI cJ cC cG h9 hn ap u46 ht h0 u47 u48 pc u49 w35) := hD
            refine lv_if_ne (tgt := 139) hx hb dL_does_125 (by decide) (fun cc125 => ?_) (fun cc125 => ?_)
            · have hm := k_in cc125 hm
              refine lv_iconst (v := 0) hx hb dL_does_139 (by decide) ?_
              cases hm
              exact k_end_zE (u46, u47, u48, u49) false hx hb hr hlocks hK hP hD hS dL_does_140
            · have hm := k_ip cc125 hm
              refine lv_aload_n hx hb dL_does_128 rfl (lv_at hl 1 rfl) ?_
              obtain ⟨r50, hc129, hm⟩ := k_bds hm
              refine k_i_sE (k_rV (As := []) (rest := []) ⟨hx, hb, hml, hown, hts⟩ hK hN hP hD (zB_diceLeft hc129) (cwV 0 hts gL_does_X9_diceLeft rfl rfl rfl (by decide +kernel) ⟨Nat.le_of_ble_eq_true rfl, Nat.le_of_ble_eq_true rfl⟩) rfl rfl rfl hl.1 rfl (Nat.le_of_ble_eq_true rfl) dL_does_129 ⟨Nat.zero_le _, Nat.zero_le _⟩) hD hS hA (fun u9 H locs hP hD hS => ?_)
              obtain ⟨u51, u52, u53, u54⟩ := u9
              have hP : va_P D vwCl (wXt cI cJ cC cG h9 hn ap u51 ht h0 u52 u53 pc u54 w35) H := hP
              have hD : va_D A (wXt cI cJ cC cG h9 hn ap u51 ht h0 u52 u53 pc u54 w35) := hD
              refine lv_if_ne (tgt := 139) hx hb dL_does_132 (by decide) (fun cc132 => ?_) (fun cc132 => ?_)
              · have hm := k_in cc132 hm
                refine lv_iconst (v := 0) hx hb dL_does_139 (by decide) ?_
                cases hm
                exact k_end_zE (u51, u52, u53, u54) false hx hb hr hlocks hK hP hD hS dL_does_140
              · have hm := k_ip cc132 hm
                refine lv_iconst (v := 1) hx hb dL_does_135 (by decide) ?_
                refine lv_goto (tgt := 140) hx hb dL_does_136 (by decide) ?_
                cases hm
                exact k_end_zE (u51, u52, u53, u54) true hx hb hr hlocks hK hP hD hS dL_does_140
      · have hm := k_in cc90 hm
        refine lv_aload_n hx hb dL_does_93 rfl (lv_at hl 1 rfl) ?_
        refine lv_iload_n hx hb dL_does_94 rfl (lv_at hl 3 rfl) ?_
        obtain ⟨r55, w56, hc95, hm⟩ := k_bd2s hm
        refine k_i_sE (k_rS (As := [.ref h9, .int a2]) (rest := []) ⟨hx, hb, hml, hown, hts⟩ hK hN hP hD (zL_isStepped hc95) (va_cwS 2 hts gL_does_L_isStepped rfl rfl rfl (by decide +kernel) ⟨Nat.le_of_ble_eq_true rfl, Nat.le_of_ble_eq_true rfl⟩) rfl hl.1 rfl (Nat.le_of_ble_eq_true rfl) dL_does_95 ⟨Nat.zero_le _, Nat.zero_le _⟩) hD hS hA (fun u9 H locs hP hD hS => ?_)
        obtain ⟨u57, u58, u59, u60⟩ := u9
        have hP : va_P D vwCl (wXt cI cJ cC cG h9 hn ap u57 ht h0 u58 u59 pc u60 w56) H := hP
        have hD : va_D A (wXt cI cJ cC cG h9 hn ap u57 ht h0 u58 u59 pc u60 w56) := hD
        refine lv_goto (tgt := 140) hx hb dL_does_98 (by decide) ?_
        cases hm
        exact k_end_zE (u57, u58, u59, u60) _ hx hb hr hlocks hK hP hD hS dL_does_140
    · have hm := k_in cs4_1 hm
      by_cases cs4_2 : r7 = 2
      · have hm := k_ip cs4_2 hm
        refine lv_tableIn (off := 137) (tgt := 141) hx hb dL_does_4 (by rw [cs4_2]; decide +kernel) (by rw [cs4_2]; decide +kernel) (by rw [cs4_2]; decide +kernel) (by decide) ?_
        refine lv_iconst (v := 0) hx hb dL_does_141 (by decide) ?_
        cases hm
        exact k_end_zE (u8, u9, u10, u11) false hx hb hr hlocks hK hP hD hS dL_does_142
      · have hm := k_in cs4_2 hm
        refine k_tabD (tgt := 143) [0, 1, 2] hx hb dL_does_4 (by decide) (by decide +kernel) (by decide +kernel) (by intro k hk; simp only [List.mem_cons, List.not_mem_nil, or_false] at hk; rcases hk with rfl | rfl | rfl <;> assumption) ?_
        refine lv_aload_n hx hb dL_does_143 rfl (lv_at hl 0 rfl) ?_
        obtain ⟨r61, w62, hc144, hm⟩ := k_bd2s hm
        refine k_i_sE (k_rS (As := [.ref h9]) (rest := []) ⟨hx, hb, hml, hown, hts⟩ hK hN hP hD (zL_isAnew hc144) (va_cwS 1 hts gL_does_L_isAnew rfl rfl rfl (by decide +kernel) ⟨Nat.le_of_ble_eq_true rfl, Nat.le_of_ble_eq_true rfl⟩) rfl hl.1 rfl (Nat.le_of_ble_eq_true rfl) dL_does_144 ⟨Nat.zero_le _, Nat.zero_le _⟩) hD hS hA (fun u9 H locs hP hD hS => ?_)
        obtain ⟨u63, u64, u65, u66⟩ := u9
        have hP : va_P D vwCl (wXt cI cJ cC cG h9 hn ap u63 ht h0 u64 u65 pc u66 w62) H := hP
        have hD : va_D A (wXt cI cJ cC cG h9 hn ap u63 ht h0 u64 u65 pc u66 w62) := hD
        cases hm
        exact k_end_zE (u63, u64, u65, u66) _ hx hb hr hlocks hK hP hD hS dL_does_147

abbrev rmL_isPlayerSo : Room := { frames := 3, cells := 0, slots := 0, locals := 67 }
set_option maxHeartbeats 4000000 in
set_option maxRecDepth 100000 in
theorem zL_isPlayerSo {l : Launch} {D : va_G} {cI cJ cC cG : ClassId} {sz : Nat} {h9 hn h0 : Nat} {ap q ht pa pb pc : Nat → Nat} {jk : JT} {x : XT} {a1 : Int32} {r : Bool} (hm : mL_isPlayerSo x a1 = some (r)) : k_MiE l yL_isPlayerSo wsL_isPlayerSo rmL_isPlayerSo D (kT cI cJ cC cG) sz ([.ref h9, .int a1] : List Value) (wXt cI cJ cC cG h9 hn ap q ht h0 pa pb pc jk x) (fun u : (Nat → Nat) × (Nat → Nat) × (Nat → Nat) × (JT) => (wXt cI cJ cC cG h9 hn ap (u.1) ht h0 (u.2.1) (u.2.2.1) pc (u.2.2.2) x)) (k_b r) := by
  refine k_st_iE (cc := cL_isPlayerSo) (maxL := 10) (by decide) rfl (Nat.le_of_ble_eq_true rfl) ?_
  intro p e z m below meth c A hx hb hr hml hts hown hlocks hsz hN hA hK hP hD hS ls hl
  have hown : z.vm.findClass RL = some m.cls := hown
  have hl : lv_has ls 10 [(0, .ref h9), (1, .int a1)] := hl
  have J_158 := k_loop (z := fun _ _ _ _ _ _ _ => none) (st := mL_isPlayerSo_158 x a1) (fun k158 : (Int32) → (Int32) → (Int32) → (Int32) → (Bool) → (Int32) → (Int32) → Option (Bool) => ∀ (q : Nat → Nat) (pa : Nat → Nat) (pb : Nat → Nat) (jk : JT) (l2 : Int32) (l3 : Int32) (l4 : Int32) (l5 : Int32) (l7 : Bool) (l8 : Int32) (l9 : Int32) (H : Heap) (locs : List Loc), va_P D vwCl (wXt cI cJ cC cG h9 hn ap q ht h0 pa pb pc jk x) H → va_D A (wXt cI cJ cC cG h9 hn ap q ht h0 pa pb pc jk x) → va_S A z.heap H locs → ∀ ls : Array Slot, lv_has ls 10 [(0, .ref h9), (1, .int a1), (2, .int l2), (3, .int l3), (4, .int l4), (5, .int l5), (7, .int (k_b l7)), (8, .int l8), (9, .int l9)] → k158 l2 l3 l4 l5 l7 l8 l9 = some (r) → W p l e rmL_isPlayerSo z m ([.ref h9, .int a1] : List Value).toArray below meth c H locs 0 0 (k_QiE below ([.ref h9, .int a1] : List Value) D (kT cI cJ cC cG) z A (fun u : (Nat → Nat) × (Nat → Nat) × (Nat → Nat) × (JT) => (wXt cI cJ cC cG h9 hn ap (u.1) ht h0 (u.2.1) (u.2.2.1) pc (u.2.2.2) x)) (k_b r)) (F0 m 158 ls [])) (by intros; rename_i h; cases h) (by
    intro k158 ih158
    intro q pa pb jk l2 l3 l4 l5 l7 l8 l9 H locs hP hD hS ls hl hm
    unfold mL_isPlayerSo_158 at hm
    refine lv_iload hx hb dL_isPlayerSo_158 (lv_at hl 8 rfl) ?_
    refine lv_bipush (v := 7) hx hb dL_isPlayerSo_160 (by decide) ?_
    refine lv_icmp_ge (tgt := 199) hx hb dL_isPlayerSo_162 (by decide) (fun cc162 => ?_) (fun cc162 => ?_)
    · have hm := k_ip cc162 hm
      refine lv_iload hx hb dL_isPlayerSo_199 (lv_at hl 6 rfl) ?_
      refine lv_if_eq (tgt := 259) hx hb dL_isPlayerSo_201 (by decide) (fun cc201 => ?_) (fun cc201 => ?_)
      · have hm := k_ip cc201 hm
        refine lv_iconst (v := 0) hx hb dL_isPlayerSo_259 (by decide) ?_
        cases hm
        exact k_end_zE (q, pa, pb, jk) false hx hb hr hlocks hK hP hD hS dL_isPlayerSo_260
      · have hm := k_in cc201 hm
        refine lv_iload_n hx hb dL_isPlayerSo_204 rfl (lv_at hl 2 rfl) ?_
        refine lv_bipush (v := 6) hx hb dL_isPlayerSo_205 (by decide) ?_
        refine lv_icmp_ne (tgt := 259) hx hb dL_isPlayerSo_207 (by decide) (fun cc207 => ?_) (fun cc207 => ?_)
        · have hm := k_in cc207 hm
          refine lv_iconst (v := 0) hx hb dL_isPlayerSo_259 (by decide) ?_
          cases hm
          exact k_end_zE (q, pa, pb, jk) false hx hb hr hlocks hK hP hD hS dL_isPlayerSo_260
        · have hm := k_ip cc207 hm
          refine lv_aload_n hx hb dL_isPlayerSo_210 rfl (lv_at hl 0 rfl) ?_
          refine lv_iload_n hx hb dL_isPlayerSo_211 rfl (lv_at hl 1 rfl) ?_
          obtain ⟨r1, hc212, hm⟩ := k_bds hm
          refine k_i_sE (k_rV (As := [.int a1]) (rest := []) ⟨hx, hb, hml, hown, hts⟩ hK hN hP hD (zB_pips hc212) (cwV 1 hts gL_isPlayerSo_X9_pips rfl rfl rfl (by decide +kernel) ⟨Nat.le_of_ble_eq_true rfl, Nat.le_of_ble_eq_true rfl⟩) rfl rfl rfl hl.1 rfl (Nat.le_of_ble_eq_true rfl) dL_isPlayerSo_212 ⟨Nat.zero_le _, Nat.zero_le _⟩) hD hS hA (fun u9 H locs hP hD hS => ?_)
          obtain ⟨u2, u3, u4, u5⟩ := u9
          have hP : va_P D vwCl (wXt cI cJ cC cG h9 hn ap u2 ht h0 u3 u4 pc u5 x) H := hP
          have hD : va_D A (wXt cI cJ cC cG h9 hn ap u2 ht h0 u3 u4 pc u5 x) := hD
          refine lv_iload_n hx hb dL_isPlayerSo_215 rfl (lv_at hl 3 rfl) ?_
          refine lv_icmp_ne (tgt := 259) hx hb dL_isPlayerSo_216 (by decide) (fun cc216 => ?_) (fun cc216 => ?_)
          · have hm := k_in cc216 hm
            refine lv_iconst (v := 0) hx hb dL_isPlayerSo_259 (by decide) ?_
            cases hm
            exact k_end_zE (u2, u3, u4, u5) false hx hb hr hlocks hK hP hD hS dL_isPlayerSo_260
          · have hm := k_ip cc216 hm
            refine lv_aload_n hx hb dL_isPlayerSo_219 rfl (lv_at hl 0 rfl) ?_
            refine lv_iload_n hx hb dL_isPlayerSo_220 rfl (lv_at hl 1 rfl) ?_
            obtain ⟨r6, hc221, hm⟩ := k_bds hm
            refine k_i_sE (k_rV (As := [.int a1]) (rest := []) ⟨hx, hb, hml, hown, hts⟩ hK hN hP hD (zB_blots hc221) (cwV 1 hts gL_isPlayerSo_X9_blots rfl rfl rfl (by decide +kernel) ⟨Nat.le_of_ble_eq_true rfl, Nat.le_of_ble_eq_true rfl⟩) rfl rfl rfl hl.1 rfl (Nat.le_of_ble_eq_true rfl) dL_isPlayerSo_221 ⟨Nat.zero_le _, Nat.zero_le _⟩) hD hS hA (fun u9 H locs hP hD hS => ?_)
            obtain ⟨u7, u8, u9, u10⟩ := u9
            have hP : va_P D vwCl (wXt cI cJ cC cG h9 hn ap u7 ht h0 u8 u9 pc u10 x) H := hP
            have hD : va_D A (wXt cI cJ cC cG h9 hn ap u7 ht h0 u8 u9 pc u10 x) := hD
            refine lv_iload hx hb dL_isPlayerSo_224 (lv_at hl 4 rfl) ?_
            refine lv_icmp_ne (tgt := 259) hx hb dL_isPlayerSo_226 (by decide) (fun cc226 => ?_) (fun cc226 => ?_)
            · have hm := k_in cc226 hm
              refine lv_iconst (v := 0) hx hb dL_isPlayerSo_259 (by decide) ?_
              cases hm
              exact k_end_zE (u7, u8, u9, u10) false hx hb hr hlocks hK hP hD hS dL_isPlayerSo_260
            · have hm := k_ip cc226 hm
              refine lv_aload_n hx hb dL_isPlayerSo_229 rfl (lv_at hl 0 rfl) ?_
              refine lv_iload_n hx hb dL_isPlayerSo_230 rfl (lv_at hl 1 rfl) ?_
              obtain ⟨r11, hc231, hm⟩ := k_bds hm
              refine k_i_sE (k_rV (As := [.int a1]) (rest := []) ⟨hx, hb, hml, hown, hts⟩ hK hN hP hD (zB_blockade hc231) (cwV 1 hts gL_isPlayerSo_X9_blockade rfl rfl rfl (by decide +kernel) ⟨Nat.le_of_ble_eq_true rfl, Nat.le_of_ble_eq_true rfl⟩) rfl rfl rfl hl.1 rfl (Nat.le_of_ble_eq_true rfl) dL_isPlayerSo_231 ⟨Nat.zero_le _, Nat.zero_le _⟩) hD hS hA (fun u9 H locs hP hD hS => ?_)
              obtain ⟨u12, u13, u14, u15⟩ := u9
              have hP : va_P D vwCl (wXt cI cJ cC cG h9 hn ap u12 ht h0 u13 u14 pc u15 x) H := hP
              have hD : va_D A (wXt cI cJ cC cG h9 hn ap u12 ht h0 u13 u14 pc u15 x) := hD
              refine lv_iload hx hb dL_isPlayerSo_234 (lv_at hl 5 rfl) ?_
              refine lv_icmp_ne (tgt := 259) hx hb dL_isPlayerSo_236 (by decide) (fun cc236 => ?_) (fun cc236 => ?_)
              · have hm := k_in cc236 hm
                refine lv_iconst (v := 0) hx hb dL_isPlayerSo_259 (by decide) ?_
                cases hm
                exact k_end_zE (u12, u13, u14, u15) false hx hb hr hlocks hK hP hD hS dL_isPlayerSo_260
              · have hm := k_ip cc236 hm
                refine lv_aload_n hx hb dL_isPlayerSo_239 rfl (lv_at hl 0 rfl) ?_
                refine lv_iload_n hx hb dL_isPlayerSo_240 rfl (lv_at hl 1 rfl) ?_
                obtain ⟨r16, hc241, hm⟩ := k_bds hm
                refine k_i_sE (k_rV (As := [.int a1]) (rest := []) ⟨hx, hb, hml, hown, hts⟩ hK hN hP hD (zB_entering hc241) (cwV 1 hts gL_isPlayerSo_X9_entering rfl rfl rfl (by decide +kernel) ⟨Nat.le_of_ble_eq_true rfl, Nat.le_of_ble_eq_true rfl⟩) rfl rfl rfl hl.1 rfl (Nat.le_of_ble_eq_true rfl) dL_isPlayerSo_241 ⟨Nat.zero_le _, Nat.zero_le _⟩) hD hS hA (fun u9 H locs hP hD hS => ?_)
                obtain ⟨u17, u18, u19, u20⟩ := u9
                have hP : va_P D vwCl (wXt cI cJ cC cG h9 hn ap u17 ht h0 u18 u19 pc u20 x) H := hP
                have hD : va_D A (wXt cI cJ cC cG h9 hn ap u17 ht h0 u18 u19 pc u20 x) := hD
                refine lv_bipush (v := 36) hx hb dL_isPlayerSo_244 (by decide) ?_
                refine lv_iload hx hb dL_isPlayerSo_246 (lv_at hl 7 rfl) ?_
                refine lv_iload hx hb dL_isPlayerSo_248 (lv_at hl 7 rfl) ?_
                refine lv_imul hx hb dL_isPlayerSo_250 ?_
                refine lv_isub hx hb dL_isPlayerSo_251 ?_
                refine lv_icmp_ne (tgt := 259) hx hb dL_isPlayerSo_252 (by decide) (fun cc252 => ?_) (fun cc252 => ?_)
                · have hm := k_in cc252 hm
                  refine lv_iconst (v := 0) hx hb dL_isPlayerSo_259 (by decide) ?_
                  cases hm
                  exact k_end_zE (u17, u18, u19, u20) false hx hb hr hlocks hK hP hD hS dL_isPlayerSo_260
                · have hm := k_ip cc252 hm
                  refine lv_iconst (v := 1) hx hb dL_isPlayerSo_255 (by decide) ?_
                  refine lv_goto (tgt := 260) hx hb dL_isPlayerSo_256 (by decide) ?_
                  cases hm
                  exact k_end_zE (u17, u18, u19, u20) true hx hb hr hlocks hK hP hD hS dL_isPlayerSo_260
    · have hm := k_in cc162 hm
      refine lv_iload hx hb dL_isPlayerSo_165 (lv_at hl 7 rfl) ?_
      refine lv_aload_n hx hb dL_isPlayerSo_167 rfl (lv_at hl 0 rfl) ?_
      refine lv_iconst (v := 1) hx hb dL_isPlayerSo_168 (by decide) ?_
      refine lv_iload_n hx hb dL_isPlayerSo_169 rfl (lv_at hl 1 rfl) ?_
      refine lv_isub hx hb dL_isPlayerSo_170 ?_
      refine lv_iload_n hx hb dL_isPlayerSo_171 rfl (lv_at hl 1 rfl) ?_
      refine lv_iconst (v := (-1)) hx hb dL_isPlayerSo_172 (by decide) ?_
      refine lv_iload hx hb dL_isPlayerSo_173 (lv_at hl 8 rfl) ?_
      obtain ⟨r21, hc175, hm⟩ := k_bds hm
      refine k_i_0 (k_rS (As := [.int a1, .int (-1), .int l9]) (rest := [.int (1 - a1), .ref h9, .int l8]) ⟨hx, hb, hml, hown, hts⟩ hK hN k_P0 (k_D0 (A := A)) (zL_target hc175) (va_cwS 3 hts gL_isPlayerSo_L_target rfl rfl rfl (by decide +kernel) ⟨Nat.le_of_ble_eq_true rfl, Nat.le_of_ble_eq_true rfl⟩) rfl hl.1 rfl (Nat.le_of_ble_eq_true rfl) dL_isPlayerSo_175 ⟨Nat.zero_le _, Nat.zero_le _⟩) hP hS hA (fun H locs hP hS => ?_)
      obtain ⟨r22, hc178, hm⟩ := k_bds hm
      refine k_i_sE (k_rV (As := [.int (1 - a1), .int r21]) (rest := [.int l8]) ⟨hx, hb, hml, hown, hts⟩ hK hN hP hD (zB_piecesOn hc178) (cwV 2 hts gL_isPlayerSo_X9_piecesOn rfl rfl rfl (by decide +kernel) ⟨Nat.le_of_ble_eq_true rfl, Nat.le_of_ble_eq_true rfl⟩) rfl rfl rfl hl.1 rfl (Nat.le_of_ble_eq_true rfl) dL_isPlayerSo_178 ⟨Nat.zero_le _, Nat.zero_le _⟩) hD hS hA (fun u9 H locs hP hD hS => ?_)
      obtain ⟨u23, u24, u25, u26⟩ := u9
      have hP : va_P D vwCl (wXt cI cJ cC cG h9 hn ap u23 ht h0 u24 u25 pc u26 x) H := hP
      have hD : va_D A (wXt cI cJ cC cG h9 hn ap u23 ht h0 u24 u25 pc u26 x) := hD
      refine lv_iconst (v := 1) hx hb dL_isPlayerSo_181 (by decide) ?_
      refine lv_icmp_le (tgt := 189) hx hb dL_isPlayerSo_182 (by decide) (fun cc182 => ?_) (fun cc182 => ?_)
      · have hm := k_ip cc182 hm
        refine lv_iconst (v := 0) hx hb dL_isPlayerSo_189 (by decide) ?_
        refine lv_iadd hx hb dL_isPlayerSo_190 ?_
        refine lv_istore (lv' := [(8, .int (l8 + 0)), (0, .ref h9), (1, .int a1), (2, .int l2), (3, .int l3), (4, .int l4), (5, .int l5), (7, .int (k_b l7)), (9, .int l9)]) hx hb dL_isPlayerSo_191 hl (by decide) rfl (fun ls hl => ?_)
        refine lv_iinc (v := (l9 + 1)) (lv' := [(9, .int (l9 + 1)), (8, .int (l8 + 0)), (0, .ref h9), (1, .int a1), (2, .int l2), (3, .int l3), (4, .int l4), (5, .int l5), (7, .int (k_b l7))]) hx hb dL_isPlayerSo_193 hl (k := 8) rfl rfl (by decide) rfl (fun ls hl => ?_)
        refine lv_goto (tgt := 158) hx hb dL_isPlayerSo_196 (by decide) ?_
        exact ih158 u23 u24 u25 u26 l2 l3 l4 l5 l7 (l8 + 0) (l9 + 1) _ _ hP hD hS _ (lv_sub hl [2, 3, 4, 5, 6, 7, 8, 1, 0] rfl) hm
      · have hm := k_in cc182 hm
        refine lv_iconst (v := 1) hx hb dL_isPlayerSo_185 (by decide) ?_
        refine lv_goto (tgt := 190) hx hb dL_isPlayerSo_186 (by decide) ?_
        refine lv_iadd hx hb dL_isPlayerSo_190 ?_
        refine lv_istore (lv' := [(8, .int (l8 + 1)), (0, .ref h9), (1, .int a1), (2, .int l2), (3, .int l3), (4, .int l4), (5, .int l5), (7, .int (k_b l7)), (9, .int l9)]) hx hb dL_isPlayerSo_191 hl (by decide) rfl (fun ls hl => ?_)
        refine lv_iinc (v := (l9 + 1)) (lv' := [(9, .int (l9 + 1)), (8, .int (l8 + 1)), (0, .ref h9), (1, .int a1), (2, .int l2), (3, .int l3), (4, .int l4), (5, .int l5), (7, .int (k_b l7))]) hx hb dL_isPlayerSo_193 hl (k := 8) rfl rfl (by decide) rfl (fun ls hl => ?_)
        refine lv_goto (tgt := 158) hx hb dL_isPlayerSo_196 (by decide) ?_
        exact ih158 u23 u24 u25 u26 l2 l3 l4 l5 l7 (l8 + 1) (l9 + 1) _ _ hP hD hS _ (lv_sub hl [2, 3, 4, 5, 6, 7, 8, 1, 0] rfl) hm) k_F
  have J_36 := k_loop (z := fun _ _ _ _ _ _ _ => none) (st := mL_isPlayerSo_36 x a1) (fun k36 : (Int32) → (Int32) → (Int32) → (Int32) → (Int32) → (Bool) → (Int32) → Option (Bool) => ∀ (q : Nat → Nat) (pa : Nat → Nat) (pb : Nat → Nat) (jk : JT) (l2 : Int32) (l3 : Int32) (l4 : Int32) (l5 : Int32) (l6 : Int32) (l7 : Bool) (l8 : Int32) (H : Heap) (locs : List Loc), va_P D vwCl (wXt cI cJ cC cG h9 hn ap q ht h0 pa pb pc jk x) H → va_D A (wXt cI cJ cC cG h9 hn ap q ht h0 pa pb pc jk x) → va_S A z.heap H locs → ∀ ls : Array Slot, lv_has ls 10 [(0, .ref h9), (1, .int a1), (2, .int l2), (3, .int l3), (4, .int l4), (5, .int l5), (6, .int l6), (7, .int (k_b l7)), (8, .int l8)] → k36 l2 l3 l4 l5 l6 l7 l8 = some (r) → W p l e rmL_isPlayerSo z m ([.ref h9, .int a1] : List Value).toArray below meth c H locs 0 0 (k_QiE below ([.ref h9, .int a1] : List Value) D (kT cI cJ cC cG) z A (fun u : (Nat → Nat) × (Nat → Nat) × (Nat → Nat) × (JT) => (wXt cI cJ cC cG h9 hn ap (u.1) ht h0 (u.2.1) (u.2.2.1) pc (u.2.2.2) x)) (k_b r)) (F0 m 36 ls [])) (by intros; rename_i h; cases h) (by
    intro k36 ih36
    have J_115 : ∀ (q : Nat → Nat) (pa : Nat → Nat) (pb : Nat → Nat) (jk : JT) (t0 : Int32) (l2 : Int32) (l3 : Int32) (l4 : Int32) (l6 : Int32) (l7 : Bool) (l8 : Int32) (l9 : Int32) (H : Heap) (locs : List Loc), va_P D vwCl (wXt cI cJ cC cG h9 hn ap q ht h0 pa pb pc jk x) H → va_D A (wXt cI cJ cC cG h9 hn ap q ht h0 pa pb pc jk x) → va_S A z.heap H locs → ∀ ls : Array Slot, lv_has ls 10 [(0, .ref h9), (1, .int a1), (2, .int l2), (3, .int l3), (4, .int l4), (6, .int l6), (7, .int (k_b l7)), (8, .int l8), (9, .int l9)] → mL_isPlayerSo_115 x a1 k36 t0 l2 l3 l4 l6 l7 l8 l9 = some (r) → W p l e rmL_isPlayerSo z m ([.ref h9, .int a1] : List Value).toArray below meth c H locs 0 0 (k_QiE below ([.ref h9, .int a1] : List Value) D (kT cI cJ cC cG) z A (fun u : (Nat → Nat) × (Nat → Nat) × (Nat → Nat) × (JT) => (wXt cI cJ cC cG h9 hn ap (u.1) ht h0 (u.2.1) (u.2.2.1) pc (u.2.2.2) x)) (k_b r)) (F0 m 115 ls [.int t0]) := by
      intro q pa pb jk t0 l2 l3 l4 l6 l7 l8 l9 H locs hP hD hS ls hl hm
      unfold mL_isPlayerSo_115 at hm
      refine lv_istore (lv' := [(5, .int t0), (0, .ref h9), (1, .int a1), (2, .int l2), (3, .int l3), (4, .int l4), (6, .int l6), (7, .int (k_b l7)), (8, .int l8), (9, .int l9)]) hx hb dL_isPlayerSo_115 hl (by decide) rfl (fun ls hl => ?_)
      refine lv_iload hx hb dL_isPlayerSo_117 (lv_at hl 7 rfl) ?_
      refine lv_if_eq (tgt := 143) hx hb dL_isPlayerSo_119 (by decide) (fun cc119 => ?_) (fun cc119 => ?_)
      · have hm := k_ip cc119 hm
        refine lv_iconst (v := 0) hx hb dL_isPlayerSo_143 (by decide) ?_
        refine lv_istore (lv' := [(7, .int 0), (5, .int t0), (0, .ref h9), (1, .int a1), (2, .int l2), (3, .int l3), (4, .int l4), (6, .int l6), (8, .int l8), (9, .int l9)]) hx hb dL_isPlayerSo_144 hl (by decide) rfl (fun ls hl => ?_)
        refine lv_iinc (v := (l8 + 1)) (lv' := [(8, .int (l8 + 1)), (7, .int 0), (5, .int t0), (0, .ref h9), (1, .int a1), (2, .int l2), (3, .int l3), (4, .int l4), (6, .int l6), (9, .int l9)]) hx hb dL_isPlayerSo_146 hl (k := 8) rfl rfl (by decide) rfl (fun ls hl => ?_)
        refine lv_goto (tgt := 36) hx hb dL_isPlayerSo_149 (by decide) ?_
        exact ih36 q pa pb jk l2 l3 l4 t0 l6 false (l8 + 1) _ _ hP hD hS _ (lv_sub hl [3, 4, 5, 6, 7, 2, 8, 1, 0] rfl) hm
      · have hm := k_in cc119 hm
        refine lv_iload hx hb dL_isPlayerSo_122 (lv_at hl 9 rfl) ?_
        refine lv_if_eq (tgt := 139) hx hb dL_isPlayerSo_124 (by decide) (fun cc124 => ?_) (fun cc124 => ?_)
        · have hm := k_ip cc124 hm
          refine lv_iconst (v := 1) hx hb dL_isPlayerSo_139 (by decide) ?_
          refine lv_goto (tgt := 144) hx hb dL_isPlayerSo_140 (by decide) ?_
          refine lv_istore (lv' := [(7, .int 1), (5, .int t0), (0, .ref h9), (1, .int a1), (2, .int l2), (3, .int l3), (4, .int l4), (6, .int l6), (8, .int l8), (9, .int l9)]) hx hb dL_isPlayerSo_144 hl (by decide) rfl (fun ls hl => ?_)
          refine lv_iinc (v := (l8 + 1)) (lv' := [(8, .int (l8 + 1)), (7, .int 1), (5, .int t0), (0, .ref h9), (1, .int a1), (2, .int l2), (3, .int l3), (4, .int l4), (6, .int l6), (9, .int l9)]) hx hb dL_isPlayerSo_146 hl (k := 8) rfl rfl (by decide) rfl (fun ls hl => ?_)
          refine lv_goto (tgt := 36) hx hb dL_isPlayerSo_149 (by decide) ?_
          exact ih36 q pa pb jk l2 l3 l4 t0 l6 true (l8 + 1) _ _ hP hD hS _ (lv_sub hl [3, 4, 5, 6, 7, 2, 8, 1, 0] rfl) hm
        · have hm := k_in cc124 hm
          refine lv_aload_n hx hb dL_isPlayerSo_127 rfl (lv_at hl 1 rfl) ?_
          refine lv_iconst (v := 1) hx hb dL_isPlayerSo_128 (by decide) ?_
          refine lv_iload_n hx hb dL_isPlayerSo_129 rfl (lv_at hl 2 rfl) ?_
          refine lv_isub hx hb dL_isPlayerSo_130 ?_
          refine lv_iload hx hb dL_isPlayerSo_131 (lv_at hl 8 rfl) ?_
          obtain ⟨r27, hc133, hm⟩ := k_bds hm
          refine k_i_sE (k_rV (As := [.int (1 - a1), .int l8]) (rest := []) ⟨hx, hb, hml, hown, hts⟩ hK hN hP hD (zB_piecesOn hc133) (cwV 2 hts gL_isPlayerSo_X9_piecesOn rfl rfl rfl (by decide +kernel) ⟨Nat.le_of_ble_eq_true rfl, Nat.le_of_ble_eq_true rfl⟩) rfl rfl rfl hl.1 rfl (Nat.le_of_ble_eq_true rfl) dL_isPlayerSo_133 ⟨Nat.zero_le _, Nat.zero_le _⟩) hD hS hA (fun u9 H locs hP hD hS => ?_)
          obtain ⟨u28, u29, u30, u31⟩ := u9
          have hP : va_P D vwCl (wXt cI cJ cC cG h9 hn ap u28 ht h0 u29 u30 pc u31 x) H := hP
          have hD : va_D A (wXt cI cJ cC cG h9 hn ap u28 ht h0 u29 u30 pc u31 x) := hD
          refine lv_if_ne (tgt := 143) hx hb dL_isPlayerSo_136 (by decide) (fun cc136 => ?_) (fun cc136 => ?_)
          · have hm := k_in cc136 hm
            refine lv_iconst (v := 0) hx hb dL_isPlayerSo_143 (by decide) ?_
            refine lv_istore (lv' := [(7, .int 0), (5, .int t0), (0, .ref h9), (1, .int a1), (2, .int l2), (3, .int l3), (4, .int l4), (6, .int l6), (8, .int l8), (9, .int l9)]) hx hb dL_isPlayerSo_144 hl (by decide) rfl (fun ls hl => ?_)
            refine lv_iinc (v := (l8 + 1)) (lv' := [(8, .int (l8 + 1)), (7, .int 0), (5, .int t0), (0, .ref h9), (1, .int a1), (2, .int l2), (3, .int l3), (4, .int l4), (6, .int l6), (9, .int l9)]) hx hb dL_isPlayerSo_146 hl (k := 8) rfl rfl (by decide) rfl (fun ls hl => ?_)
            refine lv_goto (tgt := 36) hx hb dL_isPlayerSo_149 (by decide) ?_
            exact ih36 u28 u29 u30 u31 l2 l3 l4 t0 l6 false (l8 + 1) _ _ hP hD hS _ (lv_sub hl [3, 4, 5, 6, 7, 2, 8, 1, 0] rfl) hm
          · have hm := k_ip cc136 hm
            refine lv_iconst (v := 1) hx hb dL_isPlayerSo_139 (by decide) ?_
            refine lv_goto (tgt := 144) hx hb dL_isPlayerSo_140 (by decide) ?_
            refine lv_istore (lv' := [(7, .int 1), (5, .int t0), (0, .ref h9), (1, .int a1), (2, .int l2), (3, .int l3), (4, .int l4), (6, .int l6), (8, .int l8), (9, .int l9)]) hx hb dL_isPlayerSo_144 hl (by decide) rfl (fun ls hl => ?_)
            refine lv_iinc (v := (l8 + 1)) (lv' := [(8, .int (l8 + 1)), (7, .int 1), (5, .int t0), (0, .ref h9), (1, .int a1), (2, .int l2), (3, .int l3), (4, .int l4), (6, .int l6), (9, .int l9)]) hx hb dL_isPlayerSo_146 hl (k := 8) rfl rfl (by decide) rfl (fun ls hl => ?_)
            refine lv_goto (tgt := 36) hx hb dL_isPlayerSo_149 (by decide) ?_
            exact ih36 u28 u29 u30 u31 l2 l3 l4 t0 l6 true (l8 + 1) _ _ hP hD hS _ (lv_sub hl [3, 4, 5, 6, 7, 2, 8, 1, 0] rfl) hm
    have J_99 : ∀ (q : Nat → Nat) (pa : Nat → Nat) (pb : Nat → Nat) (jk : JT) (t0 : Int32) (l2 : Int32) (l3 : Int32) (l4 : Int32) (l5 : Int32) (l7 : Bool) (l8 : Int32) (l9 : Int32) (H : Heap) (locs : List Loc), va_P D vwCl (wXt cI cJ cC cG h9 hn ap q ht h0 pa pb pc jk x) H → va_D A (wXt cI cJ cC cG h9 hn ap q ht h0 pa pb pc jk x) → va_S A z.heap H locs → ∀ ls : Array Slot, lv_has ls 10 [(0, .ref h9), (1, .int a1), (2, .int l2), (3, .int l3), (4, .int l4), (5, .int l5), (7, .int (k_b l7)), (8, .int l8), (9, .int l9)] → mL_isPlayerSo_99 x a1 k36 t0 l2 l3 l4 l5 l7 l8 l9 = some (r) → W p l e rmL_isPlayerSo z m ([.ref h9, .int a1] : List Value).toArray below meth c H locs 0 0 (k_QiE below ([.ref h9, .int a1] : List Value) D (kT cI cJ cC cG) z A (fun u : (Nat → Nat) × (Nat → Nat) × (Nat → Nat) × (JT) => (wXt cI cJ cC cG h9 hn ap (u.1) ht h0 (u.2.1) (u.2.2.1) pc (u.2.2.2) x)) (k_b r)) (F0 m 99 ls [.int t0]) := by
      intro q pa pb jk t0 l2 l3 l4 l5 l7 l8 l9 H locs hP hD hS ls hl hm
      unfold mL_isPlayerSo_99 at hm
      refine lv_istore (lv' := [(6, .int t0), (0, .ref h9), (1, .int a1), (2, .int l2), (3, .int l3), (4, .int l4), (5, .int l5), (7, .int (k_b l7)), (8, .int l8), (9, .int l9)]) hx hb dL_isPlayerSo_99 hl (by decide) rfl (fun ls hl => ?_)
      refine lv_iload hx hb dL_isPlayerSo_101 (lv_at hl 0 rfl) ?_
      refine lv_iload hx hb dL_isPlayerSo_103 (lv_at hl 6 rfl) ?_
      refine lv_icmp_le (tgt := 113) hx hb dL_isPlayerSo_105 (by decide) (fun cc105 => ?_) (fun cc105 => ?_)
      · have hm := k_ip cc105 hm
        refine lv_iload hx hb dL_isPlayerSo_113 (lv_at hl 6 rfl) ?_
        exact J_115 q pa pb jk l5 l2 l3 l4 t0 l7 l8 l9 _ _ hP hD hS _ (lv_sub hl [1, 2, 3, 4, 5, 0, 7, 8, 9] rfl) hm
      · have hm := k_in cc105 hm
        refine lv_iload hx hb dL_isPlayerSo_108 (lv_at hl 0 rfl) ?_
        refine lv_goto (tgt := 115) hx hb dL_isPlayerSo_110 (by decide) ?_
        exact J_115 q pa pb jk t0 l2 l3 l4 t0 l7 l8 l9 _ _ hP hD hS _ (lv_sub hl [1, 2, 3, 4, 5, 0, 7, 8, 9] rfl) hm
    have J_82 : ∀ (q : Nat → Nat) (pa : Nat → Nat) (pb : Nat → Nat) (jk : JT) (t0 : Bool) (t1 : Int32) (l2 : Int32) (l3 : Int32) (l5 : Int32) (l6 : Int32) (l7 : Bool) (l8 : Int32) (l9 : Int32) (H : Heap) (locs : List Loc), va_P D vwCl (wXt cI cJ cC cG h9 hn ap q ht h0 pa pb pc jk x) H → va_D A (wXt cI cJ cC cG h9 hn ap q ht h0 pa pb pc jk x) → va_S A z.heap H locs → ∀ ls : Array Slot, lv_has ls 10 [(0, .ref h9), (1, .int a1), (2, .int l2), (3, .int l3), (5, .int l5), (6, .int l6), (7, .int (k_b l7)), (8, .int l8), (9, .int l9)] → mL_isPlayerSo_82 x a1 k36 t0 t1 l2 l3 l5 l6 l7 l8 l9 = some (r) → W p l e rmL_isPlayerSo z m ([.ref h9, .int a1] : List Value).toArray below meth c H locs 0 0 (k_QiE below ([.ref h9, .int a1] : List Value) D (kT cI cJ cC cG) z A (fun u : (Nat → Nat) × (Nat → Nat) × (Nat → Nat) × (JT) => (wXt cI cJ cC cG h9 hn ap (u.1) ht h0 (u.2.1) (u.2.2.1) pc (u.2.2.2) x)) (k_b r)) (F0 m 82 ls [.int (k_b t0), .int t1]) := by
      intro q pa pb jk t0 t1 l2 l3 l5 l6 l7 l8 l9 H locs hP hD hS ls hl hm
      unfold mL_isPlayerSo_82 at hm
      refine lv_iadd hx hb dL_isPlayerSo_82 ?_
      refine lv_istore (lv' := [(4, .int (t1 + (k_b t0))), (0, .ref h9), (1, .int a1), (2, .int l2), (3, .int l3), (5, .int l5), (6, .int l6), (7, .int (k_b l7)), (8, .int l8), (9, .int l9)]) hx hb dL_isPlayerSo_83 hl (by decide) rfl (fun ls hl => ?_)
      refine lv_iload hx hb dL_isPlayerSo_85 (lv_at hl 9 rfl) ?_
      refine lv_iconst (v := 1) hx hb dL_isPlayerSo_87 (by decide) ?_
      refine lv_icmp_le (tgt := 98) hx hb dL_isPlayerSo_88 (by decide) (fun cc88 => ?_) (fun cc88 => ?_)
      · have hm := k_ip cc88 hm
        refine lv_iconst (v := 0) hx hb dL_isPlayerSo_98 (by decide) ?_
        exact J_99 q pa pb jk 0 l2 l3 (t1 + (k_b t0)) l5 l7 l8 l9 _ _ hP hD hS _ (lv_sub hl [1, 2, 3, 4, 0, 5, 7, 8, 9] rfl) hm
      · have hm := k_in cc88 hm
        refine lv_iload hx hb dL_isPlayerSo_91 (lv_at hl 6 rfl) ?_
        refine lv_iconst (v := 1) hx hb dL_isPlayerSo_93 (by decide) ?_
        refine lv_iadd hx hb dL_isPlayerSo_94 ?_
        refine lv_goto (tgt := 99) hx hb dL_isPlayerSo_95 (by decide) ?_
        exact J_99 q pa pb jk (l6 + 1) l2 l3 (t1 + (k_b t0)) l5 l7 l8 l9 _ _ hP hD hS _ (lv_sub hl [1, 2, 3, 4, 0, 5, 7, 8, 9] rfl) hm
    intro q pa pb jk l2 l3 l4 l5 l6 l7 l8 H locs hP hD hS ls hl hm
    unfold mL_isPlayerSo_36 at hm
    refine lv_iload hx hb dL_isPlayerSo_36 (lv_at hl 8 rfl) ?_
    refine lv_bipush (v := 16) hx hb dL_isPlayerSo_38 (by decide) ?_
    refine lv_icmp_ge (tgt := 152) hx hb dL_isPlayerSo_40 (by decide) (fun cc40 => ?_) (fun cc40 => ?_)
    · have hm := k_ip cc40 hm
      refine lv_iconst (v := 0) hx hb dL_isPlayerSo_152 (by decide) ?_
      refine lv_istore (lv' := [(8, .int 0), (0, .ref h9), (1, .int a1), (2, .int l2), (3, .int l3), (4, .int l4), (5, .int l5), (6, .int l6), (7, .int (k_b l7))]) hx hb dL_isPlayerSo_153 hl (by decide) rfl (fun ls hl => ?_)
      refine lv_iconst (v := 1) hx hb dL_isPlayerSo_155 (by decide) ?_
      refine lv_istore (lv' := [(9, .int 1), (8, .int 0), (0, .ref h9), (1, .int a1), (2, .int l2), (3, .int l3), (4, .int l4), (5, .int l5), (6, .int l6), (7, .int (k_b l7))]) hx hb dL_isPlayerSo_156 hl (by decide) rfl (fun ls hl => ?_)
      exact J_158 q pa pb jk l2 l3 l4 l5 l7 0 1 _ _ hP hD hS _ (lv_sub hl [2, 3, 4, 5, 6, 7, 9, 1, 0] rfl) hm
    · have hm := k_in cc40 hm
      refine lv_aload_n hx hb dL_isPlayerSo_43 rfl (lv_at hl 0 rfl) ?_
      refine lv_iload_n hx hb dL_isPlayerSo_44 rfl (lv_at hl 1 rfl) ?_
      refine lv_iload hx hb dL_isPlayerSo_45 (lv_at hl 8 rfl) ?_
      obtain ⟨r32, hc47, hm⟩ := k_bds hm
      refine k_i_sE (k_rV (As := [.int a1, .int l8]) (rest := []) ⟨hx, hb, hml, hown, hts⟩ hK hN hP hD (zB_piecesOn hc47) (cwV 2 hts gL_isPlayerSo_X9_piecesOn rfl rfl rfl (by decide +kernel) ⟨Nat.le_of_ble_eq_true rfl, Nat.le_of_ble_eq_true rfl⟩) rfl rfl rfl hl.1 rfl (Nat.le_of_ble_eq_true rfl) dL_isPlayerSo_47 ⟨Nat.zero_le _, Nat.zero_le _⟩) hD hS hA (fun u9 H locs hP hD hS => ?_)
      obtain ⟨u33, u34, u35, u36⟩ := u9
      have hP : va_P D vwCl (wXt cI cJ cC cG h9 hn ap u33 ht h0 u34 u35 pc u36 x) H := hP
      have hD : va_D A (wXt cI cJ cC cG h9 hn ap u33 ht h0 u34 u35 pc u36 x) := hD
      refine lv_istore (lv' := [(9, .int r32), (0, .ref h9), (1, .int a1), (2, .int l2), (3, .int l3), (4, .int l4), (5, .int l5), (6, .int l6), (7, .int (k_b l7)), (8, .int l8)]) hx hb dL_isPlayerSo_50 hl (by decide) rfl (fun ls hl => ?_)
      refine lv_iload_n hx hb dL_isPlayerSo_52 rfl (lv_at hl 3 rfl) ?_
      refine lv_iload hx hb dL_isPlayerSo_53 (lv_at hl 0 rfl) ?_
      refine lv_iadd hx hb dL_isPlayerSo_55 ?_
      refine lv_istore_n (lv' := [(2, .int (l2 + r32)), (9, .int r32), (0, .ref h9), (1, .int a1), (3, .int l3), (4, .int l4), (5, .int l5), (6, .int l6), (7, .int (k_b l7)), (8, .int l8)]) hx hb dL_isPlayerSo_56 rfl hl (by decide) rfl (fun ls hl => ?_)
      refine lv_iload_n hx hb dL_isPlayerSo_57 rfl (lv_at hl 4 rfl) ?_
      refine lv_iload hx hb dL_isPlayerSo_58 (lv_at hl 1 rfl) ?_
      refine lv_iload_n hx hb dL_isPlayerSo_60 rfl (lv_at hl 3 rfl) ?_
      refine lv_iload hx hb dL_isPlayerSo_61 (lv_at hl 9 rfl) ?_
      obtain ⟨r37, hc63, hm⟩ := k_bds hm
      refine k_i_0 (k_rS (As := [.int a1, .int l8]) (rest := [.int r32, .int l3]) ⟨hx, hb, hml, hown, hts⟩ hK hN k_P0 (k_D0 (A := A)) (zL_way hc63) (va_cwS 2 hts gL_isPlayerSo_L_way rfl rfl rfl (by decide +kernel) ⟨Nat.le_of_ble_eq_true rfl, Nat.le_of_ble_eq_true rfl⟩) rfl hl.1 rfl (Nat.le_of_ble_eq_true rfl) dL_isPlayerSo_63 ⟨Nat.zero_le _, Nat.zero_le _⟩) hP hS hA (fun H locs hP hS => ?_)
      refine lv_imul hx hb dL_isPlayerSo_66 ?_
      refine lv_iadd hx hb dL_isPlayerSo_67 ?_
      refine lv_istore_n (lv' := [(3, .int (l3 + (r32 * r37))), (2, .int (l2 + r32)), (9, .int r32), (0, .ref h9), (1, .int a1), (4, .int l4), (5, .int l5), (6, .int l6), (7, .int (k_b l7)), (8, .int l8)]) hx hb dL_isPlayerSo_68 rfl hl (by decide) rfl (fun ls hl => ?_)
      refine lv_iload hx hb dL_isPlayerSo_69 (lv_at hl 5 rfl) ?_
      refine lv_iload hx hb dL_isPlayerSo_71 (lv_at hl 2 rfl) ?_
      refine lv_iconst (v := 1) hx hb dL_isPlayerSo_73 (by decide) ?_
      refine lv_icmp_ne (tgt := 81) hx hb dL_isPlayerSo_74 (by decide) (fun cc74 => ?_) (fun cc74 => ?_)
      · have hm := k_in cc74 hm
        refine lv_iconst (v := 0) hx hb dL_isPlayerSo_81 (by decide) ?_
        exact J_82 u33 u34 u35 u36 false l4 (l2 + r32) (l3 + (r32 * r37)) l5 l6 l7 l8 r32 _ _ hP hD hS _ (lv_sub hl [3, 4, 1, 0, 6, 7, 8, 9, 2] rfl) hm
      · have hm := k_ip cc74 hm
        refine lv_iconst (v := 1) hx hb dL_isPlayerSo_77 (by decide) ?_
        refine lv_goto (tgt := 82) hx hb dL_isPlayerSo_78 (by decide) ?_
        exact J_82 u33 u34 u35 u36 true l4 (l2 + r32) (l3 + (r32 * r37)) l5 l6 l7 l8 r32 _ _ hP hD hS _ (lv_sub hl [3, 4, 1, 0, 6, 7, 8, 9, 2] rfl) hm) k_F
  unfold mL_isPlayerSo at hm
  refine lv_aload_n hx hb dL_isPlayerSo_0 rfl (lv_at hl 0 rfl) ?_
  refine lv_iload_n hx hb dL_isPlayerSo_1 rfl (lv_at hl 1 rfl) ?_
  obtain ⟨r38, hc2, hm⟩ := k_bds hm
  refine k_i_sE (k_rV (As := [.int a1]) (rest := []) ⟨hx, hb, hml, hown, hts⟩ hK hN hP hD (zB_onBar hc2) (cwV 1 hts gL_isPlayerSo_X9_onBar rfl rfl rfl (by decide +kernel) ⟨Nat.le_of_ble_eq_true rfl, Nat.le_of_ble_eq_true rfl⟩) rfl rfl rfl hl.1 rfl (Nat.le_of_ble_eq_true rfl) dL_isPlayerSo_2 ⟨Nat.zero_le _, Nat.zero_le _⟩) hD hS hA (fun u9 H locs hP hD hS => ?_)
  obtain ⟨u39, u40, u41, u42⟩ := u9
  have hP : va_P D vwCl (wXt cI cJ cC cG h9 hn ap u39 ht h0 u40 u41 pc u42 x) H := hP
  have hD : va_D A (wXt cI cJ cC cG h9 hn ap u39 ht h0 u40 u41 pc u42 x) := hD
  refine lv_aload_n hx hb dL_isPlayerSo_5 rfl (lv_at hl 0 rfl) ?_
  refine lv_iload_n hx hb dL_isPlayerSo_6 rfl (lv_at hl 1 rfl) ?_
  obtain ⟨r43, hc7, hm⟩ := k_bds hm
  refine k_i_sE (k_rV (As := [.int a1]) (rest := [.int r38]) ⟨hx, hb, hml, hown, hts⟩ hK hN hP hD (zB_borneOff hc7) (cwV 1 hts gL_isPlayerSo_X9_borneOff rfl rfl rfl (by decide +kernel) ⟨Nat.le_of_ble_eq_true rfl, Nat.le_of_ble_eq_true rfl⟩) rfl rfl rfl hl.1 rfl (Nat.le_of_ble_eq_true rfl) dL_isPlayerSo_7 ⟨Nat.zero_le _, Nat.zero_le _⟩) hD hS hA (fun u9 H locs hP hD hS => ?_)
  obtain ⟨u44, u45, u46, u47⟩ := u9
  have hP : va_P D vwCl (wXt cI cJ cC cG h9 hn ap u44 ht h0 u45 u46 pc u47 x) H := hP
  have hD : va_D A (wXt cI cJ cC cG h9 hn ap u44 ht h0 u45 u46 pc u47 x) := hD
  refine lv_iadd hx hb dL_isPlayerSo_10 ?_
  refine lv_istore_n (lv' := [(2, .int (r38 + r43)), (0, .ref h9), (1, .int a1)]) hx hb dL_isPlayerSo_11 rfl hl (by decide) rfl (fun ls hl => ?_)
  refine lv_bipush (v := 17) hx hb dL_isPlayerSo_12 (by decide) ?_
  refine lv_aload_n hx hb dL_isPlayerSo_14 rfl (lv_at hl 1 rfl) ?_
  refine lv_iload_n hx hb dL_isPlayerSo_15 rfl (lv_at hl 2 rfl) ?_
  obtain ⟨r48, hc16, hm⟩ := k_bds hm
  refine k_i_sE (k_rV (As := [.int a1]) (rest := [.int 17]) ⟨hx, hb, hml, hown, hts⟩ hK hN hP hD (zB_onBar hc16) (cwV 1 hts gL_isPlayerSo_X9_onBar rfl rfl rfl (by decide +kernel) ⟨Nat.le_of_ble_eq_true rfl, Nat.le_of_ble_eq_true rfl⟩) rfl rfl rfl hl.1 rfl (Nat.le_of_ble_eq_true rfl) dL_isPlayerSo_16 ⟨Nat.zero_le _, Nat.zero_le _⟩) hD hS hA (fun u9 H locs hP hD hS => ?_)
  obtain ⟨u49, u50, u51, u52⟩ := u9
  have hP : va_P D vwCl (wXt cI cJ cC cG h9 hn ap u49 ht h0 u50 u51 pc u52 x) H := hP
  have hD : va_D A (wXt cI cJ cC cG h9 hn ap u49 ht h0 u50 u51 pc u52 x) := hD
  refine lv_imul hx hb dL_isPlayerSo_19 ?_
  refine lv_istore_n (lv' := [(3, .int (17 * r48)), (2, .int (r38 + r43)), (0, .ref h9), (1, .int a1)]) hx hb dL_isPlayerSo_20 rfl hl (by decide) rfl (fun ls hl => ?_)
  refine lv_iconst (v := 0) hx hb dL_isPlayerSo_21 (by decide) ?_
  refine lv_istore (lv' := [(4, .int 0), (3, .int (17 * r48)), (2, .int (r38 + r43)), (0, .ref h9), (1, .int a1)]) hx hb dL_isPlayerSo_22 hl (by decide) rfl (fun ls hl => ?_)
  refine lv_iconst (v := 0) hx hb dL_isPlayerSo_24 (by decide) ?_
  refine lv_istore (lv' := [(5, .int 0), (4, .int 0), (3, .int (17 * r48)), (2, .int (r38 + r43)), (0, .ref h9), (1, .int a1)]) hx hb dL_isPlayerSo_25 hl (by decide) rfl (fun ls hl => ?_)
  refine lv_iconst (v := 0) hx hb dL_isPlayerSo_27 (by decide) ?_
  refine lv_istore (lv' := [(6, .int 0), (5, .int 0), (4, .int 0), (3, .int (17 * r48)), (2, .int (r38 + r43)), (0, .ref h9), (1, .int a1)]) hx hb dL_isPlayerSo_28 hl (by decide) rfl (fun ls hl => ?_)
  refine lv_iconst (v := 1) hx hb dL_isPlayerSo_30 (by decide) ?_
  refine lv_istore (lv' := [(7, .int 1), (6, .int 0), (5, .int 0), (4, .int 0), (3, .int (17 * r48)), (2, .int (r38 + r43)), (0, .ref h9), (1, .int a1)]) hx hb dL_isPlayerSo_31 hl (by decide) rfl (fun ls hl => ?_)
  refine lv_iconst (v := 0) hx hb dL_isPlayerSo_33 (by decide) ?_
  refine lv_istore (lv' := [(8, .int 0), (7, .int 1), (6, .int 0), (5, .int 0), (4, .int 0), (3, .int (17 * r48)), (2, .int (r38 + r43)), (0, .ref h9), (1, .int a1)]) hx hb dL_isPlayerSo_34 hl (by decide) rfl (fun ls hl => ?_)
  exact J_36 u49 u50 u51 u52 (r38 + r43) (17 * r48) 0 0 0 true 0 _ _ hP hD hS _ (lv_sub hl [7, 8, 6, 5, 4, 3, 2, 1, 0] rfl) hm

abbrev rmL_areLooksSo : Room := { frames := 16, cells := 0, slots := 0, locals := 549 }
set_option maxHeartbeats 4000000 in
set_option maxRecDepth 100000 in
theorem zL_areLooksSo {l : Launch} {D : va_G} {cI cJ cC cG : ClassId} {sz : Nat} {h9 hn h0 : Nat} {ap q ht pa pb pc : Nat → Nat} {jk : JT} {x : XT} {a1 : Int32} {r : Bool} (hm : mL_areLooksSo x a1 = some (r)) : k_MiE l yL_areLooksSo wsL_areLooksSo rmL_areLooksSo D (kT cI cJ cC cG) sz ([.ref h9, .int a1] : List Value) (wXt cI cJ cC cG h9 hn ap q ht h0 pa pb pc jk x) (fun u : (Nat → Nat) × (Nat → Nat) × (Nat → Nat) × (JT) => (wXt cI cJ cC cG h9 hn ap (u.1) ht h0 (u.2.1) (u.2.2.1) pc (u.2.2.2) x)) (k_b r) := by
  refine k_st_iE (cc := cL_areLooksSo) (maxL := 8) (by decide) rfl (Nat.le_of_ble_eq_true rfl) ?_
  intro p e z m below meth c A hx hb hr hml hts hown hlocks hsz hN hA hK hP hD hS ls hl
  have hown : z.vm.findClass RL = some m.cls := hown
  have hl : lv_has ls 8 [(0, .ref h9), (1, .int a1)] := hl
  have J_230 : ∀ (q : Nat → Nat) (pa : Nat → Nat) (pb : Nat → Nat) (jk : JT) (t0 : Bool) (l6 : Int32) (l7 : Int32) (H : Heap) (locs : List Loc), va_P D vwCl (wXt cI cJ cC cG h9 hn ap q ht h0 pa pb pc jk x) H → va_D A (wXt cI cJ cC cG h9 hn ap q ht h0 pa pb pc jk x) → va_S A z.heap H locs → ∀ ls : Array Slot, lv_has ls 8 [(0, .ref h9), (6, .int l6), (7, .int l7)] → mL_areLooksSo_230 x a1 t0 l6 l7 = some (r) → W p l e rmL_areLooksSo z m ([.ref h9, .int a1] : List Value).toArray below meth c H locs 0 0 (k_QiE below ([.ref h9, .int a1] : List Value) D (kT cI cJ cC cG) z A (fun u : (Nat → Nat) × (Nat → Nat) × (Nat → Nat) × (JT) => (wXt cI cJ cC cG h9 hn ap (u.1) ht h0 (u.2.1) (u.2.2.1) pc (u.2.2.2) x)) (k_b r)) (F0 m 230 ls [.int (k_b t0)]) := by
    intro q pa pb jk t0 l6 l7 H locs hP hD hS ls hl hm
    unfold mL_areLooksSo_230 at hm
    refine lv_istore (lv' := [(4, .int (k_b t0)), (0, .ref h9), (6, .int l6), (7, .int l7)]) hx hb dL_areLooksSo_230 hl (by decide) rfl (fun ls hl => ?_)
    refine lv_iload hx hb dL_areLooksSo_232 (lv_at hl 0 rfl) ?_
    refine lv_if_eq (tgt := 296) hx hb dL_areLooksSo_234 (by decide) (fun cc234 => ?_) (fun cc234 => ?_)
    · have hm := k_ip cc234 hm
      refine lv_iconst (v := 0) hx hb dL_areLooksSo_296 (by decide) ?_
      cases hm
      exact k_end_zE (q, pa, pb, jk) false hx hb hr hlocks hK hP hD hS dL_areLooksSo_297
    · have hm := k_in cc234 hm
      refine lv_iload hx hb dL_areLooksSo_237 (lv_at hl 2 rfl) ?_
      refine lv_if_ne (tgt := 258) hx hb dL_areLooksSo_239 (by decide) (fun cc239 => ?_) (fun cc239 => ?_)
      · have hm := k_in cc239 hm
        refine lv_aload_n hx hb dL_areLooksSo_258 rfl (lv_at hl 1 rfl) ?_
        obtain ⟨r1, hc259, hm⟩ := k_bds hm
        refine k_d_sE (k_rV (As := []) (rest := []) ⟨hx, hb, hml, hown, hts⟩ hK hN hP hD (zB_lead hc259) (cwV 0 hts gL_areLooksSo_X9_lead rfl rfl rfl (by decide +kernel) ⟨Nat.le_of_ble_eq_true rfl, Nat.le_of_ble_eq_true rfl⟩) rfl rfl rfl hl.1 rfl (Nat.le_of_ble_eq_true rfl) dL_areLooksSo_259 ⟨Nat.zero_le _, Nat.zero_le _⟩) hD hS hA (fun u9 H locs hP hD hS => ?_)
        obtain ⟨u2, u3, u4, u5⟩ := u9
        have hP : va_P D vwCl (wXt cI cJ cC cG h9 hn ap u2 ht h0 u3 u4 pc u5 x) H := hP
        have hD : va_D A (wXt cI cJ cC cG h9 hn ap u2 ht h0 u3 u4 pc u5 x) := hD
        refine lv_iload hx hb dL_areLooksSo_262 (lv_at hl 2 rfl) ?_
        refine lv_i2d hx hb dL_areLooksSo_264 ?_
        obtain ⟨gd265, hm⟩ := k_gns hm
        refine lv_dmul hx hb dL_areLooksSo_265 (k_nns gd265) ?_
        refine lv_iload hx hb dL_areLooksSo_266 (lv_at hl 3 rfl) ?_
        refine lv_iconst (v := 1) hx hb dL_areLooksSo_268 (by decide) ?_
        refine lv_isub hx hb dL_areLooksSo_269 ?_
        refine lv_i2d hx hb dL_areLooksSo_270 ?_
        refine lv_dcmp hx hb dL_areLooksSo_271 ?_
        refine lv_if_le (tgt := 296) hx hb dL_areLooksSo_272 (by decide) (fun cc272 => ?_) (fun cc272 => ?_)
        · have hm := k_ip cc272 hm
          refine lv_iconst (v := 0) hx hb dL_areLooksSo_296 (by decide) ?_
          cases hm
          exact k_end_zE (u2, u3, u4, u5) false hx hb hr hlocks hK hP hD hS dL_areLooksSo_297
        · have hm := k_in cc272 hm
          refine lv_aload_n hx hb dL_areLooksSo_275 rfl (lv_at hl 1 rfl) ?_
          obtain ⟨r6, hc276, hm⟩ := k_bds hm
          refine k_d_sE (k_rV (As := []) (rest := []) ⟨hx, hb, hml, hown, hts⟩ hK hN hP hD (zB_lead hc276) (cwV 0 hts gL_areLooksSo_X9_lead rfl rfl rfl (by decide +kernel) ⟨Nat.le_of_ble_eq_true rfl, Nat.le_of_ble_eq_true rfl⟩) rfl rfl rfl hl.1 rfl (Nat.le_of_ble_eq_true rfl) dL_areLooksSo_276 ⟨Nat.zero_le _, Nat.zero_le _⟩) hD hS hA (fun u9 H locs hP hD hS => ?_)
          obtain ⟨u7, u8, u9, u10⟩ := u9
          have hP : va_P D vwCl (wXt cI cJ cC cG h9 hn ap u7 ht h0 u8 u9 pc u10 x) H := hP
          have hD : va_D A (wXt cI cJ cC cG h9 hn ap u7 ht h0 u8 u9 pc u10 x) := hD
          refine lv_iload hx hb dL_areLooksSo_279 (lv_at hl 2 rfl) ?_
          refine lv_i2d hx hb dL_areLooksSo_281 ?_
          obtain ⟨gd282, hm⟩ := k_gns hm
          refine lv_dmul hx hb dL_areLooksSo_282 (k_nns gd282) ?_
          refine lv_iload hx hb dL_areLooksSo_283 (lv_at hl 3 rfl) ?_
          refine lv_iconst (v := 1) hx hb dL_areLooksSo_285 (by decide) ?_
          refine lv_iadd hx hb dL_areLooksSo_286 ?_
          refine lv_i2d hx hb dL_areLooksSo_287 ?_
          refine lv_dcmp hx hb dL_areLooksSo_288 ?_
          refine lv_if_ge (tgt := 296) hx hb dL_areLooksSo_289 (by decide) (fun cc289 => ?_) (fun cc289 => ?_)
          · have hm := k_ip cc289 hm
            refine lv_iconst (v := 0) hx hb dL_areLooksSo_296 (by decide) ?_
            cases hm
            exact k_end_zE (u7, u8, u9, u10) false hx hb hr hlocks hK hP hD hS dL_areLooksSo_297
          · have hm := k_in cc289 hm
            refine lv_iconst (v := 1) hx hb dL_areLooksSo_292 (by decide) ?_
            refine lv_goto (tgt := 297) hx hb dL_areLooksSo_293 (by decide) ?_
            cases hm
            exact k_end_zE (u7, u8, u9, u10) true hx hb hr hlocks hK hP hD hS dL_areLooksSo_297
      · have hm := k_ip cc239 hm
        refine lv_aload_n hx hb dL_areLooksSo_242 rfl (lv_at hl 1 rfl) ?_
        obtain ⟨r11, hc243, hm⟩ := k_bds hm
        refine k_d_sE (k_rV (As := []) (rest := []) ⟨hx, hb, hml, hown, hts⟩ hK hN hP hD (zB_lead hc243) (cwV 0 hts gL_areLooksSo_X9_lead rfl rfl rfl (by decide +kernel) ⟨Nat.le_of_ble_eq_true rfl, Nat.le_of_ble_eq_true rfl⟩) rfl rfl rfl hl.1 rfl (Nat.le_of_ble_eq_true rfl) dL_areLooksSo_243 ⟨Nat.zero_le _, Nat.zero_le _⟩) hD hS hA (fun u9 H locs hP hD hS => ?_)
        obtain ⟨u12, u13, u14, u15⟩ := u9
        have hP : va_P D vwCl (wXt cI cJ cC cG h9 hn ap u12 ht h0 u13 u14 pc u15 x) H := hP
        have hD : va_D A (wXt cI cJ cC cG h9 hn ap u12 ht h0 u13 u14 pc u15 x) := hD
        refine lv_ldc2d hx hb hown (hts (.constantDouble RL 152 4611686018427387904) (by decide +kernel)) dL_areLooksSo_246 ?_
        obtain ⟨gd249, hm⟩ := k_gns hm
        refine lv_dmul hx hb dL_areLooksSo_249 (k_nns gd249) ?_
        refine lv_dconst1 hx hb dL_areLooksSo_250 ?_
        refine lv_dcmp hx hb dL_areLooksSo_251 ?_
        refine lv_if_ne (tgt := 296) hx hb dL_areLooksSo_252 (by decide) (fun cc252 => ?_) (fun cc252 => ?_)
        · have hm := k_in cc252 hm
          refine lv_iconst (v := 0) hx hb dL_areLooksSo_296 (by decide) ?_
          cases hm
          exact k_end_zE (u12, u13, u14, u15) false hx hb hr hlocks hK hP hD hS dL_areLooksSo_297
        · have hm := k_ip cc252 hm
          refine lv_goto (tgt := 292) hx hb dL_areLooksSo_255 (by decide) ?_
          refine lv_iconst (v := 1) hx hb dL_areLooksSo_292 (by decide) ?_
          refine lv_goto (tgt := 297) hx hb dL_areLooksSo_293 (by decide) ?_
          cases hm
          exact k_end_zE (u12, u13, u14, u15) true hx hb hr hlocks hK hP hD hS dL_areLooksSo_297
  have J_229 : ∀ (q : Nat → Nat) (pa : Nat → Nat) (pb : Nat → Nat) (jk : JT) (l6 : Int32) (l7 : Int32) (H : Heap) (locs : List Loc), va_P D vwCl (wXt cI cJ cC cG h9 hn ap q ht h0 pa pb pc jk x) H → va_D A (wXt cI cJ cC cG h9 hn ap q ht h0 pa pb pc jk x) → va_S A z.heap H locs → ∀ ls : Array Slot, lv_has ls 8 [(0, .ref h9), (6, .int l6), (7, .int l7)] → mL_areLooksSo_229 x a1 l6 l7 = some (r) → W p l e rmL_areLooksSo z m ([.ref h9, .int a1] : List Value).toArray below meth c H locs 0 0 (k_QiE below ([.ref h9, .int a1] : List Value) D (kT cI cJ cC cG) z A (fun u : (Nat → Nat) × (Nat → Nat) × (Nat → Nat) × (JT) => (wXt cI cJ cC cG h9 hn ap (u.1) ht h0 (u.2.1) (u.2.2.1) pc (u.2.2.2) x)) (k_b r)) (F0 m 229 ls []) := by
    intro q pa pb jk l6 l7 H locs hP hD hS ls hl hm
    unfold mL_areLooksSo_229 at hm
    refine lv_iconst (v := 0) hx hb dL_areLooksSo_229 (by decide) ?_
    exact J_230 q pa pb jk false l6 l7 _ _ hP hD hS _ (lv_sub hl [0, 1, 2] rfl) hm
  have J_207 : ∀ (q : Nat → Nat) (pa : Nat → Nat) (pb : Nat → Nat) (jk : JT) (t0 : Bool) (t1 : Bool) (l6 : Int32) (l7 : Int32) (H : Heap) (locs : List Loc), va_P D vwCl (wXt cI cJ cC cG h9 hn ap q ht h0 pa pb pc jk x) H → va_D A (wXt cI cJ cC cG h9 hn ap q ht h0 pa pb pc jk x) → va_S A z.heap H locs → ∀ ls : Array Slot, lv_has ls 8 [(0, .ref h9), (6, .int l6), (7, .int l7)] → mL_areLooksSo_207 x a1 t0 t1 l6 l7 = some (r) → W p l e rmL_areLooksSo z m ([.ref h9, .int a1] : List Value).toArray below meth c H locs 0 0 (k_QiE below ([.ref h9, .int a1] : List Value) D (kT cI cJ cC cG) z A (fun u : (Nat → Nat) × (Nat → Nat) × (Nat → Nat) × (JT) => (wXt cI cJ cC cG h9 hn ap (u.1) ht h0 (u.2.1) (u.2.2.1) pc (u.2.2.2) x)) (k_b r)) (F0 m 207 ls [.int (k_b t0), .int (k_b t1)]) := by
    intro q pa pb jk t0 t1 l6 l7 H locs hP hD hS ls hl hm
    unfold mL_areLooksSo_207 at hm
    refine lv_icmp_ne (tgt := 229) hx hb dL_areLooksSo_207 (by decide) (fun cc207 => ?_) (fun cc207 => ?_)
    · have hm := k_in cc207 hm
      exact J_229 q pa pb jk l6 l7 _ _ hP hD hS _ (lv_sub hl [0, 1, 2] rfl) hm
    · have hm := k_ip cc207 hm
      refine lv_aload_n hx hb dL_areLooksSo_210 rfl (lv_at hl 0 rfl) ?_
      obtain ⟨r16, hc211, hm⟩ := k_bds hm
      refine k_i_sE (k_rV (As := []) (rest := []) ⟨hx, hb, hml, hown, hts⟩ hK hN hP hD (zB_phase hc211) (cwV 0 hts gL_areLooksSo_X9_phase rfl rfl rfl (by decide +kernel) ⟨Nat.le_of_ble_eq_true rfl, Nat.le_of_ble_eq_true rfl⟩) rfl rfl rfl hl.1 rfl (Nat.le_of_ble_eq_true rfl) dL_areLooksSo_211 ⟨Nat.zero_le _, Nat.zero_le _⟩) hD hS hA (fun u9 H locs hP hD hS => ?_)
      obtain ⟨u17, u18, u19, u20⟩ := u9
      have hP : va_P D vwCl (wXt cI cJ cC cG h9 hn ap u17 ht h0 u18 u19 pc u20 x) H := hP
      have hD : va_D A (wXt cI cJ cC cG h9 hn ap u17 ht h0 u18 u19 pc u20 x) := hD
      refine lv_iconst (v := 1) hx hb dL_areLooksSo_214 (by decide) ?_
      refine lv_icmp_eq (tgt := 225) hx hb dL_areLooksSo_215 (by decide) (fun cc215 => ?_) (fun cc215 => ?_)
      · have hm := k_ip cc215 hm
        refine lv_iconst (v := 1) hx hb dL_areLooksSo_225 (by decide) ?_
        refine lv_goto (tgt := 230) hx hb dL_areLooksSo_226 (by decide) ?_
        exact J_230 u17 u18 u19 u20 true l6 l7 _ _ hP hD hS _ (lv_sub hl [0, 1, 2] rfl) hm
      · have hm := k_in cc215 hm
        refine lv_aload_n hx hb dL_areLooksSo_218 rfl (lv_at hl 0 rfl) ?_
        obtain ⟨r21, hc219, hm⟩ := k_bds hm
        refine k_i_sE (k_rV (As := []) (rest := []) ⟨hx, hb, hml, hown, hts⟩ hK hN hP hD (zB_diceLeft hc219) (cwV 0 hts gL_areLooksSo_X9_diceLeft rfl rfl rfl (by decide +kernel) ⟨Nat.le_of_ble_eq_true rfl, Nat.le_of_ble_eq_true rfl⟩) rfl rfl rfl hl.1 rfl (Nat.le_of_ble_eq_true rfl) dL_areLooksSo_219 ⟨Nat.zero_le _, Nat.zero_le _⟩) hD hS hA (fun u9 H locs hP hD hS => ?_)
        obtain ⟨u22, u23, u24, u25⟩ := u9
        have hP : va_P D vwCl (wXt cI cJ cC cG h9 hn ap u22 ht h0 u23 u24 pc u25 x) H := hP
        have hD : va_D A (wXt cI cJ cC cG h9 hn ap u22 ht h0 u23 u24 pc u25 x) := hD
        refine lv_if_ne (tgt := 229) hx hb dL_areLooksSo_222 (by decide) (fun cc222 => ?_) (fun cc222 => ?_)
        · have hm := k_in cc222 hm
          exact J_229 u22 u23 u24 u25 l6 l7 _ _ hP hD hS _ (lv_sub hl [0, 1, 2] rfl) hm
        · have hm := k_ip cc222 hm
          refine lv_iconst (v := 1) hx hb dL_areLooksSo_225 (by decide) ?_
          refine lv_goto (tgt := 230) hx hb dL_areLooksSo_226 (by decide) ?_
          exact J_230 u22 u23 u24 u25 true l6 l7 _ _ hP hD hS _ (lv_sub hl [0, 1, 2] rfl) hm
  have J_195 : ∀ (q : Nat → Nat) (pa : Nat → Nat) (pb : Nat → Nat) (jk : JT) (t0 : Bool) (l6 : Int32) (l7 : Int32) (H : Heap) (locs : List Loc), va_P D vwCl (wXt cI cJ cC cG h9 hn ap q ht h0 pa pb pc jk x) H → va_D A (wXt cI cJ cC cG h9 hn ap q ht h0 pa pb pc jk x) → va_S A z.heap H locs → ∀ ls : Array Slot, lv_has ls 8 [(0, .ref h9), (6, .int l6), (7, .int l7)] → mL_areLooksSo_195 x a1 t0 l6 l7 = some (r) → W p l e rmL_areLooksSo z m ([.ref h9, .int a1] : List Value).toArray below meth c H locs 0 0 (k_QiE below ([.ref h9, .int a1] : List Value) D (kT cI cJ cC cG) z A (fun u : (Nat → Nat) × (Nat → Nat) × (Nat → Nat) × (JT) => (wXt cI cJ cC cG h9 hn ap (u.1) ht h0 (u.2.1) (u.2.2.1) pc (u.2.2.2) x)) (k_b r)) (F0 m 195 ls [.int (k_b t0)]) := by
    intro q pa pb jk t0 l6 l7 H locs hP hD hS ls hl hm
    unfold mL_areLooksSo_195 at hm
    refine lv_aload_n hx hb dL_areLooksSo_195 rfl (lv_at hl 0 rfl) ?_
    obtain ⟨r26, hc196, hm⟩ := k_bds hm
    refine k_i_sE (k_rV (As := []) (rest := [.int (k_b t0)]) ⟨hx, hb, hml, hown, hts⟩ hK hN hP hD (zB_reach hc196) (cwV 0 hts gL_areLooksSo_X9_reach rfl rfl rfl (by decide +kernel) ⟨Nat.le_of_ble_eq_true rfl, Nat.le_of_ble_eq_true rfl⟩) rfl rfl rfl hl.1 rfl (Nat.le_of_ble_eq_true rfl) dL_areLooksSo_196 ⟨Nat.zero_le _, Nat.zero_le _⟩) hD hS hA (fun u9 H locs hP hD hS => ?_)
    obtain ⟨u27, u28, u29, u30⟩ := u9
    have hP : va_P D vwCl (wXt cI cJ cC cG h9 hn ap u27 ht h0 u28 u29 pc u30 x) H := hP
    have hD : va_D A (wXt cI cJ cC cG h9 hn ap u27 ht h0 u28 u29 pc u30 x) := hD
    refine lv_if_ne (tgt := 206) hx hb dL_areLooksSo_199 (by decide) (fun cc199 => ?_) (fun cc199 => ?_)
    · have hm := k_in cc199 hm
      refine lv_iconst (v := 0) hx hb dL_areLooksSo_206 (by decide) ?_
      exact J_207 u27 u28 u29 u30 false t0 l6 l7 _ _ hP hD hS _ (lv_sub hl [0, 1, 2] rfl) hm
    · have hm := k_ip cc199 hm
      refine lv_iconst (v := 1) hx hb dL_areLooksSo_202 (by decide) ?_
      refine lv_goto (tgt := 207) hx hb dL_areLooksSo_203 (by decide) ?_
      exact J_207 u27 u28 u29 u30 true t0 l6 l7 _ _ hP hD hS _ (lv_sub hl [0, 1, 2] rfl) hm
  have J_102 := k_loop (z := fun _ _ _ => none) (st := mL_areLooksSo_102 x a1) (fun k102 : (Bool) → (Int32) → (Int32) → Option (Bool) => ∀ (q : Nat → Nat) (pa : Nat → Nat) (pb : Nat → Nat) (jk : JT) (l4 : Bool) (l5 : Int32) (l6 : Int32) (H : Heap) (locs : List Loc), va_P D vwCl (wXt cI cJ cC cG h9 hn ap q ht h0 pa pb pc jk x) H → va_D A (wXt cI cJ cC cG h9 hn ap q ht h0 pa pb pc jk x) → va_S A z.heap H locs → ∀ ls : Array Slot, lv_has ls 8 [(0, .ref h9), (4, .int (k_b l4)), (5, .int l5), (6, .int l6)] → k102 l4 l5 l6 = some (r) → W p l e rmL_areLooksSo z m ([.ref h9, .int a1] : List Value).toArray below meth c H locs 0 0 (k_QiE below ([.ref h9, .int a1] : List Value) D (kT cI cJ cC cG) z A (fun u : (Nat → Nat) × (Nat → Nat) × (Nat → Nat) × (JT) => (wXt cI cJ cC cG h9 hn ap (u.1) ht h0 (u.2.1) (u.2.2.1) pc (u.2.2.2) x)) (k_b r)) (F0 m 102 ls [])) (by intros; rename_i h; cases h) (by
    intro k102 ih102
    intro q pa pb jk l4 l5 l6 H locs hP hD hS ls hl hm
    unfold mL_areLooksSo_102 at hm
    refine lv_iload hx hb dL_areLooksSo_102 (lv_at hl 3 rfl) ?_
    refine lv_bipush (v := 102) hx hb dL_areLooksSo_104 (by decide) ?_
    refine lv_icmp_ge (tgt := 146) hx hb dL_areLooksSo_106 (by decide) (fun cc106 => ?_) (fun cc106 => ?_)
    · have hm := k_ip cc106 hm
      refine lv_aload_n hx hb dL_areLooksSo_146 rfl (lv_at hl 0 rfl) ?_
      refine lv_iconst (v := 0) hx hb dL_areLooksSo_147 (by decide) ?_
      obtain ⟨r31, hc148, hm⟩ := k_bds hm
      refine k_i_sE (k_rV (As := [.int 0]) (rest := []) ⟨hx, hb, hml, hown, hts⟩ hK hN hP hD (zB_pips hc148) (cwV 1 hts gL_areLooksSo_X9_pips rfl rfl rfl (by decide +kernel) ⟨Nat.le_of_ble_eq_true rfl, Nat.le_of_ble_eq_true rfl⟩) rfl rfl rfl hl.1 rfl (Nat.le_of_ble_eq_true rfl) dL_areLooksSo_148 ⟨Nat.zero_le _, Nat.zero_le _⟩) hD hS hA (fun u9 H locs hP hD hS => ?_)
      obtain ⟨u32, u33, u34, u35⟩ := u9
      have hP : va_P D vwCl (wXt cI cJ cC cG h9 hn ap u32 ht h0 u33 u34 pc u35 x) H := hP
      have hD : va_D A (wXt cI cJ cC cG h9 hn ap u32 ht h0 u33 u34 pc u35 x) := hD
      refine lv_aload_n hx hb dL_areLooksSo_151 rfl (lv_at hl 0 rfl) ?_
      refine lv_iconst (v := 1) hx hb dL_areLooksSo_152 (by decide) ?_
      obtain ⟨r36, hc153, hm⟩ := k_bds hm
      refine k_i_sE (k_rV (As := [.int 1]) (rest := [.int r31]) ⟨hx, hb, hml, hown, hts⟩ hK hN hP hD (zB_pips hc153) (cwV 1 hts gL_areLooksSo_X9_pips rfl rfl rfl (by decide +kernel) ⟨Nat.le_of_ble_eq_true rfl, Nat.le_of_ble_eq_true rfl⟩) rfl rfl rfl hl.1 rfl (Nat.le_of_ble_eq_true rfl) dL_areLooksSo_153 ⟨Nat.zero_le _, Nat.zero_le _⟩) hD hS hA (fun u9 H locs hP hD hS => ?_)
      obtain ⟨u37, u38, u39, u40⟩ := u9
      have hP : va_P D vwCl (wXt cI cJ cC cG h9 hn ap u37 ht h0 u38 u39 pc u40 x) H := hP
      have hD : va_D A (wXt cI cJ cC cG h9 hn ap u37 ht h0 u38 u39 pc u40 x) := hD
      refine lv_iadd hx hb dL_areLooksSo_156 ?_
      refine lv_istore (lv' := [(6, .int (r31 + r36)), (0, .ref h9), (4, .int (k_b l4)), (5, .int l5)]) hx hb dL_areLooksSo_157 hl (by decide) rfl (fun ls hl => ?_)
      refine lv_aload_n hx hb dL_areLooksSo_159 rfl (lv_at hl 1 rfl) ?_
      refine lv_iconst (v := 1) hx hb dL_areLooksSo_160 (by decide) ?_
      refine lv_aload_n hx hb dL_areLooksSo_161 rfl (lv_at hl 1 rfl) ?_
      obtain ⟨r41, hc162, hm⟩ := k_bds hm
      refine k_i_sE (k_rV (As := []) (rest := [.int 1, .ref h9]) ⟨hx, hb, hml, hown, hts⟩ hK hN hP hD (zB_mover hc162) (cwV 0 hts gL_areLooksSo_X9_mover rfl rfl rfl (by decide +kernel) ⟨Nat.le_of_ble_eq_true rfl, Nat.le_of_ble_eq_true rfl⟩) rfl rfl rfl hl.1 rfl (Nat.le_of_ble_eq_true rfl) dL_areLooksSo_162 ⟨Nat.zero_le _, Nat.zero_le _⟩) hD hS hA (fun u9 H locs hP hD hS => ?_)
      obtain ⟨u42, u43, u44, u45⟩ := u9
      have hP : va_P D vwCl (wXt cI cJ cC cG h9 hn ap u42 ht h0 u43 u44 pc u45 x) H := hP
      have hD : va_D A (wXt cI cJ cC cG h9 hn ap u42 ht h0 u43 u44 pc u45 x) := hD
      refine lv_isub hx hb dL_areLooksSo_165 ?_
      obtain ⟨r46, hc166, hm⟩ := k_bds hm
      refine k_i_sE (k_rV (As := [.int (1 - r41)]) (rest := []) ⟨hx, hb, hml, hown, hts⟩ hK hN hP hD (zB_pips hc166) (cwV 1 hts gL_areLooksSo_X9_pips rfl rfl rfl (by decide +kernel) ⟨Nat.le_of_ble_eq_true rfl, Nat.le_of_ble_eq_true rfl⟩) rfl rfl rfl hl.1 rfl (Nat.le_of_ble_eq_true rfl) dL_areLooksSo_166 ⟨Nat.zero_le _, Nat.zero_le _⟩) hD hS hA (fun u9 H locs hP hD hS => ?_)
      obtain ⟨u47, u48, u49, u50⟩ := u9
      have hP : va_P D vwCl (wXt cI cJ cC cG h9 hn ap u47 ht h0 u48 u49 pc u50 x) H := hP
      have hD : va_D A (wXt cI cJ cC cG h9 hn ap u47 ht h0 u48 u49 pc u50 x) := hD
      refine lv_istore (lv' := [(7, .int r46), (6, .int (r31 + r36)), (0, .ref h9), (4, .int (k_b l4)), (5, .int l5)]) hx hb dL_areLooksSo_169 hl (by decide) rfl (fun ls hl => ?_)
      refine lv_iload hx hb dL_areLooksSo_171 (lv_at hl 3 rfl) ?_
      refine lv_if_eq (tgt := 229) hx hb dL_areLooksSo_173 (by decide) (fun cc173 => ?_) (fun cc173 => ?_)
      · have hm := k_ip cc173 hm
        exact J_229 u47 u48 u49 u50 (r31 + r36) r46 _ _ hP hD hS _ (lv_sub hl [2, 1, 0] rfl) hm
      · have hm := k_in cc173 hm
        refine lv_aload_n hx hb dL_areLooksSo_176 rfl (lv_at hl 2 rfl) ?_
        obtain ⟨r51, hc177, hm⟩ := k_bds hm
        refine k_i_sE (k_rV (As := []) (rest := []) ⟨hx, hb, hml, hown, hts⟩ hK hN hP hD (zB_possibleSteps hc177) (cwV 0 hts gL_areLooksSo_X9_possibleSteps rfl rfl rfl (by decide +kernel) ⟨Nat.le_of_ble_eq_true rfl, Nat.le_of_ble_eq_true rfl⟩) rfl rfl rfl hl.1 rfl (Nat.le_of_ble_eq_true rfl) dL_areLooksSo_177 ⟨Nat.zero_le _, Nat.zero_le _⟩) hD hS hA (fun u9 H locs hP hD hS => ?_)
        obtain ⟨u52, u53, u54, u55⟩ := u9
        have hP : va_P D vwCl (wXt cI cJ cC cG h9 hn ap u52 ht h0 u53 u54 pc u55 x) H := hP
        have hD : va_D A (wXt cI cJ cC cG h9 hn ap u52 ht h0 u53 u54 pc u55 x) := hD
        refine lv_iload hx hb dL_areLooksSo_180 (lv_at hl 4 rfl) ?_
        refine lv_icmp_ne (tgt := 229) hx hb dL_areLooksSo_182 (by decide) (fun cc182 => ?_) (fun cc182 => ?_)
        · have hm := k_in cc182 hm
          exact J_229 u52 u53 u54 u55 (r31 + r36) r46 _ _ hP hD hS _ (lv_sub hl [2, 1, 0] rfl) hm
        · have hm := k_ip cc182 hm
          refine lv_iload hx hb dL_areLooksSo_185 (lv_at hl 4 rfl) ?_
          refine lv_if_ne (tgt := 194) hx hb dL_areLooksSo_187 (by decide) (fun cc187 => ?_) (fun cc187 => ?_)
          · have hm := k_in cc187 hm
            refine lv_iconst (v := 0) hx hb dL_areLooksSo_194 (by decide) ?_
            exact J_195 u52 u53 u54 u55 false (r31 + r36) r46 _ _ hP hD hS _ (lv_sub hl [2, 1, 0] rfl) hm
          · have hm := k_ip cc187 hm
            refine lv_iconst (v := 1) hx hb dL_areLooksSo_190 (by decide) ?_
            refine lv_goto (tgt := 195) hx hb dL_areLooksSo_191 (by decide) ?_
            exact J_195 u52 u53 u54 u55 true (r31 + r36) r46 _ _ hP hD hS _ (lv_sub hl [2, 1, 0] rfl) hm
    · have hm := k_in cc106 hm
      refine lv_iload hx hb dL_areLooksSo_109 (lv_at hl 2 rfl) ?_
      refine lv_aload_n hx hb dL_areLooksSo_111 rfl (lv_at hl 0 rfl) ?_
      refine lv_iload hx hb dL_areLooksSo_112 (lv_at hl 3 rfl) ?_
      refine lv_bipush (v := 17) hx hb dL_areLooksSo_114 (by decide) ?_
      refine lv_irem hx hb dL_areLooksSo_116 (by decide) ?_
      refine lv_iconst (v := 1) hx hb dL_areLooksSo_117 (by decide) ?_
      refine lv_isub hx hb dL_areLooksSo_118 ?_
      refine lv_iconst (v := 1) hx hb dL_areLooksSo_119 (by decide) ?_
      refine lv_iload hx hb dL_areLooksSo_120 (lv_at hl 3 rfl) ?_
      refine lv_bipush (v := 17) hx hb dL_areLooksSo_122 (by decide) ?_
      refine lv_idiv hx hb dL_areLooksSo_124 (by decide) ?_
      refine lv_iadd hx hb dL_areLooksSo_125 ?_
      obtain ⟨r56, hc126, hm⟩ := k_bds hm
      refine k_i_sE (k_rV (As := [.int ((k_irem l6 17) - 1), .int (1 + (l6 / 17))]) (rest := [.int l5]) ⟨hx, hb, hml, hown, hts⟩ hK hN hP hD (zB_whyNoStep hc126) (cwV 2 hts gL_areLooksSo_X9_whyNoStep rfl rfl rfl (by decide +kernel) ⟨Nat.le_of_ble_eq_true rfl, Nat.le_of_ble_eq_true rfl⟩) rfl rfl rfl hl.1 rfl (Nat.le_of_ble_eq_true rfl) dL_areLooksSo_126 ⟨Nat.zero_le _, Nat.zero_le _⟩) hD hS hA (fun u9 H locs hP hD hS => ?_)
      obtain ⟨u57, u58, u59, u60⟩ := u9
      have hP : va_P D vwCl (wXt cI cJ cC cG h9 hn ap u57 ht h0 u58 u59 pc u60 x) H := hP
      have hD : va_D A (wXt cI cJ cC cG h9 hn ap u57 ht h0 u58 u59 pc u60 x) := hD
      refine lv_if_ne (tgt := 136) hx hb dL_areLooksSo_129 (by decide) (fun cc129 => ?_) (fun cc129 => ?_)
      · have hm := k_in cc129 hm
        refine lv_iconst (v := 0) hx hb dL_areLooksSo_136 (by decide) ?_
        refine lv_iadd hx hb dL_areLooksSo_137 ?_
        refine lv_istore (lv' := [(5, .int (l5 + 0)), (0, .ref h9), (4, .int (k_b l4)), (6, .int l6)]) hx hb dL_areLooksSo_138 hl (by decide) rfl (fun ls hl => ?_)
        refine lv_iinc (v := (l6 + 1)) (lv' := [(6, .int (l6 + 1)), (5, .int (l5 + 0)), (0, .ref h9), (4, .int (k_b l4))]) hx hb dL_areLooksSo_140 hl (k := 3) rfl rfl (by decide) rfl (fun ls hl => ?_)
        refine lv_goto (tgt := 102) hx hb dL_areLooksSo_143 (by decide) ?_
        exact ih102 u57 u58 u59 u60 l4 (l5 + 0) (l6 + 1) _ _ hP hD hS _ (lv_sub hl [2, 3, 1, 0] rfl) hm
      · have hm := k_ip cc129 hm
        refine lv_iconst (v := 1) hx hb dL_areLooksSo_132 (by decide) ?_
        refine lv_goto (tgt := 137) hx hb dL_areLooksSo_133 (by decide) ?_
        refine lv_iadd hx hb dL_areLooksSo_137 ?_
        refine lv_istore (lv' := [(5, .int (l5 + 1)), (0, .ref h9), (4, .int (k_b l4)), (6, .int l6)]) hx hb dL_areLooksSo_138 hl (by decide) rfl (fun ls hl => ?_)
        refine lv_iinc (v := (l6 + 1)) (lv' := [(6, .int (l6 + 1)), (5, .int (l5 + 1)), (0, .ref h9), (4, .int (k_b l4))]) hx hb dL_areLooksSo_140 hl (k := 3) rfl rfl (by decide) rfl (fun ls hl => ?_)
        refine lv_goto (tgt := 102) hx hb dL_areLooksSo_143 (by decide) ?_
        exact ih102 u57 u58 u59 u60 l4 (l5 + 1) (l6 + 1) _ _ hP hD hS _ (lv_sub hl [2, 3, 1, 0] rfl) hm) k_F
  have J_94 : ∀ (q : Nat → Nat) (pa : Nat → Nat) (pb : Nat → Nat) (jk : JT) (t0 : Bool) (H : Heap) (locs : List Loc), va_P D vwCl (wXt cI cJ cC cG h9 hn ap q ht h0 pa pb pc jk x) H → va_D A (wXt cI cJ cC cG h9 hn ap q ht h0 pa pb pc jk x) → va_S A z.heap H locs → ∀ ls : Array Slot, lv_has ls 8 [(0, .ref h9)] → mL_areLooksSo_94 x a1 t0 = some (r) → W p l e rmL_areLooksSo z m ([.ref h9, .int a1] : List Value).toArray below meth c H locs 0 0 (k_QiE below ([.ref h9, .int a1] : List Value) D (kT cI cJ cC cG) z A (fun u : (Nat → Nat) × (Nat → Nat) × (Nat → Nat) × (JT) => (wXt cI cJ cC cG h9 hn ap (u.1) ht h0 (u.2.1) (u.2.2.1) pc (u.2.2.2) x)) (k_b r)) (F0 m 94 ls [.int (k_b t0)]) := by
    intro q pa pb jk t0 H locs hP hD hS ls hl hm
    unfold mL_areLooksSo_94 at hm
    refine lv_istore (lv' := [(4, .int (k_b t0)), (0, .ref h9)]) hx hb dL_areLooksSo_94 hl (by decide) rfl (fun ls hl => ?_)
    refine lv_iconst (v := 0) hx hb dL_areLooksSo_96 (by decide) ?_
    refine lv_istore (lv' := [(5, .int 0), (4, .int (k_b t0)), (0, .ref h9)]) hx hb dL_areLooksSo_97 hl (by decide) rfl (fun ls hl => ?_)
    refine lv_iconst (v := 0) hx hb dL_areLooksSo_99 (by decide) ?_
    refine lv_istore (lv' := [(6, .int 0), (5, .int 0), (4, .int (k_b t0)), (0, .ref h9)]) hx hb dL_areLooksSo_100 hl (by decide) rfl (fun ls hl => ?_)
    exact J_102 q pa pb jk t0 0 0 _ _ hP hD hS _ (lv_sub hl [3, 2, 1, 0] rfl) hm
  have J_93 : ∀ (q : Nat → Nat) (pa : Nat → Nat) (pb : Nat → Nat) (jk : JT) (H : Heap) (locs : List Loc), va_P D vwCl (wXt cI cJ cC cG h9 hn ap q ht h0 pa pb pc jk x) H → va_D A (wXt cI cJ cC cG h9 hn ap q ht h0 pa pb pc jk x) → va_S A z.heap H locs → ∀ ls : Array Slot, lv_has ls 8 [(0, .ref h9)] → mL_areLooksSo_93 x a1  = some (r) → W p l e rmL_areLooksSo z m ([.ref h9, .int a1] : List Value).toArray below meth c H locs 0 0 (k_QiE below ([.ref h9, .int a1] : List Value) D (kT cI cJ cC cG) z A (fun u : (Nat → Nat) × (Nat → Nat) × (Nat → Nat) × (JT) => (wXt cI cJ cC cG h9 hn ap (u.1) ht h0 (u.2.1) (u.2.2.1) pc (u.2.2.2) x)) (k_b r)) (F0 m 93 ls []) := by
    intro q pa pb jk  H locs hP hD hS ls hl hm
    unfold mL_areLooksSo_93 at hm
    refine lv_iconst (v := 0) hx hb dL_areLooksSo_93 (by decide) ?_
    exact J_94 q pa pb jk false _ _ hP hD hS _ (lv_sub hl [0] rfl) hm
  have J_56 : ∀ (q : Nat → Nat) (pa : Nat → Nat) (pb : Nat → Nat) (jk : JT) (H : Heap) (locs : List Loc), va_P D vwCl (wXt cI cJ cC cG h9 hn ap q ht h0 pa pb pc jk x) H → va_D A (wXt cI cJ cC cG h9 hn ap q ht h0 pa pb pc jk x) → va_S A z.heap H locs → ∀ ls : Array Slot, lv_has ls 8 [(0, .ref h9)] → mL_areLooksSo_56 x a1  = some (r) → W p l e rmL_areLooksSo z m ([.ref h9, .int a1] : List Value).toArray below meth c H locs 0 0 (k_QiE below ([.ref h9, .int a1] : List Value) D (kT cI cJ cC cG) z A (fun u : (Nat → Nat) × (Nat → Nat) × (Nat → Nat) × (JT) => (wXt cI cJ cC cG h9 hn ap (u.1) ht h0 (u.2.1) (u.2.2.1) pc (u.2.2.2) x)) (k_b r)) (F0 m 56 ls []) := by
    intro q pa pb jk  H locs hP hD hS ls hl hm
    unfold mL_areLooksSo_56 at hm
    refine lv_aload_n hx hb dL_areLooksSo_56 rfl (lv_at hl 0 rfl) ?_
    obtain ⟨r61, hc57, hm⟩ := k_bds hm
    refine k_i_sE (k_rV (As := []) (rest := []) ⟨hx, hb, hml, hown, hts⟩ hK hN hP hD (zB_playsByOrders hc57) (cwV 0 hts gL_areLooksSo_X9_playsByOrders rfl rfl rfl (by decide +kernel) ⟨Nat.le_of_ble_eq_true rfl, Nat.le_of_ble_eq_true rfl⟩) rfl rfl rfl hl.1 rfl (Nat.le_of_ble_eq_true rfl) dL_areLooksSo_57 ⟨Nat.zero_le _, Nat.zero_le _⟩) hD hS hA (fun u9 H locs hP hD hS => ?_)
    obtain ⟨u62, u63, u64, u65⟩ := u9
    have hP : va_P D vwCl (wXt cI cJ cC cG h9 hn ap u62 ht h0 u63 u64 pc u65 x) H := hP
    have hD : va_D A (wXt cI cJ cC cG h9 hn ap u62 ht h0 u63 u64 pc u65 x) := hD
    refine lv_aload_n hx hb dL_areLooksSo_60 rfl (lv_at hl 0 rfl) ?_
    obtain ⟨r66, hc61, hm⟩ := k_bds hm
    refine k_i_sE (k_rV (As := []) (rest := [.int r61]) ⟨hx, hb, hml, hown, hts⟩ hK hN hP hD (zB_plays hc61) (cwV 0 hts gL_areLooksSo_X9_plays rfl rfl rfl (by decide +kernel) ⟨Nat.le_of_ble_eq_true rfl, Nat.le_of_ble_eq_true rfl⟩) rfl rfl rfl hl.1 rfl (Nat.le_of_ble_eq_true rfl) dL_areLooksSo_61 ⟨Nat.zero_le _, Nat.zero_le _⟩) hD hS hA (fun u9 H locs hP hD hS => ?_)
    obtain ⟨u67, u68, u69, u70⟩ := u9
    have hP : va_P D vwCl (wXt cI cJ cC cG h9 hn ap u67 ht h0 u68 u69 pc u70 x) H := hP
    have hD : va_D A (wXt cI cJ cC cG h9 hn ap u67 ht h0 u68 u69 pc u70 x) := hD
    refine lv_icmp_ne (tgt := 93) hx hb dL_areLooksSo_64 (by decide) (fun cc64 => ?_) (fun cc64 => ?_)
    · have hm := k_in cc64 hm
      exact J_93 u67 u68 u69 u70 _ _ hP hD hS _ (lv_sub hl [0] rfl) hm
    · have hm := k_ip cc64 hm
      refine lv_aload_n hx hb dL_areLooksSo_67 rfl (lv_at hl 0 rfl) ?_
      obtain ⟨r71, hc68, hm⟩ := k_bds hm
      refine k_i_sE (k_rV (As := []) (rest := []) ⟨hx, hb, hml, hown, hts⟩ hK hN hP hD (zB_plays hc68) (cwV 0 hts gL_areLooksSo_X9_plays rfl rfl rfl (by decide +kernel) ⟨Nat.le_of_ble_eq_true rfl, Nat.le_of_ble_eq_true rfl⟩) rfl rfl rfl hl.1 rfl (Nat.le_of_ble_eq_true rfl) dL_areLooksSo_68 ⟨Nat.zero_le _, Nat.zero_le _⟩) hD hS hA (fun u9 H locs hP hD hS => ?_)
      obtain ⟨u72, u73, u74, u75⟩ := u9
      have hP : va_P D vwCl (wXt cI cJ cC cG h9 hn ap u72 ht h0 u73 u74 pc u75 x) H := hP
      have hD : va_D A (wXt cI cJ cC cG h9 hn ap u72 ht h0 u73 u74 pc u75 x) := hD
      refine lv_if_le (tgt := 93) hx hb dL_areLooksSo_71 (by decide) (fun cc71 => ?_) (fun cc71 => ?_)
      · have hm := k_ip cc71 hm
        exact J_93 u72 u73 u74 u75 _ _ hP hD hS _ (lv_sub hl [0] rfl) hm
      · have hm := k_in cc71 hm
        refine lv_aload_n hx hb dL_areLooksSo_74 rfl (lv_at hl 0 rfl) ?_
        obtain ⟨r76, hc75, hm⟩ := k_bds hm
        refine k_i_sE (k_rV (As := []) (rest := []) ⟨hx, hb, hml, hown, hts⟩ hK hN hP hD (zB_reach hc75) (cwV 0 hts gL_areLooksSo_X9_reach rfl rfl rfl (by decide +kernel) ⟨Nat.le_of_ble_eq_true rfl, Nat.le_of_ble_eq_true rfl⟩) rfl rfl rfl hl.1 rfl (Nat.le_of_ble_eq_true rfl) dL_areLooksSo_75 ⟨Nat.zero_le _, Nat.zero_le _⟩) hD hS hA (fun u9 H locs hP hD hS => ?_)
        obtain ⟨u77, u78, u79, u80⟩ := u9
        have hP : va_P D vwCl (wXt cI cJ cC cG h9 hn ap u77 ht h0 u78 u79 pc u80 x) H := hP
        have hD : va_D A (wXt cI cJ cC cG h9 hn ap u77 ht h0 u78 u79 pc u80 x) := hD
        refine lv_if_gt (tgt := 89) hx hb dL_areLooksSo_78 (by decide) (fun cc78 => ?_) (fun cc78 => ?_)
        · have hm := k_ip cc78 hm
          refine lv_iconst (v := 1) hx hb dL_areLooksSo_89 (by decide) ?_
          refine lv_goto (tgt := 94) hx hb dL_areLooksSo_90 (by decide) ?_
          exact J_94 u77 u78 u79 u80 true _ _ hP hD hS _ (lv_sub hl [0] rfl) hm
        · have hm := k_in cc78 hm
          refine lv_aload_n hx hb dL_areLooksSo_81 rfl (lv_at hl 0 rfl) ?_
          obtain ⟨r81, hc82, hm⟩ := k_bds hm
          refine k_i_sE (k_rV (As := []) (rest := []) ⟨hx, hb, hml, hown, hts⟩ hK hN hP hD (zB_plays hc82) (cwV 0 hts gL_areLooksSo_X9_plays rfl rfl rfl (by decide +kernel) ⟨Nat.le_of_ble_eq_true rfl, Nat.le_of_ble_eq_true rfl⟩) rfl rfl rfl hl.1 rfl (Nat.le_of_ble_eq_true rfl) dL_areLooksSo_82 ⟨Nat.zero_le _, Nat.zero_le _⟩) hD hS hA (fun u9 H locs hP hD hS => ?_)
          obtain ⟨u82, u83, u84, u85⟩ := u9
          have hP : va_P D vwCl (wXt cI cJ cC cG h9 hn ap u82 ht h0 u83 u84 pc u85 x) H := hP
          have hD : va_D A (wXt cI cJ cC cG h9 hn ap u82 ht h0 u83 u84 pc u85 x) := hD
          refine lv_iconst (v := 1) hx hb dL_areLooksSo_85 (by decide) ?_
          refine lv_icmp_ne (tgt := 93) hx hb dL_areLooksSo_86 (by decide) (fun cc86 => ?_) (fun cc86 => ?_)
          · have hm := k_in cc86 hm
            exact J_93 u82 u83 u84 u85 _ _ hP hD hS _ (lv_sub hl [0] rfl) hm
          · have hm := k_ip cc86 hm
            refine lv_iconst (v := 1) hx hb dL_areLooksSo_89 (by decide) ?_
            refine lv_goto (tgt := 94) hx hb dL_areLooksSo_90 (by decide) ?_
            exact J_94 u82 u83 u84 u85 true _ _ hP hD hS _ (lv_sub hl [0] rfl) hm
  have J_28 : ∀ (q : Nat → Nat) (pa : Nat → Nat) (pb : Nat → Nat) (jk : JT) (t0 : Bool) (l2 : Int32) (H : Heap) (locs : List Loc), va_P D vwCl (wXt cI cJ cC cG h9 hn ap q ht h0 pa pb pc jk x) H → va_D A (wXt cI cJ cC cG h9 hn ap q ht h0 pa pb pc jk x) → va_S A z.heap H locs → ∀ ls : Array Slot, lv_has ls 8 [(0, .ref h9), (1, .int a1), (2, .int l2)] → mL_areLooksSo_28 x a1 t0 l2 = some (r) → W p l e rmL_areLooksSo z m ([.ref h9, .int a1] : List Value).toArray below meth c H locs 0 0 (k_QiE below ([.ref h9, .int a1] : List Value) D (kT cI cJ cC cG) z A (fun u : (Nat → Nat) × (Nat → Nat) × (Nat → Nat) × (JT) => (wXt cI cJ cC cG h9 hn ap (u.1) ht h0 (u.2.1) (u.2.2.1) pc (u.2.2.2) x)) (k_b r)) (F0 m 28 ls [.int (k_b t0)]) := by
    intro q pa pb jk t0 l2 H locs hP hD hS ls hl hm
    unfold mL_areLooksSo_28 at hm
    refine lv_istore_n (lv' := [(3, .int (k_b t0)), (0, .ref h9), (1, .int a1), (2, .int l2)]) hx hb dL_areLooksSo_28 rfl hl (by decide) rfl (fun ls hl => ?_)
    refine lv_aload_n hx hb dL_areLooksSo_29 rfl (lv_at hl 1 rfl) ?_
    refine lv_iload_n hx hb dL_areLooksSo_30 rfl (lv_at hl 2 rfl) ?_
    obtain ⟨r86, hc31, hm⟩ := k_bds hm
    refine k_i_sE (k_rV (As := [.int a1]) (rest := []) ⟨hx, hb, hml, hown, hts⟩ hK hN hP hD (zB_shotsByKinds hc31) (cwV 1 hts gL_areLooksSo_X9_shotsByKinds rfl rfl rfl (by decide +kernel) ⟨Nat.le_of_ble_eq_true rfl, Nat.le_of_ble_eq_true rfl⟩) rfl rfl rfl hl.1 rfl (Nat.le_of_ble_eq_true rfl) dL_areLooksSo_31 ⟨Nat.zero_le _, Nat.zero_le _⟩) hD hS hA (fun u9 H locs hP hD hS => ?_)
    obtain ⟨u87, u88, u89, u90⟩ := u9
    have hP : va_P D vwCl (wXt cI cJ cC cG h9 hn ap u87 ht h0 u88 u89 pc u90 x) H := hP
    have hD : va_D A (wXt cI cJ cC cG h9 hn ap u87 ht h0 u88 u89 pc u90 x) := hD
    refine lv_iload_n hx hb dL_areLooksSo_34 rfl (lv_at hl 3 rfl) ?_
    refine lv_icmp_ne (tgt := 93) hx hb dL_areLooksSo_35 (by decide) (fun cc35 => ?_) (fun cc35 => ?_)
    · have hm := k_in cc35 hm
      exact J_93 u87 u88 u89 u90 _ _ hP hD hS _ (lv_sub hl [1] rfl) hm
    · have hm := k_ip cc35 hm
      refine lv_iload_n hx hb dL_areLooksSo_38 rfl (lv_at hl 3 rfl) ?_
      refine lv_if_lt (tgt := 93) hx hb dL_areLooksSo_39 (by decide) (fun cc39 => ?_) (fun cc39 => ?_)
      · have hm := k_ip cc39 hm
        exact J_93 u87 u88 u89 u90 _ _ hP hD hS _ (lv_sub hl [1] rfl) hm
      · have hm := k_in cc39 hm
        refine lv_iload_n hx hb dL_areLooksSo_42 rfl (lv_at hl 3 rfl) ?_
        refine lv_bipush (v := 36) hx hb dL_areLooksSo_43 (by decide) ?_
        refine lv_icmp_gt (tgt := 93) hx hb dL_areLooksSo_45 (by decide) (fun cc45 => ?_) (fun cc45 => ?_)
        · have hm := k_ip cc45 hm
          exact J_93 u87 u88 u89 u90 _ _ hP hD hS _ (lv_sub hl [1] rfl) hm
        · have hm := k_in cc45 hm
          refine lv_iload_n hx hb dL_areLooksSo_48 rfl (lv_at hl 0 rfl) ?_
          refine lv_if_ne (tgt := 56) hx hb dL_areLooksSo_49 (by decide) (fun cc49 => ?_) (fun cc49 => ?_)
          · have hm := k_in cc49 hm
            exact J_56 u87 u88 u89 u90 _ _ hP hD hS _ (lv_sub hl [1] rfl) hm
          · have hm := k_ip cc49 hm
            refine lv_iload_n hx hb dL_areLooksSo_52 rfl (lv_at hl 3 rfl) ?_
            refine lv_if_ne (tgt := 93) hx hb dL_areLooksSo_53 (by decide) (fun cc53 => ?_) (fun cc53 => ?_)
            · have hm := k_in cc53 hm
              exact J_93 u87 u88 u89 u90 _ _ hP hD hS _ (lv_sub hl [1] rfl) hm
            · have hm := k_ip cc53 hm
              exact J_56 u87 u88 u89 u90 _ _ hP hD hS _ (lv_sub hl [1] rfl) hm
  unfold mL_areLooksSo at hm
  refine lv_aload_n hx hb dL_areLooksSo_0 rfl (lv_at hl 0 rfl) ?_
  refine lv_iload_n hx hb dL_areLooksSo_1 rfl (lv_at hl 1 rfl) ?_
  obtain ⟨r91, hc2, hm⟩ := k_bds hm
  refine k_i_sE (k_rV (As := [.int a1]) (rest := []) ⟨hx, hb, hml, hown, hts⟩ hK hN hP hD (zB_shots hc2) (cwV 1 hts gL_areLooksSo_X9_shots rfl rfl rfl (by decide +kernel) ⟨Nat.le_of_ble_eq_true rfl, Nat.le_of_ble_eq_true rfl⟩) rfl rfl rfl hl.1 rfl (Nat.le_of_ble_eq_true rfl) dL_areLooksSo_2 ⟨Nat.zero_le _, Nat.zero_le _⟩) hD hS hA (fun u9 H locs hP hD hS => ?_)
  obtain ⟨u92, u93, u94, u95⟩ := u9
  have hP : va_P D vwCl (wXt cI cJ cC cG h9 hn ap u92 ht h0 u93 u94 pc u95 x) H := hP
  have hD : va_D A (wXt cI cJ cC cG h9 hn ap u92 ht h0 u93 u94 pc u95 x) := hD
  refine lv_istore_n (lv' := [(2, .int r91), (0, .ref h9), (1, .int a1)]) hx hb dL_areLooksSo_5 rfl hl (by decide) rfl (fun ls hl => ?_)
  refine lv_aload_n hx hb dL_areLooksSo_6 rfl (lv_at hl 1 rfl) ?_
  refine lv_iconst (v := 0) hx hb dL_areLooksSo_7 (by decide) ?_
  refine lv_iload_n hx hb dL_areLooksSo_8 rfl (lv_at hl 2 rfl) ?_
  obtain ⟨r96, hc9, hm⟩ := k_bds hm
  refine k_i_sE (k_rV (As := [.int 0, .int a1]) (rest := []) ⟨hx, hb, hml, hown, hts⟩ hK hN hP hD (zB_piecesOn hc9) (cwV 2 hts gL_areLooksSo_X9_piecesOn rfl rfl rfl (by decide +kernel) ⟨Nat.le_of_ble_eq_true rfl, Nat.le_of_ble_eq_true rfl⟩) rfl rfl rfl hl.1 rfl (Nat.le_of_ble_eq_true rfl) dL_areLooksSo_9 ⟨Nat.zero_le _, Nat.zero_le _⟩) hD hS hA (fun u9 H locs hP hD hS => ?_)
  obtain ⟨u97, u98, u99, u100⟩ := u9
  have hP : va_P D vwCl (wXt cI cJ cC cG h9 hn ap u97 ht h0 u98 u99 pc u100 x) H := hP
  have hD : va_D A (wXt cI cJ cC cG h9 hn ap u97 ht h0 u98 u99 pc u100 x) := hD
  refine lv_aload_n hx hb dL_areLooksSo_12 rfl (lv_at hl 1 rfl) ?_
  refine lv_iconst (v := 1) hx hb dL_areLooksSo_13 (by decide) ?_
  refine lv_iload_n hx hb dL_areLooksSo_14 rfl (lv_at hl 2 rfl) ?_
  obtain ⟨r101, hc15, hm⟩ := k_bds hm
  refine k_i_sE (k_rV (As := [.int 1, .int a1]) (rest := [.int r96]) ⟨hx, hb, hml, hown, hts⟩ hK hN hP hD (zB_piecesOn hc15) (cwV 2 hts gL_areLooksSo_X9_piecesOn rfl rfl rfl (by decide +kernel) ⟨Nat.le_of_ble_eq_true rfl, Nat.le_of_ble_eq_true rfl⟩) rfl rfl rfl hl.1 rfl (Nat.le_of_ble_eq_true rfl) dL_areLooksSo_15 ⟨Nat.zero_le _, Nat.zero_le _⟩) hD hS hA (fun u9 H locs hP hD hS => ?_)
  obtain ⟨u102, u103, u104, u105⟩ := u9
  have hP : va_P D vwCl (wXt cI cJ cC cG h9 hn ap u102 ht h0 u103 u104 pc u105 x) H := hP
  have hD : va_D A (wXt cI cJ cC cG h9 hn ap u102 ht h0 u103 u104 pc u105 x) := hD
  refine lv_iadd hx hb dL_areLooksSo_18 ?_
  refine lv_iconst (v := 1) hx hb dL_areLooksSo_19 (by decide) ?_
  refine lv_icmp_ne (tgt := 27) hx hb dL_areLooksSo_20 (by decide) (fun cc20 => ?_) (fun cc20 => ?_)
  · have hm := k_in cc20 hm
    refine lv_iconst (v := 0) hx hb dL_areLooksSo_27 (by decide) ?_
    exact J_28 u102 u103 u104 u105 false r91 _ _ hP hD hS _ (lv_sub hl [1, 2, 0] rfl) hm
  · have hm := k_ip cc20 hm
    refine lv_iconst (v := 1) hx hb dL_areLooksSo_23 (by decide) ?_
    refine lv_goto (tgt := 28) hx hb dL_areLooksSo_24 (by decide) ?_
    exact J_28 u102 u103 u104 u105 true r91 _ _ hP hD hS _ (lv_sub hl [1, 2, 0] rfl) hm

