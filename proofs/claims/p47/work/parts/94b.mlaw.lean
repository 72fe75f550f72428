/-! the law's own methods, as pure functions over the object -/

noncomputable def mL_low (a0 : Int32) (a1 : Int32) : Option (Int32) :=
  k_gn (decide (¬ a1 = 0)) (some ((k_irem (a0 &&& 2147483647) a1)))


noncomputable def mL_way (a0 : Int32) (a1 : Int32) : Option (Int32) :=
  if 0 ≤ a1 then (if a0 = 0 then (some ((16 - a1))) else (some ((a1 + 1)))) else (some ((17 : Int32)))


noncomputable def mL_target (a0 : Int32) (a1 : Int32) (a2 : Int32) : Option (Int32) :=
  k_bd (mL_way a0 a1) (fun r1 => if 0 < (r1 - a2) then (if a0 = 0 then (some ((16 - (r1 - a2)))) else (some (((r1 - a2) - 1)))) else (some ((16 : Int32))))


noncomputable def mL_pieces (x : XT) (a1 : Int32) (a2 : Int32) : Option (Int32) :=
  if 0 ≤ a2 then (k_bd (XR_piecesOn x a1 a2) (fun r1 => some (r1))) else (k_bd (XR_onBar x a1) (fun r6 => some (r6)))


noncomputable def mL_find_4 (x : XT) (a1 : Int32) (k4 : (Int32) → (Int32) → Option (Int32)) (l2 : Int32) (l3 : Int32) : Option (Int32) :=
  if 102 ≤ l3 then (some (l2)) else (k_bd (mL_low a1 102) (fun r1 => if 0 ≤ l2 then (k4 l2 (l3 + 1)) else (k_bd (XR_whyNoStep x ((k_irem (k_irem (l3 + r1) 102) 17) - 1) (1 + ((k_irem (l3 + r1) 102) / 17))) (fun r2 => if r2 = 0 then (k4 ((32 * (1 + ((k_irem (l3 + r1) 102) / 17))) + (k_irem (k_irem (l3 + r1) 102) 17)) (l3 + 1)) else (k4 l2 (l3 + 1))))))
noncomputable def mL_find (x : XT) (a1 : Int32) : Option (Int32) :=
  k_fix (fun _ _ => none) (mL_find_4 x a1) k_F (-1) 0


noncomputable def mL_isStepped_332 (a1 : Int32) (t0 : Bool) (l5 : Int32) (l6 : Int32) (l7 : Bool) (l8 : Int32) (l9 : Int32) (l13 : Int32) (x : XT) : Option (Bool × (XT)) :=
  k_bd (XR_phase x) (fun r1 => if r1 = 3 then (if (k_b t0) = 0 then (some (false, x)) else (k_bd (XR_borneOff x l5) (fun r31 => if r31 = 6 then (k_bd (XR_diceLeft x) (fun r36 => if r36 = 0 then (k_bd (XR_pips x l5) (fun r41 => if r41 = 0 then (some (true, x)) else (some (false, x)))) else (some (false, x)))) else (some (false, x))))) else (if (k_b t0) = 0 then (some (false, x)) else (k_bd (XR_phase x) (fun r6 => if r6 = 1 then (k_bd (XR_blots x l5) (fun r11 => if r11 = l13 then (k_bd (XR_diceLeft x) (fun r16 => if r16 = (l8 - 1) then (k_bd (XR_reach x) (fun r21 => if r21 = (l9 - 1) then (if l6 = 16 then (some (true, x)) else (if (k_b l7) = 0 then (some (true, x)) else (k_bd (XR_piecesOn x l5 l6) (fun r26 => if r26 = 1 then (some (true, x)) else (some (false, x)))))) else (some (false, x)))) else (some (false, x)))) else (some (false, x)))) else (some (false, x))))))
noncomputable def mL_isStepped_331 (a1 : Int32) (l5 : Int32) (l6 : Int32) (l7 : Bool) (l8 : Int32) (l9 : Int32) (l13 : Int32) (x : XT) : Option (Bool × (XT)) :=
  mL_isStepped_332 a1 false l5 l6 l7 l8 l9 l13 x
noncomputable def mL_isStepped_323 (a1 : Int32) (t0 : Int32) (t1 : Int32) (t2 : Int32) (l5 : Int32) (l6 : Int32) (l7 : Bool) (l8 : Int32) (l9 : Int32) (l13 : Int32) (x : XT) : Option (Bool × (XT)) :=
  if t2 = (t1 - t0) then (mL_isStepped_332 a1 true l5 l6 l7 l8 l9 l13 x) else (mL_isStepped_331 a1 l5 l6 l7 l8 l9 l13 x)
noncomputable def mL_isStepped_293 (a1 : Int32) (t0 : Bool) (t1 : Int32) (t2 : Int32) (l3 : Int32) (l4 : Int32) (l5 : Int32) (l6 : Int32) (l7 : Bool) (l8 : Int32) (l9 : Int32) (l13 : Int32) (l14 : Int32) (x : XT) : Option (Bool × (XT)) :=
  if t2 = (t1 + (k_b t0)) then (k_bd (XR_pips x l5) (fun r46 => if l6 = 16 then (k_bd (mL_way l5 l3) (fun r51 => mL_isStepped_323 a1 r51 l14 r46 l5 l6 l7 l8 l9 l13 x)) else (mL_isStepped_323 a1 l4 l14 r46 l5 l6 l7 l8 l9 l13 x))) else (mL_isStepped_331 a1 l5 l6 l7 l8 l9 l13 x)
noncomputable def mL_isStepped_269 (a1 : Int32) (t0 : Bool) (t1 : Int32) (t2 : Int32) (l3 : Int32) (l4 : Int32) (l5 : Int32) (l6 : Int32) (l7 : Bool) (l8 : Int32) (l9 : Int32) (l12 : Int32) (l13 : Int32) (l14 : Int32) (x : XT) : Option (Bool × (XT)) :=
  if t2 = (t1 + (k_b t0)) then (k_bd (XR_borneOff x l5) (fun r52 => if l6 = 16 then (mL_isStepped_293 a1 true l12 r52 l3 l4 l5 l6 l7 l8 l9 l13 l14 x) else (mL_isStepped_293 a1 false l12 r52 l3 l4 l5 l6 l7 l8 l9 l13 l14 x))) else (mL_isStepped_331 a1 l5 l6 l7 l8 l9 l13 x)
noncomputable def mL_isStepped_245 (a1 : Int32) (t0 : Bool) (t1 : Int32) (t2 : Int32) (l3 : Int32) (l4 : Int32) (l5 : Int32) (l6 : Int32) (l7 : Bool) (l8 : Int32) (l9 : Int32) (l11 : Int32) (l12 : Int32) (l13 : Int32) (l14 : Int32) (x : XT) : Option (Bool × (XT)) :=
  if t2 = (t1 + (k_b t0)) then (k_bd (XR_onBar x (1 - l5)) (fun r57 => if (k_b l7) = 0 then (mL_isStepped_269 a1 false l11 r57 l3 l4 l5 l6 l7 l8 l9 l12 l13 l14 x) else (mL_isStepped_269 a1 true l11 r57 l3 l4 l5 l6 l7 l8 l9 l12 l13 l14 x))) else (mL_isStepped_331 a1 l5 l6 l7 l8 l9 l13 x)
noncomputable def mL_isStepped_206 (a1 : Int32) (t0 : Bool) (l3 : Int32) (l4 : Int32) (l5 : Int32) (l6 : Int32) (l7 : Bool) (l8 : Int32) (l9 : Int32) (l10 : Int32) (l11 : Int32) (l12 : Int32) (l13 : Int32) (l14 : Int32) (x : XT) : Option (Bool × (XT)) :=
  if (k_b t0) = 0 then (mL_isStepped_331 a1 l5 l6 l7 l8 l9 l13 x) else (k_bd2 (XN_step x l3 l4) (fun r62 w63 => if (k_b r62) = (k_b l7) then (k_bd (XR_hits w63 (1 - l5)) (fun r68 => if (k_b l7) = 0 then (mL_isStepped_245 a1 false l10 r68 l3 l4 l5 l6 l7 l8 l9 l11 l12 l13 l14 w63) else (mL_isStepped_245 a1 true l10 r68 l3 l4 l5 l6 l7 l8 l9 l11 l12 l13 l14 w63))) else (mL_isStepped_331 a1 l5 l6 l7 l8 l9 l13 w63)))
noncomputable def mL_isStepped_205 (a1 : Int32) (l3 : Int32) (l4 : Int32) (l5 : Int32) (l6 : Int32) (l7 : Bool) (l8 : Int32) (l9 : Int32) (l10 : Int32) (l11 : Int32) (l12 : Int32) (l13 : Int32) (l14 : Int32) (x : XT) : Option (Bool × (XT)) :=
  mL_isStepped_206 a1 false l3 l4 l5 l6 l7 l8 l9 l10 l11 l12 l13 l14 x
noncomputable def mL_isStepped_175 (a1 : Int32) (l3 : Int32) (l4 : Int32) (l5 : Int32) (l6 : Int32) (l7 : Bool) (l8 : Int32) (l9 : Int32) (l10 : Int32) (l11 : Int32) (l12 : Int32) (l13 : Int32) (l14 : Int32) (x : XT) : Option (Bool × (XT)) :=
  if l9 ≤ 0 then (mL_isStepped_205 a1 l3 l4 l5 l6 l7 l8 l9 l10 l11 l12 l13 l14 x) else (if l6 = 16 then (mL_isStepped_206 a1 true l3 l4 l5 l6 l7 l8 l9 l10 l11 l12 l13 l14 x) else (k_bd (XR_piecesOn x (1 - l5) l6) (fun r73 => if 2 ≤ r73 then (mL_isStepped_205 a1 l3 l4 l5 l6 l7 l8 l9 l10 l11 l12 l13 l14 x) else (mL_isStepped_206 a1 true l3 l4 l5 l6 l7 l8 l9 l10 l11 l12 l13 l14 x))))
noncomputable def mL_isStepped_93 (a1 : Int32) (t0 : Bool) (l3 : Int32) (l4 : Int32) (l5 : Int32) (l6 : Int32) (x : XT) : Option (Bool × (XT)) :=
  k_bd (XR_diceLeft x) (fun r78 => k_bd (XR_reach x) (fun r83 => k_bd (XR_hits x (1 - l5)) (fun r88 => k_bd (XR_onBar x (1 - l5)) (fun r93 => k_bd (XR_borneOff x l5) (fun r98 => k_bd (XR_blotsBehind x l3 l4) (fun r103 => k_bd (XR_pips x l5) (fun r108 => k_bd (mL_pieces x l5 l3) (fun r113 => if r113 ≤ 0 then (mL_isStepped_205 a1 l3 l4 l5 l6 t0 r78 r83 r88 r93 r98 r103 r108 x) else (if l3 < 0 then (mL_isStepped_175 a1 l3 l4 l5 l6 t0 r78 r83 r88 r93 r98 r103 r108 x) else (k_bd (XR_onBar x l5) (fun r118 => if r118 = 0 then (mL_isStepped_175 a1 l3 l4 l5 l6 t0 r78 r83 r88 r93 r98 r103 r108 x) else (mL_isStepped_205 a1 l3 l4 l5 l6 t0 r78 r83 r88 r93 r98 r103 r108 x))))))))))))
noncomputable def mL_isStepped_92 (a1 : Int32) (l3 : Int32) (l4 : Int32) (l5 : Int32) (l6 : Int32) (x : XT) : Option (Bool × (XT)) :=
  mL_isStepped_93 a1 false l3 l4 l5 l6 x
noncomputable def mL_isStepped (x : XT) (a1 : Int32) : Option (Bool × (XT)) :=
  k_bd (mL_find x a1) (fun r123 => if 0 ≤ r123 then (k_bd (XR_mover x) (fun r128 => k_bd (mL_target r128 ((k_irem r123 32) - 1) (r123 / 32)) (fun r133 => if 16 ≤ r133 then (mL_isStepped_92 a1 ((k_irem r123 32) - 1) (r123 / 32) r128 r133 x) else (k_bd (XR_piecesOn x (1 - r128) r133) (fun r134 => if r134 = 1 then (mL_isStepped_93 a1 true ((k_irem r123 32) - 1) (r123 / 32) r128 r133 x) else (mL_isStepped_92 a1 ((k_irem r123 32) - 1) (r123 / 32) r128 r133 x)))))) else (k_bd (XR_reach x) (fun r139 => if r139 = 0 then (k_bd (XR_possibleSteps x) (fun r144 => if r144 = 0 then (k_bd (XR_plays x) (fun r149 => if r149 = 1 then (some (true, x)) else (some (false, x)))) else (some (false, x)))) else (some (false, x)))))


noncomputable def mL_isRolled_81 (a1 : Int32) (t0 : Int32) (t1 : Int32) (l2 : Int32) (l3 : Int32) (l4 : Int32) (l6 : Int32) (x : XT) : Option (Bool × (XT)) :=
  if t1 = t0 then (k_bd (XR_diceLeft x) (fun r1 => if r1 = l6 then (k_bd (XR_phase x) (fun r6 => if r6 = 1 then (k_bd (XR_dieLeft x 0) (fun r11 => if r11 = l2 then (k_bd (XR_dieLeft x 1) (fun r16 => if r16 = l3 then (k_bd (XR_plays x) (fun r21 => if r21 = l4 then (k_bd (XR_reach x) (fun r26 => if l6 < r26 then (some (false, x)) else (some (true, x)))) else (some (false, x)))) else (some (false, x)))) else (some (false, x)))) else (some (false, x)))) else (some (false, x)))) else (some (false, x))
noncomputable def mL_isRolled_54 (a1 : Int32) (t0 : Bool) (l2 : Int32) (l3 : Int32) (l4 : Int32) (x : XT) : Option (Bool × (XT)) :=
  k_bd2 (XN_roll x l2 l3) (fun r31 w32 => if (k_b t0) = 0 then (some (false, w32)) else (if l2 = l3 then (mL_isRolled_81 a1 4 r31 l2 l3 l4 r31 w32) else (mL_isRolled_81 a1 2 r31 l2 l3 l4 r31 w32)))
noncomputable def mL_isRolled_29 (a1 : Int32) (t0 : Int32) (l2 : Int32) (x : XT) : Option (Bool × (XT)) :=
  k_bd (XR_playsWith x l2 t0) (fun r37 => k_bd (XR_playsWith x t0 l2) (fun r42 => if r42 = r37 then (mL_isRolled_54 a1 true l2 t0 r37 x) else (mL_isRolled_54 a1 false l2 t0 r37 x)))
noncomputable def mL_isRolled (x : XT) (a1 : Int32) : Option (Bool × (XT)) :=
  k_bd (mL_low a1 6) (fun r47 => if (a1 &&& 3) = 0 then (mL_isRolled_29 a1 (1 + r47) (1 + r47) x) else (k_bd (mL_low (a1 >>> ((3 : Int32) &&& 31)) 6) (fun r48 => mL_isRolled_29 a1 (1 + r48) (1 + r47) x)))


noncomputable def mL_isOffered_66 (a1 : Bool) (t0 : Bool) (l2 : Int32) (l3 : Int32) (l4 : Int32) (x : XT) : Option (Bool × (XT)) :=
  if (k_b a1) = 0 then (if (k_b t0) = 0 then (some (false, x)) else (k_bd2 (XN_drop x) (fun r1 w2 => if r1 = (l4 + l2) then (k_bd (XR_phase w2) (fun r7 => if r7 = 3 then (k_bd (XR_score w2 l3) (fun r12 => if r12 = (l4 + l2) then (some (true, w2)) else (some (false, w2)))) else (some (false, w2)))) else (some (false, w2))))) else (if (k_b t0) = 0 then (some (false, x)) else (k_bd2 (XN_take x) (fun r17 w18 => if r17 = (2 * l2) then (k_bd (XR_stake w18) (fun r23 => if r23 = (2 * l2) then (k_bd (XR_cubeOf w18) (fun r28 => if r28 = (1 - l3) then (k_bd (XR_phase w18) (fun r33 => if r33 = 0 then (k_bd (XR_mover w18) (fun r38 => if r38 = l3 then (some (true, w18)) else (some (false, w18)))) else (some (false, w18)))) else (some (false, w18)))) else (some (false, w18)))) else (some (false, w18)))))
noncomputable def mL_isOffered_65 (a1 : Bool) (l2 : Int32) (l3 : Int32) (l4 : Int32) (x : XT) : Option (Bool × (XT)) :=
  mL_isOffered_66 a1 false l2 l3 l4 x
noncomputable def mL_isOffered (x : XT) (a1 : Bool) : Option (Bool × (XT)) :=
  k_bd (XR_stake x) (fun r43 => k_bd (XR_mover x) (fun r48 => k_bd (XR_score x r48) (fun r53 => if 32 < r43 then (some (true, x)) else (k_bd (XR_cubeOf x) (fun r58 => if r58 = (1 - r48) then (some (true, x)) else (k_bd2 (XN_offer x) (fun r63 w64 => if r63 = (2 * r43) then (k_bd (XR_phase w64) (fun r69 => if r69 = 2 then (k_bd (XR_stake w64) (fun r74 => if r74 = r43 then (mL_isOffered_66 a1 true r43 r48 r53 w64) else (mL_isOffered_65 a1 r43 r48 r53 w64))) else (mL_isOffered_65 a1 r43 r48 r53 w64))) else (mL_isOffered_65 a1 r43 r48 r53 w64))))))))


noncomputable def mL_isAnew (x : XT) : Option (Bool × (XT)) :=
  k_bd (XR_mover x) (fun r1 => k_bd2 (XN_newGame x) (fun r6 w7 => if r6 = (1 - r1) then (k_bd (XR_mover w7) (fun r12 => if r12 = (1 - r1) then (k_bd (XR_stake w7) (fun r17 => if r17 = 1 then (k_bd (XR_cubeOf w7) (fun r22 => if r22 = (-1) then (k_bd (XR_phase w7) (fun r27 => if r27 = 0 then (k_bd (XR_pips w7 0) (fun r32 => if r32 = 74 then (k_bd (XR_pips w7 1) (fun r37 => if r37 = 74 then (k_bd (XR_blots w7 0) (fun r42 => if r42 = 0 then (k_bd (XR_blots w7 1) (fun r47 => if r47 = 0 then (some (true, w7)) else (some (false, w7)))) else (some (false, w7)))) else (some (false, w7)))) else (some (false, w7)))) else (some (false, w7)))) else (some (false, w7)))) else (some (false, w7)))) else (some (false, w7)))) else (some (false, w7))))


noncomputable def mL_isCarried_108 (a1 : Int32) (l2 : Int32) (l4 : Int32) (x : XT) : Option (Bool × (XT)) :=
  k_bd (XR_piecesOn x l2 l4) (fun r1 => if r1 ≤ 0 then (some (false, x)) else (some (true, x)))
noncomputable def mL_isCarried (x : XT) (a1 : Int32) : Option (Bool × (XT)) :=
  k_bd (mL_low (a1 >>> ((1 : Int32) &&& 31)) 16) (fun r6 => k_bd (mL_low (a1 >>> ((5 : Int32) &&& 31)) 16) (fun r7 => k_bd (XR_piecesOn x (a1 &&& 1) r6) (fun r8 => if r8 = 0 then (some (true, x)) else (k_bd (XR_piecesOn x (1 - (a1 &&& 1)) r7) (fun r13 => if r13 ≤ 0 then (k_bd (XR_pips x (a1 &&& 1)) (fun r18 => k_bd (XR_piecesOn x (a1 &&& 1) r7) (fun r23 => k_bd2 (XN_carry x (a1 &&& 1) r6 r7) (fun r28 w29 => k_bd (mL_way (a1 &&& 1) r6) (fun r34 => k_bd (mL_way (a1 &&& 1) r7) (fun r35 => if r28 = ((r18 - r34) + r35) then (if r6 = r7 then (mL_isCarried_108 a1 (a1 &&& 1) r7 w29) else (k_bd (XR_piecesOn w29 (a1 &&& 1) r7) (fun r36 => if r36 = (r23 + 1) then (mL_isCarried_108 a1 (a1 &&& 1) r7 w29) else (some (false, w29))))) else (some (false, w29)))))))) else (some (true, x)))))))


noncomputable def mL_does_69 (a1 : Int32) (a2 : Int32) (t0 : Bool) (x : XT) : Option (Bool × (XT)) :=
  k_bd2 (mL_isOffered x t0) (fun r1 w2 => some (r1, w2))
noncomputable def mL_does (x : XT) (a1 : Int32) (a2 : Int32) : Option (Bool × (XT)) :=
  k_bd (XR_phase x) (fun r7 => if r7 = 0 then (if 2 ≤ (a1 &&& 15) then (if (a1 &&& 15) = 2 then (if (a2 &&& 7) ≤ 0 then (mL_does_69 a1 a2 false x) else (mL_does_69 a1 a2 true x)) else (k_bd2 (mL_isRolled x a2) (fun r12 w13 => some (r12, w13)))) else (k_bd2 (mL_isCarried x a2) (fun r18 w19 => some (r18, w19)))) else (if r7 = 1 then (k_bd (XR_mover x) (fun r24 => k_bd (XR_reach x) (fun r29 => if r29 ≤ 0 then (k_bd2 (XN_endTurn x) (fun r34 w35 => if r34 = (1 - r24) then (k_bd (XR_mover w35) (fun r40 => if r40 = (1 - r24) then (k_bd (XR_phase w35) (fun r45 => if r45 = 0 then (k_bd (XR_diceLeft w35) (fun r50 => if r50 = 0 then (some (true, w35)) else (some (false, w35)))) else (some (false, w35)))) else (some (false, w35)))) else (some (false, w35)))) else (k_bd2 (mL_isStepped x a2) (fun r55 w56 => some (r55, w56)))))) else (if r7 = 2 then (some (false, x)) else (k_bd2 (mL_isAnew x) (fun r61 w62 => some (r61, w62))))))


noncomputable def mL_isPlayerSo_115 (x : XT) (a1 : Int32) (k36 : (Int32) → (Int32) → (Int32) → (Int32) → (Int32) → (Bool) → (Int32) → Option (Bool)) (t0 : Int32) (l2 : Int32) (l3 : Int32) (l4 : Int32) (l6 : Int32) (l7 : Bool) (l8 : Int32) (l9 : Int32) : Option (Bool) :=
  if (k_b l7) = 0 then (k36 l2 l3 l4 t0 l6 false (l8 + 1)) else (if l9 = 0 then (k36 l2 l3 l4 t0 l6 true (l8 + 1)) else (k_bd (XR_piecesOn x (1 - a1) l8) (fun r27 => if r27 = 0 then (k36 l2 l3 l4 t0 l6 true (l8 + 1)) else (k36 l2 l3 l4 t0 l6 false (l8 + 1)))))
noncomputable def mL_isPlayerSo_99 (x : XT) (a1 : Int32) (k36 : (Int32) → (Int32) → (Int32) → (Int32) → (Int32) → (Bool) → (Int32) → Option (Bool)) (t0 : Int32) (l2 : Int32) (l3 : Int32) (l4 : Int32) (l5 : Int32) (l7 : Bool) (l8 : Int32) (l9 : Int32) : Option (Bool) :=
  if t0 ≤ l5 then (mL_isPlayerSo_115 x a1 k36 l5 l2 l3 l4 t0 l7 l8 l9) else (mL_isPlayerSo_115 x a1 k36 t0 l2 l3 l4 t0 l7 l8 l9)
noncomputable def mL_isPlayerSo_82 (x : XT) (a1 : Int32) (k36 : (Int32) → (Int32) → (Int32) → (Int32) → (Int32) → (Bool) → (Int32) → Option (Bool)) (t0 : Bool) (t1 : Int32) (l2 : Int32) (l3 : Int32) (l5 : Int32) (l6 : Int32) (l7 : Bool) (l8 : Int32) (l9 : Int32) : Option (Bool) :=
  if l9 ≤ 1 then (mL_isPlayerSo_99 x a1 k36 0 l2 l3 (t1 + (k_b t0)) l5 l7 l8 l9) else (mL_isPlayerSo_99 x a1 k36 (l6 + 1) l2 l3 (t1 + (k_b t0)) l5 l7 l8 l9)
noncomputable def mL_isPlayerSo_158 (x : XT) (a1 : Int32) (k158 : (Int32) → (Int32) → (Int32) → (Int32) → (Bool) → (Int32) → (Int32) → Option (Bool)) (l2 : Int32) (l3 : Int32) (l4 : Int32) (l5 : Int32) (l7 : Bool) (l8 : Int32) (l9 : Int32) : Option (Bool) :=
  if 7 ≤ l9 then (if (k_b l7) = 0 then (some (false)) else (if l2 = 6 then (k_bd (XR_pips x a1) (fun r1 => if r1 = l3 then (k_bd (XR_blots x a1) (fun r6 => if r6 = l4 then (k_bd (XR_blockade x a1) (fun r11 => if r11 = l5 then (k_bd (XR_entering x a1) (fun r16 => if r16 = (36 - (l8 * l8)) then (some (true)) else (some (false)))) else (some (false)))) else (some (false)))) else (some (false)))) else (some (false)))) else (k_bd (mL_target a1 (-1) l9) (fun r21 => k_bd (XR_piecesOn x (1 - a1) r21) (fun r22 => if r22 ≤ 1 then (k158 l2 l3 l4 l5 l7 (l8 + 0) (l9 + 1)) else (k158 l2 l3 l4 l5 l7 (l8 + 1) (l9 + 1)))))
noncomputable def mL_isPlayerSo_36 (x : XT) (a1 : Int32) (k36 : (Int32) → (Int32) → (Int32) → (Int32) → (Int32) → (Bool) → (Int32) → Option (Bool)) (l2 : Int32) (l3 : Int32) (l4 : Int32) (l5 : Int32) (l6 : Int32) (l7 : Bool) (l8 : Int32) : Option (Bool) :=
  if 16 ≤ l8 then (k_fix (fun _ _ _ _ _ _ _ => none) (mL_isPlayerSo_158 x a1) k_F l2 l3 l4 l5 l7 0 1) else (k_bd (XR_piecesOn x a1 l8) (fun r32 => k_bd (mL_way a1 l8) (fun r37 => if r32 = 1 then (mL_isPlayerSo_82 x a1 k36 true l4 (l2 + r32) (l3 + (r32 * r37)) l5 l6 l7 l8 r32) else (mL_isPlayerSo_82 x a1 k36 false l4 (l2 + r32) (l3 + (r32 * r37)) l5 l6 l7 l8 r32))))
noncomputable def mL_isPlayerSo (x : XT) (a1 : Int32) : Option (Bool) :=
  k_bd (XR_onBar x a1) (fun r38 => k_bd (XR_borneOff x a1) (fun r43 => k_bd (XR_onBar x a1) (fun r48 => k_fix (fun _ _ _ _ _ _ _ => none) (mL_isPlayerSo_36 x a1) k_F (r38 + r43) (17 * r48) 0 0 0 true 0)))


noncomputable def mL_areLooksSo_230 (x : XT) (a1 : Int32) (t0 : Bool) (l6 : Int32) (l7 : Int32) : Option (Bool) :=
  if (k_b t0) = 0 then (some (false)) else (if l6 = 0 then (k_bd (XR_lead x) (fun r11 => k_gn (k_nn (FP.dmul r11 4611686018427387904)) (if (Op.cmpValue (FP.dcmp (FP.dmul r11 4611686018427387904) 4607182418800017408) CmpOp.l) = 0 then (some (true)) else (some (false))))) else (k_bd (XR_lead x) (fun r1 => k_gn (k_nn (FP.dmul r1 (FP.i2d l6))) (if (Op.cmpValue (FP.dcmp (FP.dmul r1 (FP.i2d l6)) (FP.i2d (l7 - 1))) CmpOp.l) ≤ 0 then (some (false)) else (k_bd (XR_lead x) (fun r6 => k_gn (k_nn (FP.dmul r6 (FP.i2d l6))) (if 0 ≤ (Op.cmpValue (FP.dcmp (FP.dmul r6 (FP.i2d l6)) (FP.i2d (l7 + 1))) CmpOp.g) then (some (false)) else (some (true)))))))))
noncomputable def mL_areLooksSo_229 (x : XT) (a1 : Int32) (l6 : Int32) (l7 : Int32) : Option (Bool) :=
  mL_areLooksSo_230 x a1 false l6 l7
noncomputable def mL_areLooksSo_207 (x : XT) (a1 : Int32) (t0 : Bool) (t1 : Bool) (l6 : Int32) (l7 : Int32) : Option (Bool) :=
  if (k_b t1) = (k_b t0) then (k_bd (XR_phase x) (fun r16 => if r16 = 1 then (mL_areLooksSo_230 x a1 true l6 l7) else (k_bd (XR_diceLeft x) (fun r21 => if r21 = 0 then (mL_areLooksSo_230 x a1 true l6 l7) else (mL_areLooksSo_229 x a1 l6 l7))))) else (mL_areLooksSo_229 x a1 l6 l7)
noncomputable def mL_areLooksSo_195 (x : XT) (a1 : Int32) (t0 : Bool) (l6 : Int32) (l7 : Int32) : Option (Bool) :=
  k_bd (XR_reach x) (fun r26 => if r26 = 0 then (mL_areLooksSo_207 x a1 true t0 l6 l7) else (mL_areLooksSo_207 x a1 false t0 l6 l7))
noncomputable def mL_areLooksSo_102 (x : XT) (a1 : Int32) (k102 : (Bool) → (Int32) → (Int32) → Option (Bool)) (l4 : Bool) (l5 : Int32) (l6 : Int32) : Option (Bool) :=
  if 102 ≤ l6 then (k_bd (XR_pips x 0) (fun r31 => k_bd (XR_pips x 1) (fun r36 => k_bd (XR_mover x) (fun r41 => k_bd (XR_pips x (1 - r41)) (fun r46 => if (k_b l4) = 0 then (mL_areLooksSo_229 x a1 (r31 + r36) r46) else (k_bd (XR_possibleSteps x) (fun r51 => if r51 = l5 then (if l5 = 0 then (mL_areLooksSo_195 x a1 true (r31 + r36) r46) else (mL_areLooksSo_195 x a1 false (r31 + r36) r46)) else (mL_areLooksSo_229 x a1 (r31 + r36) r46)))))))) else (k_bd (XR_whyNoStep x ((k_irem l6 17) - 1) (1 + (l6 / 17))) (fun r56 => if r56 = 0 then (k102 l4 (l5 + 1) (l6 + 1)) else (k102 l4 (l5 + 0) (l6 + 1))))
noncomputable def mL_areLooksSo_94 (x : XT) (a1 : Int32) (t0 : Bool) : Option (Bool) :=
  k_fix (fun _ _ _ => none) (mL_areLooksSo_102 x a1) k_F t0 0 0
noncomputable def mL_areLooksSo_93 (x : XT) (a1 : Int32) : Option (Bool) :=
  mL_areLooksSo_94 x a1 false
noncomputable def mL_areLooksSo_56 (x : XT) (a1 : Int32) : Option (Bool) :=
  k_bd (XR_playsByOrders x) (fun r61 => k_bd (XR_plays x) (fun r66 => if r61 = r66 then (k_bd (XR_plays x) (fun r71 => if r71 ≤ 0 then (mL_areLooksSo_93 x a1 ) else (k_bd (XR_reach x) (fun r76 => if 0 < r76 then (mL_areLooksSo_94 x a1 true) else (k_bd (XR_plays x) (fun r81 => if r81 = 1 then (mL_areLooksSo_94 x a1 true) else (mL_areLooksSo_93 x a1 ))))))) else (mL_areLooksSo_93 x a1 )))
noncomputable def mL_areLooksSo_28 (x : XT) (a1 : Int32) (t0 : Bool) (l2 : Int32) : Option (Bool) :=
  k_bd (XR_shotsByKinds x a1) (fun r86 => if r86 = l2 then (if l2 < 0 then (mL_areLooksSo_93 x a1 ) else (if 36 < l2 then (mL_areLooksSo_93 x a1 ) else (if (k_b t0) = 0 then (if l2 = 0 then (mL_areLooksSo_56 x a1 ) else (mL_areLooksSo_93 x a1 )) else (mL_areLooksSo_56 x a1 )))) else (mL_areLooksSo_93 x a1 ))
noncomputable def mL_areLooksSo (x : XT) (a1 : Int32) : Option (Bool) :=
  k_bd (XR_shots x a1) (fun r91 => k_bd (XR_piecesOn x 0 a1) (fun r96 => k_bd (XR_piecesOn x 1 a1) (fun r101 => if (r96 + r101) = 1 then (mL_areLooksSo_28 x a1 true r91) else (mL_areLooksSo_28 x a1 false r91))))

