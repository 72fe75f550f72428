def mX9_roll_14 (c_mover : Int32) (c_stake : Int32) (c_cube : Int32) (c_pieces0 : Int64) (c_pieces1 : Int64) (c_score0 : Int32) (c_score1 : Int32) (c_hits0 : Int32) (c_hits1 : Int32) (c_stopped : Bool) (c_stopPart : Int32) (a1 : Int32) (a2 : Int32) (cnt : Int32) (G : Nat → GT) (c_phase : Int32) (c_dice : Int32) : Option (Int32 × (Int32) × (Nat → GT) × (Int32) × (Int32)) :=
  none
def mX9_roll (cnt : Int32) (G : Nat → GT) (c_mover : Int32) (c_phase : Int32) (c_dice : Int32) (c_stake : Int32) (c_cube : Int32) (c_pieces0 : Int64) (c_pieces1 : Int64) (c_score0 : Int32) (c_score1 : Int32) (c_hits0 : Int32) (c_hits1 : Int32) (c_stopped : Bool) (c_stopPart : Int32) (a1 : Int32) (a2 : Int32) : Option (Int32 × (Int32) × (Nat → GT) × (Int32) × (Int32)) :=
  k_bd (mX0_isDie a1) (fun r1 => if (k_b r1) = 0 then (mX9_roll_14 c_mover c_stake c_cube c_pieces0 c_pieces1 c_score0 c_score1 c_hits0 c_hits1 c_stopped c_stopPart a1 a2 cnt G c_phase c_dice) else (k_bd (mX0_isDie a2) (fun r2 => if (k_b r2) = 0 then (mX9_roll_14 c_mover c_stake c_cube c_pieces0 c_pieces1 c_score0 c_score1 c_hits0 c_hits1 c_stopped c_stopPart a1 a2 cnt G c_phase c_dice) else (k_bd (mX1_awaitsRoll c_phase) (fun r3 => if (k_b r3) = 0 then (none) else (k_bd2 (mX2_save cnt G c_mover c_phase c_dice c_stake c_cube c_pieces0 c_pieces1 c_score0 c_score1 c_hits0 c_hits1 c_stopped c_stopPart) (fun w4 w5 => k_bd2 (mX1_doRoll c_phase c_dice a1 a2) (fun w7 w8 => k_bd (mX0_count w8) (fun r9 => some (r9, w4, w5, w7, w8))))))))))

def mX9_isPoint (a0 : Int32) : Option (Bool) :=
  if a0 < 0 then (some (false)) else (if 16 ≤ a0 then (some (false)) else (some (true)))

def mX9_isPointOrBar (a0 : Int32) : Option (Bool) :=
  if a0 = (-1) then (some (true)) else (k_bd (mX9_isPoint a0) (fun r1 => if (k_b r1) = 0 then (some (false)) else (some (true))))

def mX9_step (cnt : Int32) (G : Nat → GT) (c_mover : Int32) (c_phase : Int32) (c_dice : Int32) (c_stake : Int32) (c_cube : Int32) (c_pieces0 : Int64) (c_pieces1 : Int64) (c_score0 : Int32) (c_score1 : Int32) (c_hits0 : Int32) (c_hits1 : Int32) (c_stopped : Bool) (c_stopPart : Int32) (a1 : Int32) (a2 : Int32) : Option (Bool × (Int32) × (Nat → GT) × (Int32) × (Int32) × (Int64) × (Int64) × (Int32) × (Int32) × (Int32) × (Int32)) :=
  k_bd (mX9_isPointOrBar a1) (fun r1 => if (k_b r1) = 0 then (none) else (k_bd (mX0_isDie a2) (fun r2 => if (k_b r2) = 0 then (none) else (k_bd (mX1_reasonAgainst c_mover c_dice c_pieces0 c_pieces1 a1 a2) (fun r3 => if r3 = 0 then (k_bd2 (mX2_save cnt G c_mover c_phase c_dice c_stake c_cube c_pieces0 c_pieces1 c_score0 c_score1 c_hits0 c_hits1 c_stopped c_stopPart) (fun w4 w5 => k_bd9 (mX1_doStep c_mover c_phase c_dice c_stake c_pieces0 c_pieces1 c_score0 c_score1 c_hits0 c_hits1 a1 a2) (fun r7 w8 w9 w10 w11 w12 w13 w14 w15 => some (r7, w4, w5, w8, w9, w10, w11, w12, w13, w14, w15)))) else (none))))))

def mX9_endTurn (cnt : Int32) (G : Nat → GT) (c_mover : Int32) (c_phase : Int32) (c_dice : Int32) (c_stake : Int32) (c_cube : Int32) (c_pieces0 : Int64) (c_pieces1 : Int64) (c_score0 : Int32) (c_score1 : Int32) (c_hits0 : Int32) (c_hits1 : Int32) (c_stopped : Bool) (c_stopPart : Int32) : Option (Int32 × (Int32) × (Nat → GT) × (Int32) × (Int32) × (Int32)) :=
  k_bd (mX1_canEndTurn c_mover c_phase c_dice c_pieces0 c_pieces1) (fun r1 => if (k_b r1) = 0 then (none) else (k_bd2 (mX2_save cnt G c_mover c_phase c_dice c_stake c_cube c_pieces0 c_pieces1 c_score0 c_score1 c_hits0 c_hits1 c_stopped c_stopPart) (fun w2 w3 => k_bd3 (mX1_doEndTurn c_mover c_phase c_dice) (fun w5 w6 w7 => some (w5, w2, w3, w5, w6, w7)))))

def mX9_isPlayer (a0 : Int32) : Option (Bool) :=
  if a0 = 0 then (some (true)) else (if a0 = 1 then (some (true)) else (some (false)))

def mX9_isPlace (a0 : Int32) : Option (Bool) :=
  k_bd (mX9_isPointOrBar a0) (fun r1 => if (k_b r1) = 0 then (if a0 = 16 then (some (true)) else (some (false))) else (some (true)))

def mX9_carry_21 (c_mover : Int32) (c_phase : Int32) (c_dice : Int32) (c_stake : Int32) (c_cube : Int32) (c_score0 : Int32) (c_score1 : Int32) (c_hits0 : Int32) (c_hits1 : Int32) (c_stopped : Bool) (c_stopPart : Int32) (a1 : Int32) (a2 : Int32) (a3 : Int32) (cnt : Int32) (G : Nat → GT) (c_pieces0 : Int64) (c_pieces1 : Int64) : Option (Int32 × (Int32) × (Nat → GT) × (Int64) × (Int64)) :=
  none
def mX9_carry (cnt : Int32) (G : Nat → GT) (c_mover : Int32) (c_phase : Int32) (c_dice : Int32) (c_stake : Int32) (c_cube : Int32) (c_pieces0 : Int64) (c_pieces1 : Int64) (c_score0 : Int32) (c_score1 : Int32) (c_hits0 : Int32) (c_hits1 : Int32) (c_stopped : Bool) (c_stopPart : Int32) (a1 : Int32) (a2 : Int32) (a3 : Int32) : Option (Int32 × (Int32) × (Nat → GT) × (Int64) × (Int64)) :=
  k_bd (mX9_isPlayer a1) (fun r1 => if (k_b r1) = 0 then (mX9_carry_21 c_mover c_phase c_dice c_stake c_cube c_score0 c_score1 c_hits0 c_hits1 c_stopped c_stopPart a1 a2 a3 cnt G c_pieces0 c_pieces1) else (k_bd (mX9_isPlace a2) (fun r2 => if (k_b r2) = 0 then (mX9_carry_21 c_mover c_phase c_dice c_stake c_cube c_score0 c_score1 c_hits0 c_hits1 c_stopped c_stopPart a1 a2 a3 cnt G c_pieces0 c_pieces1) else (k_bd (mX9_isPlace a3) (fun r3 => if (k_b r3) = 0 then (mX9_carry_21 c_mover c_phase c_dice c_stake c_cube c_score0 c_score1 c_hits0 c_hits1 c_stopped c_stopPart a1 a2 a3 cnt G c_pieces0 c_pieces1) else (k_bd (mX1_canCarry c_phase c_pieces0 c_pieces1 a1 a2 a3) (fun r4 => if (k_b r4) = 0 then (none) else (k_bd2 (mX2_save cnt G c_mover c_phase c_dice c_stake c_cube c_pieces0 c_pieces1 c_score0 c_score1 c_hits0 c_hits1 c_stopped c_stopPart) (fun w5 w6 => k_bd2 (mX1_doCarry c_pieces0 c_pieces1 a1 a2 a3) (fun w8 w9 => k_bd (mX1_piecesOf w8 w9 a1) (fun r10 => k_bd (mX3_sumOfWays r10) (fun r11 => some (r11, w5, w6, w8, w9)))))))))))))

def mX9_offer (cnt : Int32) (G : Nat → GT) (c_mover : Int32) (c_phase : Int32) (c_dice : Int32) (c_stake : Int32) (c_cube : Int32) (c_pieces0 : Int64) (c_pieces1 : Int64) (c_score0 : Int32) (c_score1 : Int32) (c_hits0 : Int32) (c_hits1 : Int32) (c_stopped : Bool) (c_stopPart : Int32) : Option (Int32 × (Int32) × (Nat → GT) × (Int32)) :=
  k_bd (mX1_canOffer c_mover c_phase c_stake c_cube) (fun r1 => if (k_b r1) = 0 then (none) else (k_bd2 (mX2_save cnt G c_mover c_phase c_dice c_stake c_cube c_pieces0 c_pieces1 c_score0 c_score1 c_hits0 c_hits1 c_stopped c_stopPart) (fun w2 w3 => k_bd (mX1_doOffer c_phase) (fun w5 => some ((2 * c_stake), w2, w3, w5)))))

def mX9_take (cnt : Int32) (G : Nat → GT) (c_mover : Int32) (c_phase : Int32) (c_dice : Int32) (c_stake : Int32) (c_cube : Int32) (c_pieces0 : Int64) (c_pieces1 : Int64) (c_score0 : Int32) (c_score1 : Int32) (c_hits0 : Int32) (c_hits1 : Int32) (c_stopped : Bool) (c_stopPart : Int32) : Option (Int32 × (Int32) × (Nat → GT) × (Int32) × (Int32) × (Int32)) :=
  k_bd (mX1_isOffered c_phase) (fun r1 => if (k_b r1) = 0 then (none) else (k_bd2 (mX2_save cnt G c_mover c_phase c_dice c_stake c_cube c_pieces0 c_pieces1 c_score0 c_score1 c_hits0 c_hits1 c_stopped c_stopPart) (fun w2 w3 => k_bd3 (mX1_doTake c_mover c_phase c_stake c_cube) (fun w5 w6 w7 => some (w6, w2, w3, w5, w6, w7)))))

def mX9_drop (cnt : Int32) (G : Nat → GT) (c_mover : Int32) (c_phase : Int32) (c_dice : Int32) (c_stake : Int32) (c_cube : Int32) (c_pieces0 : Int64) (c_pieces1 : Int64) (c_score0 : Int32) (c_score1 : Int32) (c_hits0 : Int32) (c_hits1 : Int32) (c_stopped : Bool) (c_stopPart : Int32) : Option (Int32 × (Int32) × (Nat → GT) × (Int32) × (Int32) × (Int32) × (Int32)) :=
  k_bd (mX1_isOffered c_phase) (fun r1 => if (k_b r1) = 0 then (none) else (k_bd2 (mX2_save cnt G c_mover c_phase c_dice c_stake c_cube c_pieces0 c_pieces1 c_score0 c_score1 c_hits0 c_hits1 c_stopped c_stopPart) (fun w2 w3 => k_bd4 (mX1_doDrop c_mover c_phase c_dice c_stake c_score0 c_score1) (fun w5 w6 w7 w8 => k_bd (mX1_scoreOf w7 w8 c_mover) (fun r9 => some (r9, w2, w3, w5, w6, w7, w8))))))

def mX9_newGame (cnt : Int32) (G : Nat → GT) (c_mover : Int32) (c_phase : Int32) (c_dice : Int32) (c_stake : Int32) (c_cube : Int32) (c_pieces0 : Int64) (c_pieces1 : Int64) (c_score0 : Int32) (c_score1 : Int32) (c_hits0 : Int32) (c_hits1 : Int32) (c_stopped : Bool) (c_stopPart : Int32) : Option (Int32 × (Int32) × (Nat → GT) × (Int32) × (Int32) × (Int32) × (Int32) × (Int64) × (Int64)) :=
  k_bd (mX1_isOver c_phase) (fun r1 => if (k_b r1) = 0 then (none) else (k_bd2 (mX2_save cnt G c_mover c_phase c_dice c_stake c_cube c_pieces0 c_pieces1 c_score0 c_score1 c_hits0 c_hits1 c_stopped c_stopPart) (fun w2 w3 => k_bd6 (mX1_doNewGame c_mover c_phase c_stake c_cube c_pieces0 c_pieces1) (fun w5 w6 w7 w8 w9 w10 => some (w5, w2, w3, w5, w6, w7, w8, w9, w10)))))

def mX9_append_12 (a1 : Int32) (t_signs : Nat → Int32) (t_length : Int32) : Option (Int32 × (Nat → Int32) × (Int32)) :=
  none
def mX9_append (t_signs : Nat → Int32) (t_length : Int32) (a1 : Int32) : Option (Int32 × (Nat → Int32) × (Int32)) :=
  if a1 < 33 then (mX9_append_12 a1 t_signs t_length) else (if a1 ≤ 126 then (k_bd (mX8_isFull t_length) (fun r1 => if (k_b r1) = 0 then (k_bd2 (mX8_put t_signs t_length (k_i2c a1)) (fun w2 w3 => some (w3, w2, w3))) else (none))) else (mX9_append_12 a1 t_signs t_length))

def mX9_clearBuffer (t_length : Int32) : Option (Int32 × (Int32)) :=
  k_bd (mX8_empty t_length) (fun w1 => some (t_length, w1))

def mX9_firstError (t_signs : Nat → Int32) (t_length : Int32) : Option (Int32) :=
  k_bd (mX8_firstWrong t_signs t_length) (fun r1 => some (r1))

def mX9_isPartPossible (c_mover : Int32) (c_phase : Int32) (c_dice : Int32) (c_stake : Int32) (c_cube : Int32) (c_pieces0 : Int64) (c_pieces1 : Int64) (t_signs : Nat → Int32) (t_length : Int32) (a1 : Int32) (a2 : Int32) : Option (Bool) :=
  k_bd (mX8_at t_signs t_length a1) (fun r1 => if r1 = 98 then (k_bd (mX8_digitAt t_signs t_length (a2 - 1)) (fun r2 => k_bd (mX1_reasonAgainst c_mover c_dice c_pieces0 c_pieces1 (-1) r2) (fun r3 => if r3 = 0 then (some (true)) else (some (false))))) else (if r1 = 100 then (k_bd (mX1_isOffered c_phase) (fun r4 => some (r4))) else (if r1 = 101 then (k_bd (mX1_canEndTurn c_mover c_phase c_dice c_pieces0 c_pieces1) (fun r5 => some (r5))) else (if r1 = 109 then (k_bd (mX8_numberAt t_signs t_length (a1 + 1)) (fun r6 => k_bd (mX8_digitAt t_signs t_length (a2 - 1)) (fun r7 => k_bd (mX1_reasonAgainst c_mover c_dice c_pieces0 c_pieces1 r6 r7) (fun r8 => if r8 = 0 then (some (true)) else (some (false)))))) else (if r1 = 114 then (k_bd (mX1_awaitsRoll c_phase) (fun r9 => some (r9))) else (if r1 = 116 then (k_bd (mX1_isOffered c_phase) (fun r10 => some (r10))) else (if r1 = 120 then (k_bd (mX1_canOffer c_mover c_phase c_stake c_cube) (fun r11 => some (r11))) else (k_bd (mX1_isOver c_phase) (fun r12 => some (r12))))))))))

def mX9_doPart (c_mover : Int32) (c_phase : Int32) (c_dice : Int32) (c_stake : Int32) (c_cube : Int32) (c_pieces0 : Int64) (c_pieces1 : Int64) (c_score0 : Int32) (c_score1 : Int32) (c_hits0 : Int32) (c_hits1 : Int32) (t_signs : Nat → Int32) (t_length : Int32) (a1 : Int32) (a2 : Int32) : Option ((Int32) × (Int32) × (Int32) × (Int32) × (Int32) × (Int64) × (Int64) × (Int32) × (Int32) × (Int32) × (Int32)) :=
  k_bd (mX8_at t_signs t_length a1) (fun r1 => if r1 = 98 then (k_bd (mX8_digitAt t_signs t_length (a2 - 1)) (fun r2 => k_bd9 (mX1_doStep c_mover c_phase c_dice c_stake c_pieces0 c_pieces1 c_score0 c_score1 c_hits0 c_hits1 (-1) r2) (fun r3 w4 w5 w6 w7 w8 w9 w10 w11 => some (c_mover, w4, w5, c_stake, c_cube, w6, w7, w8, w9, w10, w11)))) else (if r1 = 100 then (k_bd4 (mX1_doDrop c_mover c_phase c_dice c_stake c_score0 c_score1) (fun w12 w13 w14 w15 => some (c_mover, w12, w13, c_stake, c_cube, c_pieces0, c_pieces1, w14, w15, c_hits0, c_hits1))) else (if r1 = 101 then (k_bd3 (mX1_doEndTurn c_mover c_phase c_dice) (fun w16 w17 w18 => some (w16, w17, w18, c_stake, c_cube, c_pieces0, c_pieces1, c_score0, c_score1, c_hits0, c_hits1))) else (if r1 = 109 then (k_bd (mX8_numberAt t_signs t_length (a1 + 1)) (fun r19 => k_bd (mX8_digitAt t_signs t_length (a2 - 1)) (fun r20 => k_bd9 (mX1_doStep c_mover c_phase c_dice c_stake c_pieces0 c_pieces1 c_score0 c_score1 c_hits0 c_hits1 r19 r20) (fun r21 w22 w23 w24 w25 w26 w27 w28 w29 => some (c_mover, w22, w23, c_stake, c_cube, w24, w25, w26, w27, w28, w29))))) else (if r1 = 114 then (k_bd (mX8_digitAt t_signs t_length (a1 + 1)) (fun r30 => k_bd (mX8_digitAt t_signs t_length (a1 + 2)) (fun r31 => k_bd2 (mX1_doRoll c_phase c_dice r30 r31) (fun w32 w33 => some (c_mover, w32, w33, c_stake, c_cube, c_pieces0, c_pieces1, c_score0, c_score1, c_hits0, c_hits1))))) else (if r1 = 116 then (k_bd3 (mX1_doTake c_mover c_phase c_stake c_cube) (fun w34 w35 w36 => some (c_mover, w34, c_dice, w35, w36, c_pieces0, c_pieces1, c_score0, c_score1, c_hits0, c_hits1))) else (if r1 = 120 then (k_bd (mX1_doOffer c_phase) (fun w37 => some (c_mover, w37, c_dice, c_stake, c_cube, c_pieces0, c_pieces1, c_score0, c_score1, c_hits0, c_hits1))) else (k_bd6 (mX1_doNewGame c_mover c_phase c_stake c_cube c_pieces0 c_pieces1) (fun w38 w39 w40 w41 w42 w43 => some (w38, w39, c_dice, w40, w41, w42, w43, c_score0, c_score1, c_hits0, c_hits1))))))))))

def mX9_play_92 (t_signs : Nat → Int32) (k38 : (Int32) → (Int32) → (Bool) → (Int32) → (Int32) → (Nat → GT) → (Int32) → (Int32) → (Int32) → (Int32) → (Int32) → (Int64) → (Int64) → (Int32) → (Int32) → (Int32) → (Int32) → (Bool) → (Int32) → (Int32) → Option (Int32 × (Int32) × (Nat → GT) × (Int32) × (Int32) × (Int32) × (Int32) × (Int32) × (Int64) × (Int64) × (Int32) × (Int32) × (Int32) × (Int32) × (Bool) × (Int32) × (Int32))) (l1 : Int32) (l3 : Bool) (l4 : Int32) (l5 : Int32) (cnt : Int32) (G : Nat → GT) (c_mover : Int32) (c_phase : Int32) (c_dice : Int32) (c_stake : Int32) (c_cube : Int32) (c_pieces0 : Int64) (c_pieces1 : Int64) (c_score0 : Int32) (c_score1 : Int32) (c_hits0 : Int32) (c_hits1 : Int32) (c_stopped : Bool) (c_stopPart : Int32) (t_length : Int32) : Option (Int32 × (Int32) × (Nat → GT) × (Int32) × (Int32) × (Int32) × (Int32) × (Int32) × (Int64) × (Int64) × (Int32) × (Int32) × (Int32) × (Int32) × (Bool) × (Int32) × (Int32)) :=
  k38 l1 (l5 + 1) l3 (l4 + 1) cnt G c_mover c_phase c_dice c_stake c_cube c_pieces0 c_pieces1 c_score0 c_score1 c_hits0 c_hits1 c_stopped c_stopPart t_length
def mX9_play_116 (t_signs : Nat → Int32) (t0 : Bool) (l1 : Int32) (cnt : Int32) (G : Nat → GT) (c_mover : Int32) (c_phase : Int32) (c_dice : Int32) (c_stake : Int32) (c_cube : Int32) (c_pieces0 : Int64) (c_pieces1 : Int64) (c_score0 : Int32) (c_score1 : Int32) (c_hits0 : Int32) (c_hits1 : Int32) (c_stopped : Bool) (c_stopPart : Int32) (t_length : Int32) : Option (Int32 × (Int32) × (Nat → GT) × (Int32) × (Int32) × (Int32) × (Int32) × (Int32) × (Int64) × (Int64) × (Int32) × (Int32) × (Int32) × (Int32) × (Bool) × (Int32) × (Int32)) :=
  k_bd2 (mX1_noteStop c_stopped c_stopPart t0 l1) (fun w1 w2 => k_bd (mX8_empty t_length) (fun w3 => some (l1, cnt, G, c_mover, c_phase, c_dice, c_stake, c_cube, c_pieces0, c_pieces1, c_score0, c_score1, c_hits0, c_hits1, w1, w2, w3)))
def mX9_play_103 (t_signs : Nat → Int32) (l1 : Int32) (l3 : Bool) (cnt : Int32) (G : Nat → GT) (c_mover : Int32) (c_phase : Int32) (c_dice : Int32) (c_stake : Int32) (c_cube : Int32) (c_pieces0 : Int64) (c_pieces1 : Int64) (c_score0 : Int32) (c_score1 : Int32) (c_hits0 : Int32) (c_hits1 : Int32) (c_stopped : Bool) (c_stopPart : Int32) (t_length : Int32) : Option (Int32 × (Int32) × (Nat → GT) × (Int32) × (Int32) × (Int32) × (Int32) × (Int32) × (Int64) × (Int64) × (Int32) × (Int32) × (Int32) × (Int32) × (Bool) × (Int32) × (Int32)) :=
  if (k_b l3) = 0 then (mX9_play_116 t_signs true l1 cnt G c_mover c_phase c_dice c_stake c_cube c_pieces0 c_pieces1 c_score0 c_score1 c_hits0 c_hits1 c_stopped c_stopPart t_length) else (mX9_play_116 t_signs false l1 cnt G c_mover c_phase c_dice c_stake c_cube c_pieces0 c_pieces1 c_score0 c_score1 c_hits0 c_hits1 c_stopped c_stopPart t_length)
def mX9_play_38 (t_signs : Nat → Int32) (k38 : (Int32) → (Int32) → (Bool) → (Int32) → (Int32) → (Nat → GT) → (Int32) → (Int32) → (Int32) → (Int32) → (Int32) → (Int64) → (Int64) → (Int32) → (Int32) → (Int32) → (Int32) → (Bool) → (Int32) → (Int32) → Option (Int32 × (Int32) × (Nat → GT) × (Int32) × (Int32) × (Int32) × (Int32) × (Int32) × (Int64) × (Int64) × (Int32) × (Int32) × (Int32) × (Int32) × (Bool) × (Int32) × (Int32))) (l1 : Int32) (l2 : Int32) (l3 : Bool) (l4 : Int32) (cnt : Int32) (G : Nat → GT) (c_mover : Int32) (c_phase : Int32) (c_dice : Int32) (c_stake : Int32) (c_cube : Int32) (c_pieces0 : Int64) (c_pieces1 : Int64) (c_score0 : Int32) (c_score1 : Int32) (c_hits0 : Int32) (c_hits1 : Int32) (c_stopped : Bool) (c_stopPart : Int32) (t_length : Int32) : Option (Int32 × (Int32) × (Nat → GT) × (Int32) × (Int32) × (Int32) × (Int32) × (Int32) × (Int64) × (Int64) × (Int32) × (Int32) × (Int32) × (Int32) × (Bool) × (Int32) × (Int32)) :=
  if 60 ≤ l4 then (mX9_play_103 t_signs l1 l3 cnt G c_mover c_phase c_dice c_stake c_cube c_pieces0 c_pieces1 c_score0 c_score1 c_hits0 c_hits1 c_stopped c_stopPart t_length) else (if (k_b l3) = 0 then (mX9_play_103 t_signs l1 l3 cnt G c_mover c_phase c_dice c_stake c_cube c_pieces0 c_pieces1 c_score0 c_score1 c_hits0 c_hits1 c_stopped c_stopPart t_length) else (if t_length ≤ l2 then (mX9_play_103 t_signs l1 l3 cnt G c_mover c_phase c_dice c_stake c_cube c_pieces0 c_pieces1 c_score0 c_score1 c_hits0 c_hits1 c_stopped c_stopPart t_length) else (k_bd (mX8_endOfPart t_signs t_length l2) (fun r4 => k_bd (mX9_isPartPossible c_mover c_phase c_dice c_stake c_cube c_pieces0 c_pieces1 t_signs t_length l2 r4) (fun r5 => if (k_b r5) = 0 then (mX9_play_92 t_signs k38 l1 r5 l4 r4 cnt G c_mover c_phase c_dice c_stake c_cube c_pieces0 c_pieces1 c_score0 c_score1 c_hits0 c_hits1 c_stopped c_stopPart t_length) else (k_bd11 (mX9_doPart c_mover c_phase c_dice c_stake c_cube c_pieces0 c_pieces1 c_score0 c_score1 c_hits0 c_hits1 t_signs t_length l2 r4) (fun w10 w11 w12 w13 w14 w15 w16 w17 w18 w19 w20 => mX9_play_92 t_signs k38 (l1 + 1) r5 l4 r4 cnt G w10 w11 w12 w13 w14 w15 w16 w17 w18 w19 w20 c_stopped c_stopPart t_length)))))))
def mX9_play (cnt : Int32) (G : Nat → GT) (c_mover : Int32) (c_phase : Int32) (c_dice : Int32) (c_stake : Int32) (c_cube : Int32) (c_pieces0 : Int64) (c_pieces1 : Int64) (c_score0 : Int32) (c_score1 : Int32) (c_hits0 : Int32) (c_hits1 : Int32) (c_stopped : Bool) (c_stopPart : Int32) (t_signs : Nat → Int32) (t_length : Int32) : Option (Int32 × (Int32) × (Nat → GT) × (Int32) × (Int32) × (Int32) × (Int32) × (Int32) × (Int64) × (Int64) × (Int32) × (Int32) × (Int32) × (Int32) × (Bool) × (Int32) × (Int32)) :=
  k_bd (mX8_isGame t_signs t_length) (fun r25 => if (k_b r25) = 0 then (none) else (k_bd2 (mX2_save cnt G c_mover c_phase c_dice c_stake c_cube c_pieces0 c_pieces1 c_score0 c_score1 c_hits0 c_hits1 c_stopped c_stopPart) (fun w26 w27 => k_fix (fun _ _ _ _ _ _ _ _ _ _ _ _ _ _ _ _ _ _ _ _ => none) (mX9_play_38 t_signs) k_F 0 0 true 0 w26 w27 c_mover c_phase c_dice c_stake c_cube c_pieces0 c_pieces1 c_score0 c_score1 c_hits0 c_hits1 c_stopped c_stopPart t_length)))

def mX9_hasStopped (c_stopped : Bool) : Option (Bool) :=
  some (c_stopped)

def mX9_stoppedPart (c_stopped : Bool) (c_stopPart : Int32) : Option (Int32) :=
  if (k_b c_stopped) = 0 then (none) else (some (c_stopPart))

def mX9_undo (cnt : Int32) (G : Nat → GT) (c_mover : Int32) (c_phase : Int32) (c_dice : Int32) (c_stake : Int32) (c_cube : Int32) (c_pieces0 : Int64) (c_pieces1 : Int64) (c_score0 : Int32) (c_score1 : Int32) (c_hits0 : Int32) (c_hits1 : Int32) (c_stopped : Bool) (c_stopPart : Int32) : Option (Int32 × (Int32) × (Int32) × (Int32) × (Int32) × (Int32) × (Int32) × (Int64) × (Int64) × (Int32) × (Int32) × (Int32) × (Int32) × (Bool) × (Int32)) :=
  if cnt = 0 then (none) else (k_bd14 (mX2_takeBack cnt G c_mover c_phase c_dice c_stake c_cube c_pieces0 c_pieces1 c_score0 c_score1 c_hits0 c_hits1 c_stopped c_stopPart) (fun w1 w2 w3 w4 w5 w6 w7 w8 w9 w10 w11 w12 w13 w14 => some (w1, w1, w2, w3, w4, w5, w6, w7, w8, w9, w10, w11, w12, w13, w14)))

def mX9_keep (hasS : Bool) (snp : GT) (c_mover : Int32) (c_phase : Int32) (c_dice : Int32) (c_stake : Int32) (c_cube : Int32) (c_pieces0 : Int64) (c_pieces1 : Int64) (c_score0 : Int32) (c_score1 : Int32) (c_hits0 : Int32) (c_hits1 : Int32) (c_stopped : Bool) (c_stopPart : Int32) : Option (Int32 × (Bool) × (GT)) :=
  k_bd2 (mX2_takeSnapshot hasS snp c_mover c_phase c_dice c_stake c_cube c_pieces0 c_pieces1 c_score0 c_score1 c_hits0 c_hits1 c_stopped c_stopPart) (fun w1 w2 => some (c_mover, w1, w2))

def mX9_restore (hasS : Bool) (cnt : Int32) (snp : GT) (G : Nat → GT) (c_mover : Int32) (c_phase : Int32) (c_dice : Int32) (c_stake : Int32) (c_cube : Int32) (c_pieces0 : Int64) (c_pieces1 : Int64) (c_score0 : Int32) (c_score1 : Int32) (c_hits0 : Int32) (c_hits1 : Int32) (c_stopped : Bool) (c_stopPart : Int32) : Option (Int32 × (Int32) × (Nat → GT) × (Int32) × (Int32) × (Int32) × (Int32) × (Int32) × (Int64) × (Int64) × (Int32) × (Int32) × (Int32) × (Int32) × (Bool) × (Int32)) :=
  if (k_b hasS) = 0 then (none) else (k_bd2 (mX2_save cnt G c_mover c_phase c_dice c_stake c_cube c_pieces0 c_pieces1 c_score0 c_score1 c_hits0 c_hits1 c_stopped c_stopPart) (fun w1 w2 => k_bd13 (mX2_goToSnapshot snp c_mover c_phase c_dice c_stake c_cube c_pieces0 c_pieces1 c_score0 c_score1 c_hits0 c_hits1 c_stopped c_stopPart) (fun w4 w5 w6 w7 w8 w9 w10 w11 w12 w13 w14 w15 w16 => some (w4, w1, w2, w4, w5, w6, w7, w8, w9, w10, w11, w12, w13, w14, w15, w16))))

def mX9_savedStates (cnt : Int32) : Option (Int32) :=
  some (cnt)

def mX9_mover (c_mover : Int32) : Option (Int32) :=
  some (c_mover)

def mX9_phase (c_phase : Int32) : Option (Int32) :=
  some (c_phase)

def mX9_diceLeft (c_dice : Int32) : Option (Int32) :=
  k_bd (mX0_count c_dice) (fun r1 => some (r1))

def mX9_dieLeft_18 (c_dice : Int32) (a1 : Int32) : Option (Int32) :=
  none
def mX9_dieLeft (c_dice : Int32) (a1 : Int32) : Option (Int32) :=
  if a1 < 0 then (mX9_dieLeft_18 c_dice a1 ) else (k_bd (mX0_count c_dice) (fun r1 => if a1 < r1 then (k_bd (mX0_at c_dice a1) (fun r2 => some (r2))) else (mX9_dieLeft_18 c_dice a1 )))

def mX9_piecesOn_14 (c_pieces0 : Int64) (c_pieces1 : Int64) (a1 : Int32) (a2 : Int32) : Option (Int32) :=
  none
def mX9_piecesOn (c_pieces0 : Int64) (c_pieces1 : Int64) (a1 : Int32) (a2 : Int32) : Option (Int32) :=
  k_bd (mX9_isPlayer a1) (fun r1 => if (k_b r1) = 0 then (mX9_piecesOn_14 c_pieces0 c_pieces1 a1 a2 ) else (k_bd (mX9_isPoint a2) (fun r2 => if (k_b r2) = 0 then (mX9_piecesOn_14 c_pieces0 c_pieces1 a1 a2 ) else (k_bd (mX1_countAt c_pieces0 c_pieces1 a1 a2) (fun r3 => some (r3))))))

def mX9_onBar (c_pieces0 : Int64) (c_pieces1 : Int64) (a1 : Int32) : Option (Int32) :=
  k_bd (mX9_isPlayer a1) (fun r1 => if (k_b r1) = 0 then (none) else (k_bd (mX1_piecesOf c_pieces0 c_pieces1 a1) (fun r2 => k_bd (mX3_on r2 17) (fun r3 => some (r3)))))

def mX9_borneOff (c_pieces0 : Int64) (c_pieces1 : Int64) (a1 : Int32) : Option (Int32) :=
  k_bd (mX9_isPlayer a1) (fun r1 => if (k_b r1) = 0 then (none) else (k_bd (mX1_piecesOf c_pieces0 c_pieces1 a1) (fun r2 => k_bd (mX3_on r2 0) (fun r3 => some (r3)))))

def mX9_pips (c_pieces0 : Int64) (c_pieces1 : Int64) (a1 : Int32) : Option (Int32) :=
  k_bd (mX9_isPlayer a1) (fun r1 => if (k_b r1) = 0 then (none) else (k_bd (mX1_piecesOf c_pieces0 c_pieces1 a1) (fun r2 => k_bd (mX3_sumOfWays r2) (fun r3 => some (r3)))))

def mX9_blots (c_pieces0 : Int64) (c_pieces1 : Int64) (a1 : Int32) : Option (Int32) :=
  k_bd (mX9_isPlayer a1) (fun r1 => if (k_b r1) = 0 then (none) else (k_bd (mX1_piecesOf c_pieces0 c_pieces1 a1) (fun r2 => k_bd (mX3_singles r2) (fun r3 => some (r3)))))

def mX9_blockade (c_pieces0 : Int64) (c_pieces1 : Int64) (a1 : Int32) : Option (Int32) :=
  k_bd (mX9_isPlayer a1) (fun r1 => if (k_b r1) = 0 then (none) else (k_bd (mX1_piecesOf c_pieces0 c_pieces1 a1) (fun r2 => k_bd (mX3_longestWall r2) (fun r3 => some (r3)))))

def mX9_stake (c_stake : Int32) : Option (Int32) :=
  some (c_stake)

def mX9_cubeOf (c_cube : Int32) : Option (Int32) :=
  some (c_cube)

def mX9_score (c_score0 : Int32) (c_score1 : Int32) (a1 : Int32) : Option (Int32) :=
  k_bd (mX9_isPlayer a1) (fun r1 => if (k_b r1) = 0 then (none) else (k_bd (mX1_scoreOf c_score0 c_score1 a1) (fun r2 => some (r2))))

def mX9_hits (c_hits0 : Int32) (c_hits1 : Int32) (a1 : Int32) : Option (Int32) :=
  k_bd (mX9_isPlayer a1) (fun r1 => if (k_b r1) = 0 then (none) else (k_bd (mX1_hitsOf c_hits0 c_hits1 a1) (fun r2 => some (r2))))

def mX9_whyNoStep (c_mover : Int32) (c_dice : Int32) (c_pieces0 : Int64) (c_pieces1 : Int64) (a1 : Int32) (a2 : Int32) : Option (Int32) :=
  k_bd (mX9_isPointOrBar a1) (fun r1 => if (k_b r1) = 0 then (none) else (k_bd (mX0_isDie a2) (fun r2 => if (k_b r2) = 0 then (none) else (k_bd (mX1_reasonAgainst c_mover c_dice c_pieces0 c_pieces1 a1 a2) (fun r3 => some (r3))))))

def mX9_possibleSteps (c_mover : Int32) (c_dice : Int32) (c_pieces0 : Int64) (c_pieces1 : Int64) : Option (Int32) :=
  k_bd (mX1_moversPieces c_mover c_pieces0 c_pieces1) (fun r1 => k_bd (mX1_othersPieces c_mover c_pieces0 c_pieces1) (fun r2 => k_bd (mX7_countPossible r1 r2 c_dice) (fun r3 => some (r3))))

def mX9_reach (c_mover : Int32) (c_dice : Int32) (c_pieces0 : Int64) (c_pieces1 : Int64) : Option (Int32) :=
  k_bd (mX1_reachNow c_mover c_dice c_pieces0 c_pieces1) (fun r1 => some (r1))


noncomputable def mX9_plays (c_mover : Int32) (c_dice : Int32) (c_pieces0 : Int64) (c_pieces1 : Int64) : Option (Int32) :=
  k_bd (mX1_moversPieces c_mover c_pieces0 c_pieces1) (fun r1 => k_bd (mX1_othersPieces c_mover c_pieces0 c_pieces1) (fun r2 => k_bd (pE r1 r2 c_dice false) (fun r3 => some (r3))))


noncomputable def mX9_playsByOrders (c_mover : Int32) (c_dice : Int32) (c_pieces0 : Int64) (c_pieces1 : Int64) : Option (Int32) :=
  k_bd (mX1_moversPieces c_mover c_pieces0 c_pieces1) (fun r1 => k_bd (mX1_othersPieces c_mover c_pieces0 c_pieces1) (fun r2 => k_bd (pE r1 r2 c_dice true) (fun r3 => some (r3))))


noncomputable def mX9_playsWith_14 (c_mover : Int32) (c_pieces0 : Int64) (c_pieces1 : Int64) (a1 : Int32) (a2 : Int32) : Option (Int32) :=
  none
noncomputable def mX9_playsWith (c_mover : Int32) (c_pieces0 : Int64) (c_pieces1 : Int64) (a1 : Int32) (a2 : Int32) : Option (Int32) :=
  k_bd (mX0_isDie a1) (fun r1 => if (k_b r1) = 0 then (mX9_playsWith_14 c_mover c_pieces0 c_pieces1 a1 a2 ) else (k_bd (mX0_isDie a2) (fun r2 => if (k_b r2) = 0 then (mX9_playsWith_14 c_mover c_pieces0 c_pieces1 a1 a2 ) else (k_bd (mX0_rolled a1 a2) (fun r3 => k_bd (mX1_moversPieces c_mover c_pieces0 c_pieces1) (fun r4 => k_bd (mX1_othersPieces c_mover c_pieces0 c_pieces1) (fun r5 => k_bd (pE r4 r5 r3 false) (fun r6 => some (r6)))))))))

def mX9_shotsRollByRoll (c_pieces0 : Int64) (c_pieces1 : Int64) (a1 : Int32) : Option (Int32) :=
  k_bd (mX1_ownerOfBlot c_pieces0 c_pieces1 a1) (fun r1 => if 0 ≤ r1 then (k_bd (mX1_wayOf (1 - r1) a1) (fun r2 => k_bd (mX1_piecesOf c_pieces0 c_pieces1 (1 - r1)) (fun r3 => k_bd (mX1_piecesOf c_pieces0 c_pieces1 r1) (fun r4 => k_bd (mX6_rollByRoll r3 r4 r2) (fun r5 => some (r5)))))) else (some ((0 : Int32))))

def mX9_shots (c_pieces0 : Int64) (c_pieces1 : Int64) (a1 : Int32) : Option (Int32) :=
  k_bd (mX9_isPoint a1) (fun r1 => if (k_b r1) = 0 then (none) else (k_bd (mX9_shotsRollByRoll c_pieces0 c_pieces1 a1) (fun r2 => some (r2))))

def mX9_shotsKindByKind (c_pieces0 : Int64) (c_pieces1 : Int64) (a1 : Int32) : Option (Int32) :=
  k_bd (mX1_ownerOfBlot c_pieces0 c_pieces1 a1) (fun r1 => if 0 ≤ r1 then (k_bd (mX1_wayOf (1 - r1) a1) (fun r2 => k_bd (mX1_piecesOf c_pieces0 c_pieces1 (1 - r1)) (fun r3 => k_bd (mX1_piecesOf c_pieces0 c_pieces1 r1) (fun r4 => k_bd (mX6_kindByKind r3 r4 r2) (fun r5 => some (r5)))))) else (some ((0 : Int32))))

def mX9_shotsByKinds (c_pieces0 : Int64) (c_pieces1 : Int64) (a1 : Int32) : Option (Int32) :=
  k_bd (mX9_isPoint a1) (fun r1 => if (k_b r1) = 0 then (none) else (k_bd (mX9_shotsKindByKind c_pieces0 c_pieces1 a1) (fun r2 => some (r2))))

def mX9_entering (c_pieces0 : Int64) (c_pieces1 : Int64) (a1 : Int32) : Option (Int32) :=
  k_bd (mX9_isPlayer a1) (fun r1 => if (k_b r1) = 0 then (none) else (k_bd (mX1_piecesOf c_pieces0 c_pieces1 (1 - a1)) (fun r2 => k_bd (mX6_rollsThatEnter r2) (fun r3 => some (r3)))))

def mX9_blotsBehind (c_mover : Int32) (c_dice : Int32) (c_pieces0 : Int64) (c_pieces1 : Int64) (a1 : Int32) (a2 : Int32) : Option (Int32) :=
  k_bd (mX9_isPointOrBar a1) (fun r1 => if (k_b r1) = 0 then (none) else (k_bd (mX0_isDie a2) (fun r2 => if (k_b r2) = 0 then (none) else (k_bd (mX1_reasonAgainst c_mover c_dice c_pieces0 c_pieces1 a1 a2) (fun r3 => if r3 = 0 then (k_bd (mX1_wayOf c_mover a1) (fun r4 => k_bd (mX1_moversPieces c_mover c_pieces0 c_pieces1) (fun r5 => k_bd (mX7_mineBehind r5 r4 a2) (fun r6 => k_bd (mX3_singles r6) (fun r7 => some (r7)))))) else (none))))))

def mX9_shareOfMover (c_mover : Int32) (c_pieces0 : Int64) (c_pieces1 : Int64) : Option (UInt64) :=
  k_bd (mX1_moversPieces c_mover c_pieces0 c_pieces1) (fun r1 => k_bd (mX3_sumOfWays r1) (fun r2 => k_bd (mX1_othersPieces c_mover c_pieces0 c_pieces1) (fun r3 => k_bd (mX3_sumOfWays r3) (fun r4 => if (r2 + r4) = 0 then (some (4602678819172646912)) else (k_gn (k_nn (FP.ddiv (FP.i2d r4) (FP.i2d (r2 + r4)))) (some ((FP.ddiv (FP.i2d r4) (FP.i2d (r2 + r4))))))))))

def mX9_lead (c_mover : Int32) (c_pieces0 : Int64) (c_pieces1 : Int64) : Option (UInt64) :=
  k_bd (mX9_shareOfMover c_mover c_pieces0 c_pieces1) (fun r1 => some (r1))

def mX9_bitsOf_50 (a0 : UInt64) (l2 : UInt64) (l4 : Int64) : Option (Int64) :=
  k_gn (k_nn (FP.dsub l2 4607182418800017408)) (k_gn (k_nn (FP.dmul (FP.dsub l2 4607182418800017408) 4841369599423283200)) (some (((k_lshl l4 52) + (FP.d2l (FP.dmul (FP.dsub l2 4607182418800017408) 4841369599423283200))))))
def mX9_bitsOf_18 (a0 : UInt64) (k18 : (UInt64) → (Int64) → (Int32) → Option (Int64)) (l2 : UInt64) (l4 : Int64) (l6 : Int32) : Option (Int64) :=
  if 1000 ≤ l6 then (mX9_bitsOf_50 a0 l2 l4) else (if 0 ≤ (Op.cmpValue (FP.dcmp l2 4607182418800017408) CmpOp.g) then (mX9_bitsOf_50 a0 l2 l4) else (k_gn (k_nn (FP.dmul l2 4611686018427387904)) (k18 (FP.dmul l2 4611686018427387904) (l4 - 1) (l6 + 1))))
def mX9_bitsOf (a0 : UInt64) : Option (Int64) :=
  if 0 < (Op.cmpValue (FP.dcmp a0 0) CmpOp.g) then (k_fix (fun _ _ _ => none) (mX9_bitsOf_18 a0) k_F a0 (1023) 0) else (some (0))

def mX9_added (a0 : Int64) (a2 : Int64) : Option (Int64) :=
  some ((((31) * a0) + a2))

def mX9_addText_16 (t_signs : Nat → Int32) (t_length : Int32) (a1 : Int64) (k16 : (Int64) → (Int32) → Option (Int64)) (l3 : Int64) (l5 : Int32) : Option (Int64) :=
  if t_length ≤ l5 then (some (l3)) else (k_bd (mX8_at t_signs t_length l5) (fun r1 => k_bd (mX9_added l3 (Int32.toInt64 r1)) (fun r2 => k16 r2 (l5 + 1))))
def mX9_addText (t_signs : Nat → Int32) (t_length : Int32) (a1 : Int64) : Option (Int64) :=
  k_bd (mX9_added a1 (Int32.toInt64 t_length)) (fun r3 => k_fix (fun _ _ => none) (mX9_addText_16 t_signs t_length a1) k_F r3 0)

def mX9_addTurn_45 (c_mover : Int32) (c_phase : Int32) (c_dice : Int32) (c_stake : Int32) (c_cube : Int32) (a1 : Int64) (k45 : (Int64) → (Int32) → Option (Int64)) (l3 : Int64) (l5 : Int32) : Option (Int64) :=
  k_bd (mX0_count c_dice) (fun r1 => if r1 ≤ l5 then (k_bd (mX9_added l3 (Int32.toInt64 c_stake)) (fun r2 => k_bd (mX9_added r2 (Int32.toInt64 c_cube)) (fun r3 => some (r3)))) else (k_bd (mX0_at c_dice l5) (fun r4 => k_bd (mX9_added l3 (Int32.toInt64 r4)) (fun r5 => k45 r5 (l5 + 1)))))
def mX9_addTurn (c_mover : Int32) (c_phase : Int32) (c_dice : Int32) (c_stake : Int32) (c_cube : Int32) (a1 : Int64) : Option (Int64) :=
  k_bd (mX9_added a1 (Int32.toInt64 c_mover)) (fun r6 => k_bd (mX9_added r6 (Int32.toInt64 c_phase)) (fun r7 => k_bd (mX0_count c_dice) (fun r8 => k_bd (mX9_added r7 (Int32.toInt64 r8)) (fun r9 => k_fix (fun _ _ => none) (mX9_addTurn_45 c_mover c_phase c_dice c_stake c_cube a1) k_F r9 0))))

def mX9_addPlayer_133 (c_pieces0 : Int64) (c_pieces1 : Int64) (c_score0 : Int32) (c_score1 : Int32) (c_hits0 : Int32) (c_hits1 : Int32) (a1 : Int64) (a3 : Int32) (k133 : (Int64) → (Int32) → Option (Int64)) (l6 : Int64) (l8 : Int32) : Option (Int64) :=
  if 16 ≤ l8 then (some (l6)) else (k_bd (mX1_countAt c_pieces0 c_pieces1 a3 l8) (fun r1 => k_bd (mX9_added l6 (Int32.toInt64 r1)) (fun r2 => k133 r2 (l8 + 1))))
def mX9_addPlayer (c_pieces0 : Int64) (c_pieces1 : Int64) (c_score0 : Int32) (c_score1 : Int32) (c_hits0 : Int32) (c_hits1 : Int32) (a1 : Int64) (a3 : Int32) : Option (Int64) :=
  k_bd (mX1_piecesOf c_pieces0 c_pieces1 a3) (fun r3 => k_bd (mX3_on r3 17) (fun r4 => k_bd (mX9_added a1 (Int32.toInt64 r4)) (fun r5 => k_bd (mX3_on r3 0) (fun r6 => k_bd (mX9_added r5 (Int32.toInt64 r6)) (fun r7 => k_bd (mX3_sumOfWays r3) (fun r8 => k_bd (mX9_added r7 (Int32.toInt64 r8)) (fun r9 => k_bd (mX3_singles r3) (fun r10 => k_bd (mX9_added r9 (Int32.toInt64 r10)) (fun r11 => k_bd (mX3_longestWall r3) (fun r12 => k_bd (mX9_added r11 (Int32.toInt64 r12)) (fun r13 => k_bd (mX1_scoreOf c_score0 c_score1 a3) (fun r14 => k_bd (mX9_added r13 (Int32.toInt64 r14)) (fun r15 => k_bd (mX1_hitsOf c_hits0 c_hits1 a3) (fun r16 => k_bd (mX9_added r15 (Int32.toInt64 r16)) (fun r17 => k_bd (mX1_piecesOf c_pieces0 c_pieces1 (1 - a3)) (fun r18 => k_bd (mX6_rollsThatEnter r18) (fun r19 => k_bd (mX9_added r17 (Int32.toInt64 r19)) (fun r20 => k_fix (fun _ _ => none) (mX9_addPlayer_133 c_pieces0 c_pieces1 c_score0 c_score1 c_hits0 c_hits1 a1 a3) k_F r20 0))))))))))))))))))


noncomputable def mX9_digest_258 (cnt : Int32) (c_mover : Int32) (c_phase : Int32) (c_dice : Int32) (c_stake : Int32) (c_cube : Int32) (c_pieces0 : Int64) (c_pieces1 : Int64) (c_score0 : Int32) (c_score1 : Int32) (c_hits0 : Int32) (c_hits1 : Int32) (c_stopped : Bool) (c_stopPart : Int32) (t_signs : Nat → Int32) (t_length : Int32) (l5 : Int64) : Option (Int64) :=
  k_bd (mX9_shareOfMover c_mover c_pieces0 c_pieces1) (fun r1 => k_bd (mX9_bitsOf r1) (fun r6 => k_bd (mX9_added l5 r6) (fun r7 => k_bd (mX9_addText t_signs t_length r7) (fun r8 => some (r8)))))
noncomputable def mX9_digest_228 (cnt : Int32) (c_mover : Int32) (c_phase : Int32) (c_dice : Int32) (c_stake : Int32) (c_cube : Int32) (c_pieces0 : Int64) (c_pieces1 : Int64) (c_score0 : Int32) (c_score1 : Int32) (c_hits0 : Int32) (c_hits1 : Int32) (c_stopped : Bool) (c_stopPart : Int32) (t_signs : Nat → Int32) (t_length : Int32) (t0 : Int64) (t1 : Int64) : Option (Int64) :=
  k_bd (mX9_added t1 t0) (fun r13 => if (k_b c_stopped) = 0 then (mX9_digest_258 cnt c_mover c_phase c_dice c_stake c_cube c_pieces0 c_pieces1 c_score0 c_score1 c_hits0 c_hits1 c_stopped c_stopPart t_signs t_length r13) else (k_bd (mX9_added r13 (Int32.toInt64 c_stopPart)) (fun r14 => mX9_digest_258 cnt c_mover c_phase c_dice c_stake c_cube c_pieces0 c_pieces1 c_score0 c_score1 c_hits0 c_hits1 c_stopped c_stopPart t_signs t_length r14)))
noncomputable def mX9_digest_170 (cnt : Int32) (c_mover : Int32) (c_phase : Int32) (c_dice : Int32) (c_stake : Int32) (c_cube : Int32) (c_pieces0 : Int64) (c_pieces1 : Int64) (c_score0 : Int32) (c_score1 : Int32) (c_hits0 : Int32) (c_hits1 : Int32) (c_stopped : Bool) (c_stopPart : Int32) (t_signs : Nat → Int32) (t_length : Int32) (k170 : (Int64) → (Int32) → Option (Int64)) (l5 : Int64) (l7 : Int32) : Option (Int64) :=
  if 16 ≤ l7 then (if (k_b c_stopped) = 0 then (mX9_digest_228 cnt c_mover c_phase c_dice c_stake c_cube c_pieces0 c_pieces1 c_score0 c_score1 c_hits0 c_hits1 c_stopped c_stopPart t_signs t_length 0 l5) else (mX9_digest_228 cnt c_mover c_phase c_dice c_stake c_cube c_pieces0 c_pieces1 c_score0 c_score1 c_hits0 c_hits1 c_stopped c_stopPart t_signs t_length 1 l5)) else (k_bd (mX9_shotsRollByRoll c_pieces0 c_pieces1 l7) (fun r15 => k_bd (mX9_added l5 (Int32.toInt64 r15)) (fun r20 => k_bd (mX9_shotsKindByKind c_pieces0 c_pieces1 l7) (fun r21 => k_bd (mX9_added r20 (Int32.toInt64 r21)) (fun r26 => k170 r26 (l7 + 1))))))
noncomputable def mX9_digest (cnt : Int32) (c_mover : Int32) (c_phase : Int32) (c_dice : Int32) (c_stake : Int32) (c_cube : Int32) (c_pieces0 : Int64) (c_pieces1 : Int64) (c_score0 : Int32) (c_score1 : Int32) (c_hits0 : Int32) (c_hits1 : Int32) (c_stopped : Bool) (c_stopPart : Int32) (t_signs : Nat → Int32) (t_length : Int32) : Option (Int64) :=
  k_bd (mX1_moversPieces c_mover c_pieces0 c_pieces1) (fun r27 => k_bd (mX1_othersPieces c_mover c_pieces0 c_pieces1) (fun r28 => k_bd (mX9_addTurn c_mover c_phase c_dice c_stake c_cube (4517)) (fun r29 => k_bd (mX7_countPossible r27 r28 c_dice) (fun r34 => k_bd (mX9_added r29 (Int32.toInt64 r34)) (fun r35 => k_bd (mX1_reachNow c_mover c_dice c_pieces0 c_pieces1) (fun r36 => k_bd (mX9_added r35 (Int32.toInt64 r36)) (fun r37 => k_bd (pE r27 r28 c_dice false) (fun r38 => k_bd (mX9_added r37 (Int32.toInt64 r38)) (fun r42 => k_bd (pE r27 r28 c_dice true) (fun r43 => k_bd (mX9_added r42 (Int32.toInt64 r43)) (fun r47 => k_bd (mX0_rolled 6 5) (fun r48 => k_bd (pE r27 r28 r48 false) (fun r49 => k_bd (mX9_added r47 (Int32.toInt64 r49)) (fun r53 => k_bd (mX9_added r53 (Int32.toInt64 cnt)) (fun r54 => k_bd (mX9_addPlayer c_pieces0 c_pieces1 c_score0 c_score1 c_hits0 c_hits1 r54 0) (fun r55 => k_bd (mX9_addPlayer c_pieces0 c_pieces1 c_score0 c_score1 c_hits0 c_hits1 r55 1) (fun r60 => k_fix (fun _ _ => none) (mX9_digest_170 cnt c_mover c_phase c_dice c_stake c_cube c_pieces0 c_pieces1 c_score0 c_score1 c_hits0 c_hits1 c_stopped c_stopPart t_signs t_length) k_F r60 0)))))))))))))))))

