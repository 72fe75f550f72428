def mX9_roll_14 (c_mover : Int32) (c_stake : Int32) (c_cube : Int32) (c_pieces0 : Int64) (c_pieces1 : Int64) (c_score0 : Int32) (c_score1 : Int32) (c_hits0 : Int32) (c_hits1 : Int32) (c_stopped : Bool) (c_stopPart : Int32) (a1 : Int32) (a2 : Int32) (cnt : Int32) (G : Nat → GT) (c_phase : Int32) (c_dice : Int32) : Option (Int32 × (Int32) × (Nat → GT) × (Int32) × (Int32)) :=
  none
def mX9_roll (cnt : Int32) (G : Nat → GT) (c_mover : Int32) (c_phase : Int32) (c_dice : Int32) (c_stake : Int32) (c_cube : Int32) (c_pieces0 : Int64) (c_pieces1 : Int64) (c_score0 : Int32) (c_score1 : Int32) (c_hits0 : Int32) (c_hits1 : Int32) (c_stopped : Bool) (c_stopPart : Int32) (a1 : Int32) (a2 : Int32) : Option (Int32 × (Int32) × (Nat → GT) × (Int32) × (Int32)) :=
  k_bd (mX0_isDie a1) (fun r1 => if (k_b r1) = 0 then (mX9_roll_14 c_mover c_stake c_cube c_pieces0 c_pieces1 c_score0 c_score1 c_hits0 c_hits1 c_stopped c_stopPart a1 a2 cnt G c_phase c_dice) else (k_bd (mX0_isDie a2) (fun r2 => if (k_b r2) = 0 then (mX9_roll_14 c_mover c_stake c_cube c_pieces0 c_pieces1 c_score0 c_score1 c_hits0 c_hits1 c_stopped c_stopPart a1 a2 cnt G c_phase c_dice) else (k_bd (mX1_awaitsRoll c_phase) (fun r3 => if (k_b r3) = 0 then (none) else (k_bd2 (mX2_save cnt G c_mover c_phase c_dice c_stake c_cube c_pieces0 c_pieces1 c_score0 c_score1 c_hits0 c_hits1 c_stopped c_stopPart) (fun w4 w5 => k_bd2 (mX1_doRoll c_phase c_dice a1 a2) (fun w7 w8 => k_bd (mX0_count w8) (fun r9 => some (r9, w4, w5, w7, w8))))))))))

def mX9_isPoint (a0 : Int32) : Option (Bool) :=
  if a0 < 0 then (some (false)) else (if 16 ≤ a0 then (some (false)) else (some (true)))

def mX9_isPointOrBar (a0 : Int32) : Option (Bool) :=
  if a0 = (-1) then (some (true)) else (k_bd (mX9_isPoint a0) (fun r1 => if (k_b r1) = 0 then (some (false)) else (some (true))))

def mX9_step (cnt : Int32) (G : Nat → GT) (c_mover : Int32) (c_phase : Int32) (c_dice : Int32) (c_stake : Int32) (c_cube : Int32) (c_pieces0 : Int64) (c_pieces1 : Int64) (c_score0 : Int32) (c_score1 : Int32) (c_hits0 : Int32) (c_hits1 : Int32) (c_stopped : Bool) (c_stopPart : Int32) (a1 : Int32) (a2 : Int32) : Option (Bool × (Int32) × (Nat → GT) × (Int32) × (Int32) × (Int64) × (Int64) × (Int32) × (Int32) × (Int32) × (Int32)) :=
  k_bd (mX9_isPointOrBar a1) (fun r1 => if (k_b r1) = 0 then (none) else (k_bd (mX0_isDie a2) (fun r2 => if (k_b r2) = 0 then (none) else (k_bd (mX1_reasonAgainst c_mover c_dice c_pieces0 c_pieces1 a1 a2) (fun r3 => if r3 = 0 then (k_bd2 (mX2_save cnt G c_mover c_phase c_dice c_stake c_cube c_pieces0 c_pieces1 c_score0 c_score1 c_hits0 c_hits1 c_stopped c_stopPart) (fun w4 w5 => k_bd9 (mX1_doStep c_mover c_phase c_dice c_stake c_pieces0 c_pieces1 c_score0 c_score1 c_hits0 c_hits1 a1 a2) (fun r7 w8 w9 w10 w11 w12 w13 w14 w15 => some (r7, w4, w5, w8, w9, w10, w11, w12, w13, w14, w15)))) else (none))))))

def mX9_endTurn (cnt : Int32) (G : Nat → GT) (c_mover : Int32) (c_phase : Int32) (c_dice : Int32) (c_stake : Int32) (c_cube : Int32) (c_pieces0 : Int64) (c_pieces1 : Int64) (c_score0 : Int32) (c_score1 : Int32) (c_hits0 : Int32) (c_hits1 : Int32) (c_stopped : Bool) (c_stopPart : Int32) : Option (Int32 × (Int32) × (Nat → GT) × (Int32) × (Int32) × (Int32)) :=
  k_bd (mX1_canEndTurn c_mover c_phase c_dice c_pieces0 c_pieces1) (fun r1 => if (k_b r1) = 0 then (none) else (k_bd2 (mX2_save cnt G c_mover c_phase c_dice c_stake c_cube c_pieces0 c_pieces1 c_score0 c_score1 c_hits0 c_hits1 c_stopped c_stopPart) (fun w2 w3 => k_bd3 (mX1_doEndTurn c_mover c_phase c_dice) (fun w5 w6 w7 => some (w5, w2, w3, w5, w6, w7)))))

def mX9_isPlayer (a0 : Int32) : Option (Bool) :=
  if a0 = 0 then (some (true)) else (if a0 = 1 then (some (true)) else (some (false)))

def mX9_isPlace (a0 : Int32) : Option (Bool) :=
  k_bd (mX9_isPointOrBar a0) (fun r1 => if (k_b r1) = 0 then (if a0 = 16 then (some (true)) else (some (false))) else (some (true)))

def mX9_carry_21 (c_mover : Int32) (c_phase : Int32) (c_dice : Int32) (c_stake : Int32) (c_cube : Int32) (c_score0 : Int32) (c_score1 : Int32) (c_hits0 : Int32) (c_hits1 : Int32) (c_stopped : Bool) (c_stopPart : Int32) (a1 : Int32) (a2 : Int32) (a3 : Int32) (cnt : Int32) (G : Nat → GT) (c_pieces0 : Int64) (c_pieces1 : Int64) : Option (Int32 × (Int32) × (Nat → GT) × (Int64) × (Int64)) :=
  none
def mX9_carry (cnt : Int32) (G : Nat → GT) (c_mover : Int32) (c_phase : Int32) (c_dice : Int32) (c_stake : Int32) (c_cube : Int32) (c_pieces0 : Int64) (c_pieces1 : Int64) (c_score0 : Int32) (c_score1 : Int32) (c_hits0 : Int32) (c_hits1 : Int32) (c_stopped : Bool) (c_stopPart : Int32) (a1 : Int32) (a2 : Int32) (a3 : Int32) : Option (Int32 × (Int32) × (Nat → GT) × (Int64) × (Int64)) :=
  k_bd (mX9_isPlayer a1) (fun r1 => if (k_b r1) = 0 then (mX9_carry_21 c_mover c_phase c_dice c_stake c_cube c_score0 c_score1 c_hits0 c_hits1 c_stopped c_stopPart a1 a2 a3 cnt G c_pieces0 c_pieces1) else (k_bd (mX9_isPlace a2) (fun r2 => if (k_b r2) = 0 then (mX9_carry_21 c_mover c_phase c_dice c_stake c_cube c_score0 c_score1 c_hits0 c_hits1 c_stopped c_stopPart a1 a2 a3 cnt G c_pieces0 c_pieces1) else (k_bd (mX9_isPlace a3) (fun r3 => if (k_b r3) = 0 then (mX9_carry_21 c_mover c_phase c_dice c_stake c_cube c_score0 c_score1 c_hits0 c_hits1 c_stopped c_stopPart a1 a2 a3 cnt G c_pieces0 c_pieces1) else (k_bd (mX1_canCarry c_phase c_pieces0 c_pieces1 a1 a2 a3) (fun r4 => if (k_b r4) = 0 then (none) else (k_bd2 (mX2_save cnt G c_mover c_phase c_dice c_stake c_cube c_pieces0 c_pieces1 c_score0 c_score1 c_hits0 c_hits1 c_stopped c_stopPart) (fun w5 w6 => k_bd2 (mX1_doCarry c_pieces0 c_pieces1 a1 a2 a3) (fun w8 w9 => k_bd (mX1_piecesOf w8 w9 a1) (fun r10 => k_bd (mX3_sumOfWays r10) (fun r11 => some (r11, w5, w6, w8, w9)))))))))))))

def mX9_offer (cnt : Int32) (G : Nat → GT) (c_mover : Int32) (c_phase : Int32) (c_dice : Int32) (c_stake : Int32) (c_cube : Int32) (c_pieces0 : Int64) (c_pieces1 : Int64) (c_score0 : Int32) (c_score1 : Int32) (c_hits0 : Int32) (c_hits1 : Int32) (c_stopped : Bool) (c_stopPart : Int32) : Option (Int32 × (Int32) × (Nat → GT) × (Int32)) :=
  k_bd (mX1_canOffer c_mover c_phase c_stake c_cube) (fun r1 => if (k_b r1) = 0 then (none) else (k_bd2 (mX2_save cnt G c_mover c_phase c_dice c_stake c_cube c_pieces0 c_pieces1 c_score0 c_score1 c_hits0 c_hits1 c_stopped c_stopPart) (fun w2 w3 => k_bd (mX1_doOffer c_phase) (fun w5 => some ((2 * c_stake), w2, w3, w5)))))

def mX9_take (cnt : Int32) (G : Nat → GT) (c_mover : Int32) (c_phase : Int32) (c_dice : Int32) (c_stake : Int32) (c_cube : Int32) (c_pieces0 : Int64) (c_pieces1 : Int64) (c_score0 : Int32) (c_score1 : Int32) (c_hits0 : Int32) (c_hits1 : Int32) (c_stopped : Bool) (c_stopPart : Int32) : Option (Int32 × (Int32) × (Nat → GT) × (Int32) × (Int32) × (Int32)) :=
  k_bd (mX1_isOffered c_phase) (fun r1 => if (k_b r1) = 0 then (none) else (k_bd2 (mX2_save cnt G c_mover c_phase c_dice c_stake c_cube c_pieces0 c_pieces1 c_score0 c_score1 c_hits0 c_hits1 c_stopped c_stopPart) (fun w2 w3 => k_bd3 (mX1_doTake c_mover c_phase c_stake c_cube) (fun w5 w6 w7 => some (w6, w2, w3, w5, w6, w7)))))

def mX9_drop (cnt : Int32) (G : Nat → GT) (c_mover : Int32) (c_phase : Int32) (c_dice : Int32) (c_stake : Int32) (c_cube : Int32) (c_pieces0 : Int64) (c_pieces1 : Int64) (c_score0 : Int32) (c_score1 : Int32) (c_hits0 : Int32) (c_hits1 : Int32) (c_stopped : Bool) (c_stopPart : Int32) : Option (Int32 × (Int32) × (Nat → GT) × (Int32) × (Int32) × (Int32) × (Int32)) :=
  k_bd (mX1_isOffered c_phase) (fun r1 => if (k_b r1) = 0 then (none) else (k_bd2 (mX2_save cnt G c_mover c_phase c_dice c_stake c_cube c_pieces0 c_pieces1 c_score0 c_score1 c_hits0 c_hits1 c_stopped c_stopPart) (fun w2 w3 => k_bd4 (mX1_doDrop c_mover c_phase c_dice c_stake c_score0 c_score1) (fun w5 w6 w7 w8 => k_bd (mX1_scoreOf w7 w8 c_mover) (fun r9 => some (r9, w2, w3, w5, w6, w7, w8))))))

def mX9_newGame (cnt : Int32) (G : Nat → GT) (c_mover : Int32) (c_phase : Int32) (c_dice : Int32) (c_stake : Int32) (c_cube : Int32) (c_pieces0 : Int64) (c_pieces1 : Int64) (c_score0 : Int32) (c_score1 : Int32) (c_hits0 : Int32) (c_hits1 : Int32) (c_stopped : Bool) (c_stopPart : Int32) : Option (Int32 × (Int32) × (Nat → GT) × (Int32) × (Int32) × (Int32) × (Int32) × (Int64) × (Int64)) :=
  k_bd (mX1_isOver c_phase) (fun r1 => if (k_b r1) = 0 then (none) else (k_bd2 (mX2_save cnt G c_mover c_phase c_dice c_stake c_cube c_pieces0 c_pieces1 c_score0 c_score1 c_hits0 c_hits1 c_stopped c_stopPart) (fun w2 w3 => k_bd6 (mX1_doNewGame c_mover c_phase c_stake c_cube c_pieces0 c_pieces1) (fun w5 w6 w7 w8 w9 w10 => some (w5, w2, w3, w5, w6, w7, w8, w9, w10)))))

def mX9_mover (c_mover : Int32) : Option (Int32) :=
  some (c_mover)

def mX9_phase (c_phase : Int32) : Option (Int32) :=
  some (c_phase)

def mX9_diceLeft (c_dice : Int32) : Option (Int32) :=
  k_bd (mX0_count c_dice) (fun r1 => some (r1))

def mX9_dieLeft_18 (c_dice : Int32) (a1 : Int32) : Option (Int32) :=
  none
def mX9_dieLeft (c_dice : Int32) (a1 : Int32) : Option (Int32) :=
  if a1 < 0 then (mX9_dieLeft_18 c_dice a1 ) else (k_bd (mX0_count c_dice) (fun r1 => if a1 < r1 then (k_bd (mX0_at c_dice a1) (fun r2 => some (r2))) else (mX9_dieLeft_18 c_dice a1 )))

def mX9_piecesOn_14 (c_pieces0 : Int64) (c_pieces1 : Int64) (a1 : Int32) (a2 : Int32) : Option (Int32) :=
  none
def mX9_piecesOn (c_pieces0 : Int64) (c_pieces1 : Int64) (a1 : Int32) (a2 : Int32) : Option (Int32) :=
  k_bd (mX9_isPlayer a1) (fun r1 => if (k_b r1) = 0 then (mX9_piecesOn_14 c_pieces0 c_pieces1 a1 a2 ) else (k_bd (mX9_isPoint a2) (fun r2 => if (k_b r2) = 0 then (mX9_piecesOn_14 c_pieces0 c_pieces1 a1 a2 ) else (k_bd (mX1_countAt c_pieces0 c_pieces1 a1 a2) (fun r3 => some (r3))))))

def mX9_onBar (c_pieces0 : Int64) (c_pieces1 : Int64) (a1 : Int32) : Option (Int32) :=
  k_bd (mX9_isPlayer a1) (fun r1 => if (k_b r1) = 0 then (none) else (k_bd (mX1_piecesOf c_pieces0 c_pieces1 a1) (fun r2 => k_bd (mX3_on r2 17) (fun r3 => some (r3)))))

def mX9_borneOff (c_pieces0 : Int64) (c_pieces1 : Int64) (a1 : Int32) : Option (Int32) :=
  k_bd (mX9_isPlayer a1) (fun r1 => if (k_b r1) = 0 then (none) else (k_bd (mX1_piecesOf c_pieces0 c_pieces1 a1) (fun r2 => k_bd (mX3_on r2 0) (fun r3 => some (r3)))))

def mX9_pips (c_pieces0 : Int64) (c_pieces1 : Int64) (a1 : Int32) : Option (Int32) :=
  k_bd (mX9_isPlayer a1) (fun r1 => if (k_b r1) = 0 then (none) else (k_bd (mX1_piecesOf c_pieces0 c_pieces1 a1) (fun r2 => k_bd (mX3_sumOfWays r2) (fun r3 => some (r3)))))

def mX9_blots (c_pieces0 : Int64) (c_pieces1 : Int64) (a1 : Int32) : Option (Int32) :=
  k_bd (mX9_isPlayer a1) (fun r1 => if (k_b r1) = 0 then (none) else (k_bd (mX1_piecesOf c_pieces0 c_pieces1 a1) (fun r2 => k_bd (mX3_singles r2) (fun r3 => some (r3)))))

def mX9_blockade (c_pieces0 : Int64) (c_pieces1 : Int64) (a1 : Int32) : Option (Int32) :=
  k_bd (mX9_isPlayer a1) (fun r1 => if (k_b r1) = 0 then (none) else (k_bd (mX1_piecesOf c_pieces0 c_pieces1 a1) (fun r2 => k_bd (mX3_longestWall r2) (fun r3 => some (r3)))))

def mX9_stake (c_stake : Int32) : Option (Int32) :=
  some (c_stake)

def mX9_cubeOf (c_cube : Int32) : Option (Int32) :=
  some (c_cube)

def mX9_score (c_score0 : Int32) (c_score1 : Int32) (a1 : Int32) : Option (Int32) :=
  k_bd (mX9_isPlayer a1) (fun r1 => if (k_b r1) = 0 then (none) else (k_bd (mX1_scoreOf c_score0 c_score1 a1) (fun r2 => some (r2))))

def mX9_hits (c_hits0 : Int32) (c_hits1 : Int32) (a1 : Int32) : Option (Int32) :=
  k_bd (mX9_isPlayer a1) (fun r1 => if (k_b r1) = 0 then (none) else (k_bd (mX1_hitsOf c_hits0 c_hits1 a1) (fun r2 => some (r2))))

def mX9_whyNoStep (c_mover : Int32) (c_dice : Int32) (c_pieces0 : Int64) (c_pieces1 : Int64) (a1 : Int32) (a2 : Int32) : Option (Int32) :=
  k_bd (mX9_isPointOrBar a1) (fun r1 => if (k_b r1) = 0 then (none) else (k_bd (mX0_isDie a2) (fun r2 => if (k_b r2) = 0 then (none) else (k_bd (mX1_reasonAgainst c_mover c_dice c_pieces0 c_pieces1 a1 a2) (fun r3 => some (r3))))))

def mX9_possibleSteps (c_mover : Int32) (c_dice : Int32) (c_pieces0 : Int64) (c_pieces1 : Int64) : Option (Int32) :=
  k_bd (mX1_moversPieces c_mover c_pieces0 c_pieces1) (fun r1 => k_bd (mX1_othersPieces c_mover c_pieces0 c_pieces1) (fun r2 => k_bd (mX7_countPossible r1 r2 c_dice) (fun r3 => some (r3))))

def mX9_reach (c_mover : Int32) (c_dice : Int32) (c_pieces0 : Int64) (c_pieces1 : Int64) : Option (Int32) :=
  k_bd (mX1_reachNow c_mover c_dice c_pieces0 c_pieces1) (fun r1 => some (r1))


noncomputable def mX9_plays (c_mover : Int32) (c_dice : Int32) (c_pieces0 : Int64) (c_pieces1 : Int64) : Option (Int32) :=
  k_bd (mX1_moversPieces c_mover c_pieces0 c_pieces1) (fun r1 => k_bd (mX1_othersPieces c_mover c_pieces0 c_pieces1) (fun r2 => k_bd (pE r1 r2 c_dice false) (fun r3 => some (r3))))


noncomputable def mX9_playsByOrders (c_mover : Int32) (c_dice : Int32) (c_pieces0 : Int64) (c_pieces1 : Int64) : Option (Int32) :=
  k_bd (mX1_moversPieces c_mover c_pieces0 c_pieces1) (fun r1 => k_bd (mX1_othersPieces c_mover c_pieces0 c_pieces1) (fun r2 => k_bd (pE r1 r2 c_dice true) (fun r3 => some (r3))))


noncomputable def mX9_playsWith_14 (c_mover : Int32) (c_pieces0 : Int64) (c_pieces1 : Int64) (a1 : Int32) (a2 : Int32) : Option (Int32) :=
  none
noncomputable def mX9_playsWith (c_mover : Int32) (c_pieces0 : Int64) (c_pieces1 : Int64) (a1 : Int32) (a2 : Int32) : Option (Int32) :=
  k_bd (mX0_isDie a1) (fun r1 => if (k_b r1) = 0 then (mX9_playsWith_14 c_mover c_pieces0 c_pieces1 a1 a2 ) else (k_bd (mX0_isDie a2) (fun r2 => if (k_b r2) = 0 then (mX9_playsWith_14 c_mover c_pieces0 c_pieces1 a1 a2 ) else (k_bd (mX0_rolled a1 a2) (fun r3 => k_bd (mX1_moversPieces c_mover c_pieces0 c_pieces1) (fun r4 => k_bd (mX1_othersPieces c_mover c_pieces0 c_pieces1) (fun r5 => k_bd (pE r4 r5 r3 false) (fun r6 => some (r6)))))))))

def mX9_shotsRollByRoll (c_pieces0 : Int64) (c_pieces1 : Int64) (a1 : Int32) : Option (Int32) :=
  k_bd (mX1_ownerOfBlot c_pieces0 c_pieces1 a1) (fun r1 => if 0 ≤ r1 then (k_bd (mX1_wayOf (1 - r1) a1) (fun r2 => k_bd (mX1_piecesOf c_pieces0 c_pieces1 (1 - r1)) (fun r3 => k_bd (mX1_piecesOf c_pieces0 c_pieces1 r1) (fun r4 => k_bd (mX6_rollByRoll r3 r4 r2) (fun r5 => some (r5)))))) else (some ((0 : Int32))))

def mX9_shots (c_pieces0 : Int64) (c_pieces1 : Int64) (a1 : Int32) : Option (Int32) :=
  k_bd (mX9_isPoint a1) (fun r1 => if (k_b r1) = 0 then (none) else (k_bd (mX9_shotsRollByRoll c_pieces0 c_pieces1 a1) (fun r2 => some (r2))))

def mX9_shotsKindByKind (c_pieces0 : Int64) (c_pieces1 : Int64) (a1 : Int32) : Option (Int32) :=
  k_bd (mX1_ownerOfBlot c_pieces0 c_pieces1 a1) (fun r1 => if 0 ≤ r1 then (k_bd (mX1_wayOf (1 - r1) a1) (fun r2 => k_bd (mX1_piecesOf c_pieces0 c_pieces1 (1 - r1)) (fun r3 => k_bd (mX1_piecesOf c_pieces0 c_pieces1 r1) (fun r4 => k_bd (mX6_kindByKind r3 r4 r2) (fun r5 => some (r5)))))) else (some ((0 : Int32))))

def mX9_shotsByKinds (c_pieces0 : Int64) (c_pieces1 : Int64) (a1 : Int32) : Option (Int32) :=
  k_bd (mX9_isPoint a1) (fun r1 => if (k_b r1) = 0 then (none) else (k_bd (mX9_shotsKindByKind c_pieces0 c_pieces1 a1) (fun r2 => some (r2))))

def mX9_entering (c_pieces0 : Int64) (c_pieces1 : Int64) (a1 : Int32) : Option (Int32) :=
  k_bd (mX9_isPlayer a1) (fun r1 => if (k_b r1) = 0 then (none) else (k_bd (mX1_piecesOf c_pieces0 c_pieces1 (1 - a1)) (fun r2 => k_bd (mX6_rollsThatEnter r2) (fun r3 => some (r3)))))

def mX9_blotsBehind (c_mover : Int32) (c_dice : Int32) (c_pieces0 : Int64) (c_pieces1 : Int64) (a1 : Int32) (a2 : Int32) : Option (Int32) :=
  k_bd (mX9_isPointOrBar a1) (fun r1 => if (k_b r1) = 0 then (none) else (k_bd (mX0_isDie a2) (fun r2 => if (k_b r2) = 0 then (none) else (k_bd (mX1_reasonAgainst c_mover c_dice c_pieces0 c_pieces1 a1 a2) (fun r3 => if r3 = 0 then (k_bd (mX1_wayOf c_mover a1) (fun r4 => k_bd (mX1_moversPieces c_mover c_pieces0 c_pieces1) (fun r5 => k_bd (mX7_mineBehind r5 r4 a2) (fun r6 => k_bd (mX3_singles r6) (fun r7 => some (r7)))))) else (none))))))

def mX9_shareOfMover (c_mover : Int32) (c_pieces0 : Int64) (c_pieces1 : Int64) : Option (UInt64) :=
  k_bd (mX1_moversPieces c_mover c_pieces0 c_pieces1) (fun r1 => k_bd (mX3_sumOfWays r1) (fun r2 => k_bd (mX1_othersPieces c_mover c_pieces0 c_pieces1) (fun r3 => k_bd (mX3_sumOfWays r3) (fun r4 => if (r2 + r4) = 0 then (some (4602678819172646912)) else (k_gn (k_nn (FP.ddiv (FP.i2d r4) (FP.i2d (r2 + r4)))) (some ((FP.ddiv (FP.i2d r4) (FP.i2d (r2 + r4))))))))))

def mX9_lead (c_mover : Int32) (c_pieces0 : Int64) (c_pieces1 : Int64) : Option (UInt64) :=
  k_bd (mX9_shareOfMover c_mover c_pieces0 c_pieces1) (fun r1 => some (r1))

