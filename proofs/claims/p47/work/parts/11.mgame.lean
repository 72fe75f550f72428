def mX1_copyFrom (c_mover : Int32) (c_phase : Int32) (c_dice : Int32) (c_stake : Int32) (c_cube : Int32) (c_pieces0 : Int64) (c_pieces1 : Int64) (c_score0 : Int32) (c_score1 : Int32) (c_hits0 : Int32) (c_hits1 : Int32) (c_stopped : Bool) (c_stopPart : Int32) (o_mover : Int32) (o_phase : Int32) (o_dice : Int32) (o_stake : Int32) (o_cube : Int32) (o_pieces0 : Int64) (o_pieces1 : Int64) (o_score0 : Int32) (o_score1 : Int32) (o_hits0 : Int32) (o_hits1 : Int32) (o_stopped : Bool) (o_stopPart : Int32) : Option ((Int32) × (Int32) × (Int32) × (Int32) × (Int32) × (Int64) × (Int64) × (Int32) × (Int32) × (Int32) × (Int32) × (Bool) × (Int32)) :=
  some (o_mover, o_phase, o_dice, o_stake, o_cube, o_pieces0, o_pieces1, o_score0, o_score1, o_hits0, o_hits1, o_stopped, o_stopPart)

def mX1_wayOf (a0 : Int32) (a1 : Int32) : Option (Int32) :=
  if a1 = (-1) then (some ((17 : Int32))) else (if a1 = 16 then (some ((0 : Int32))) else (if a0 = 0 then (some ((16 - a1))) else (some ((a1 + 1)))))

def mX1_piecesOf (c_pieces0 : Int64) (c_pieces1 : Int64) (a1 : Int32) : Option (Int64) :=
  if a1 = 0 then (some (c_pieces0)) else (some (c_pieces1))

def mX1_moversPieces (c_mover : Int32) (c_pieces0 : Int64) (c_pieces1 : Int64) : Option (Int64) :=
  k_bd (mX1_piecesOf c_pieces0 c_pieces1 c_mover) (fun r1 => some (r1))

def mX1_othersPieces (c_mover : Int32) (c_pieces0 : Int64) (c_pieces1 : Int64) : Option (Int64) :=
  k_bd (mX1_piecesOf c_pieces0 c_pieces1 (1 - c_mover)) (fun r1 => some (r1))

def mX1_setPieces (c_pieces0 : Int64) (c_pieces1 : Int64) (a1 : Int32) (a2 : Int64) : Option ((Int64) × (Int64)) :=
  if a1 = 0 then (some (a2, c_pieces1)) else (some (c_pieces0, a2))

def mX1_countAt (c_pieces0 : Int64) (c_pieces1 : Int64) (a1 : Int32) (a2 : Int32) : Option (Int32) :=
  k_bd (mX1_piecesOf c_pieces0 c_pieces1 a1) (fun r1 => k_bd (mX1_wayOf a1 a2) (fun r2 => k_bd (mX3_on r1 r2) (fun r3 => some (r3))))

def mX1_ownerOfBlot (c_pieces0 : Int64) (c_pieces1 : Int64) (a1 : Int32) : Option (Int32) :=
  k_bd (mX1_countAt c_pieces0 c_pieces1 0 a1) (fun r1 => if r1 = 1 then (some ((0 : Int32))) else (k_bd (mX1_countAt c_pieces0 c_pieces1 1 a1) (fun r2 => if r2 = 1 then (some ((1 : Int32))) else (some (((-1) : Int32))))))

def mX1_scoreOf (c_score0 : Int32) (c_score1 : Int32) (a1 : Int32) : Option (Int32) :=
  if a1 = 0 then (some (c_score0)) else (some (c_score1))

def mX1_hitsOf (c_hits0 : Int32) (c_hits1 : Int32) (a1 : Int32) : Option (Int32) :=
  if a1 = 0 then (some (c_hits0)) else (some (c_hits1))

def mX1_awaitsRoll (c_phase : Int32) : Option (Bool) :=
  if c_phase = 0 then (some (true)) else (some (false))

def mX1_doRoll (c_phase : Int32) (c_dice : Int32) (a1 : Int32) (a2 : Int32) : Option ((Int32) × (Int32)) :=
  k_bd (mX0_rolled a1 a2) (fun r1 => some (1, r1))

def mX1_reachNow (c_mover : Int32) (c_dice : Int32) (c_pieces0 : Int64) (c_pieces1 : Int64) : Option (Int32) :=
  k_bd (mX1_moversPieces c_mover c_pieces0 c_pieces1) (fun r1 => k_bd (mX1_othersPieces c_mover c_pieces0 c_pieces1) (fun r2 => k_bd (mX7_reachOf 6 r1 r2 c_dice 4) (fun r3 => some (r3))))

def mX1_reasonAgainst (c_mover : Int32) (c_dice : Int32) (c_pieces0 : Int64) (c_pieces1 : Int64) (a1 : Int32) (a2 : Int32) : Option (Int32) :=
  k_bd (mX1_moversPieces c_mover c_pieces0 c_pieces1) (fun r1 => k_bd (mX1_othersPieces c_mover c_pieces0 c_pieces1) (fun r2 => k_bd (mX1_wayOf c_mover a1) (fun r3 => k_bd (mX1_reachNow c_mover c_dice c_pieces0 c_pieces1) (fun r4 => k_bd (mX7_reason r1 r2 c_dice r3 a2 r4) (fun r5 => some (r5))))))

def mX1_winBy_30 (c_mover : Int32) (a1 : Int32) (c_phase : Int32) (c_dice : Int32) (c_score0 : Int32) (c_score1 : Int32) : Option ((Int32) × (Int32) × (Int32) × (Int32)) :=
  some (3, 0, c_score0, c_score1)
def mX1_winBy (c_mover : Int32) (c_phase : Int32) (c_dice : Int32) (c_score0 : Int32) (c_score1 : Int32) (a1 : Int32) : Option ((Int32) × (Int32) × (Int32) × (Int32)) :=
  if c_mover = 0 then (mX1_winBy_30 c_mover a1 c_phase c_dice (c_score0 + a1) c_score1) else (mX1_winBy_30 c_mover a1 c_phase c_dice c_score0 (c_score1 + a1))

def mX1_countHit (c_hits0 : Int32) (c_hits1 : Int32) (a1 : Int32) : Option ((Int32) × (Int32)) :=
  if a1 = 0 then (some ((c_hits0 + 1), c_hits1)) else (some (c_hits0, (c_hits1 + 1)))

def mX1_doStep_140 (c_mover : Int32) (c_stake : Int32) (a1 : Int32) (a2 : Int32) (t0 : Int32) (l6 : Bool) (c_phase : Int32) (c_dice : Int32) (c_pieces0 : Int64) (c_pieces1 : Int64) (c_score0 : Int32) (c_score1 : Int32) (c_hits0 : Int32) (c_hits1 : Int32) : Option (Bool × (Int32) × (Int32) × (Int64) × (Int64) × (Int32) × (Int32) × (Int32) × (Int32)) :=
  k_bd4 (mX1_winBy c_mover c_phase c_dice c_score0 c_score1 t0) (fun w1 w2 w3 w4 => some (l6, w1, w2, c_pieces0, c_pieces1, w3, w4, c_hits0, c_hits1))
def mX1_doStep_119 (c_mover : Int32) (c_stake : Int32) (a1 : Int32) (a2 : Int32) (t0 : Bool) (l6 : Bool) (c_phase : Int32) (c_dice : Int32) (c_pieces0 : Int64) (c_pieces1 : Int64) (c_score0 : Int32) (c_score1 : Int32) (c_hits0 : Int32) (c_hits1 : Int32) : Option (Bool × (Int32) × (Int32) × (Int64) × (Int64) × (Int32) × (Int32) × (Int32) × (Int32)) :=
  if (k_b t0) = 0 then (mX1_doStep_140 c_mover c_stake a1 a2 c_stake l6 c_phase c_dice c_pieces0 c_pieces1 c_score0 c_score1 c_hits0 c_hits1) else (mX1_doStep_140 c_mover c_stake a1 a2 (2 * c_stake) l6 c_phase c_dice c_pieces0 c_pieces1 c_score0 c_score1 c_hits0 c_hits1)
def mX1_doStep_93 (c_mover : Int32) (c_stake : Int32) (a1 : Int32) (a2 : Int32) (l6 : Bool) (c_phase : Int32) (c_dice : Int32) (c_pieces0 : Int64) (c_pieces1 : Int64) (c_score0 : Int32) (c_score1 : Int32) (c_hits0 : Int32) (c_hits1 : Int32) : Option (Bool × (Int32) × (Int32) × (Int64) × (Int64) × (Int32) × (Int32) × (Int32) × (Int32)) :=
  k_bd (mX1_moversPieces c_mover c_pieces0 c_pieces1) (fun r5 => k_bd (mX3_allOff r5) (fun r6 => if (k_b r6) = 0 then (some (l6, c_phase, c_dice, c_pieces0, c_pieces1, c_score0, c_score1, c_hits0, c_hits1)) else (k_bd (mX1_othersPieces c_mover c_pieces0 c_pieces1) (fun r7 => k_bd (mX3_on r7 0) (fun r8 => if r8 = 0 then (mX1_doStep_119 c_mover c_stake a1 a2 true l6 c_phase c_dice c_pieces0 c_pieces1 c_score0 c_score1 c_hits0 c_hits1) else (mX1_doStep_119 c_mover c_stake a1 a2 false l6 c_phase c_dice c_pieces0 c_pieces1 c_score0 c_score1 c_hits0 c_hits1))))))
def mX1_doStep_35 (c_mover : Int32) (c_stake : Int32) (a1 : Int32) (a2 : Int32) (t0 : Bool) (l3 : Int32) (l4 : Int64) (c_phase : Int32) (c_dice : Int32) (c_pieces0 : Int64) (c_pieces1 : Int64) (c_score0 : Int32) (c_score1 : Int32) (c_hits0 : Int32) (c_hits1 : Int32) : Option (Bool × (Int32) × (Int32) × (Int64) × (Int64) × (Int32) × (Int32) × (Int32) × (Int32)) :=
  k_bd2 (mX1_setPieces c_pieces0 c_pieces1 (1 - c_mover) l4) (fun w9 w10 => k_bd (mX1_moversPieces c_mover w9 w10) (fun r11 => k_bd (mX7_mineBehind r11 l3 a2) (fun r12 => k_bd2 (mX1_setPieces w9 w10 c_mover r12) (fun w13 w14 => k_bd (mX0_without c_dice a2) (fun r15 => if (k_b t0) = 0 then (mX1_doStep_93 c_mover c_stake a1 a2 t0 c_phase r15 w13 w14 c_score0 c_score1 c_hits0 c_hits1) else (k_bd2 (mX1_countHit c_hits0 c_hits1 (1 - c_mover)) (fun w16 w17 => mX1_doStep_93 c_mover c_stake a1 a2 t0 c_phase r15 w13 w14 c_score0 c_score1 w16 w17)))))))
def mX1_doStep (c_mover : Int32) (c_phase : Int32) (c_dice : Int32) (c_stake : Int32) (c_pieces0 : Int64) (c_pieces1 : Int64) (c_score0 : Int32) (c_score1 : Int32) (c_hits0 : Int32) (c_hits1 : Int32) (a1 : Int32) (a2 : Int32) : Option (Bool × (Int32) × (Int32) × (Int64) × (Int64) × (Int32) × (Int32) × (Int32) × (Int32)) :=
  k_bd (mX1_wayOf c_mover a1) (fun r18 => k_bd (mX1_othersPieces c_mover c_pieces0 c_pieces1) (fun r19 => k_bd (mX7_theirsBehind r19 r18 a2) (fun r20 => k_bd (mX1_othersPieces c_mover c_pieces0 c_pieces1) (fun r21 => if (lg_cmp r20 r21) = 0 then (mX1_doStep_35 c_mover c_stake a1 a2 false r18 r20 c_phase c_dice c_pieces0 c_pieces1 c_score0 c_score1 c_hits0 c_hits1) else (mX1_doStep_35 c_mover c_stake a1 a2 true r18 r20 c_phase c_dice c_pieces0 c_pieces1 c_score0 c_score1 c_hits0 c_hits1)))))

def mX1_canEndTurn (c_mover : Int32) (c_phase : Int32) (c_dice : Int32) (c_pieces0 : Int64) (c_pieces1 : Int64) : Option (Bool) :=
  if c_phase = 1 then (k_bd (mX1_reachNow c_mover c_dice c_pieces0 c_pieces1) (fun r1 => if r1 = 0 then (some (true)) else (some (false)))) else (some (false))

def mX1_doEndTurn (c_mover : Int32) (c_phase : Int32) (c_dice : Int32) : Option ((Int32) × (Int32) × (Int32)) :=
  some ((1 - c_mover), 0, 0)

def mX1_carried (c_pieces0 : Int64) (c_pieces1 : Int64) (a1 : Int32) (a2 : Int32) (a3 : Int32) : Option (Int64) :=
  k_bd (mX1_piecesOf c_pieces0 c_pieces1 a1) (fun r1 => k_bd (mX1_wayOf a1 a2) (fun r2 => k_bd (mX1_wayOf a1 a3) (fun r3 => k_bd (mX3_moved r1 r2 r3) (fun r4 => some (r4)))))

def mX1_canCarry_54 (c_phase : Int32) (c_pieces0 : Int64) (c_pieces1 : Int64) (a1 : Int32) (a2 : Int32) (a3 : Int32) : Option (Bool) :=
  k_bd (mX1_carried c_pieces0 c_pieces1 a1 a2 a3) (fun r1 => k_bd (mX3_allOff r1) (fun r2 => if (k_b r2) = 0 then (some (true)) else (some (false))))
def mX1_canCarry_34 (c_phase : Int32) (c_pieces0 : Int64) (c_pieces1 : Int64) (a1 : Int32) (a2 : Int32) (a3 : Int32) (t0 : Bool) : Option (Bool) :=
  if (k_b t0) = 0 then (mX1_canCarry_54 c_phase c_pieces0 c_pieces1 a1 a2 a3 ) else (k_bd (mX1_countAt c_pieces0 c_pieces1 (1 - a1) a3) (fun r3 => if r3 ≤ 0 then (mX1_canCarry_54 c_phase c_pieces0 c_pieces1 a1 a2 a3 ) else (some (false))))
def mX1_canCarry_33 (c_phase : Int32) (c_pieces0 : Int64) (c_pieces1 : Int64) (a1 : Int32) (a2 : Int32) (a3 : Int32) : Option (Bool) :=
  mX1_canCarry_34 c_phase c_pieces0 c_pieces1 a1 a2 a3 false
def mX1_canCarry (c_phase : Int32) (c_pieces0 : Int64) (c_pieces1 : Int64) (a1 : Int32) (a2 : Int32) (a3 : Int32) : Option (Bool) :=
  if c_phase = 0 then (k_bd (mX1_countAt c_pieces0 c_pieces1 a1 a2) (fun r4 => if r4 = 0 then (some (false)) else (if a3 = (-1) then (mX1_canCarry_33 c_phase c_pieces0 c_pieces1 a1 a2 a3 ) else (if a3 = 16 then (mX1_canCarry_33 c_phase c_pieces0 c_pieces1 a1 a2 a3 ) else (mX1_canCarry_34 c_phase c_pieces0 c_pieces1 a1 a2 a3 true))))) else (some (false))

def mX1_doCarry (c_pieces0 : Int64) (c_pieces1 : Int64) (a1 : Int32) (a2 : Int32) (a3 : Int32) : Option ((Int64) × (Int64)) :=
  k_bd (mX1_carried c_pieces0 c_pieces1 a1 a2 a3) (fun r1 => k_bd2 (mX1_setPieces c_pieces0 c_pieces1 a1 r1) (fun w2 w3 => some (w2, w3)))

def mX1_canOffer_24 (c_mover : Int32) (c_phase : Int32) (c_stake : Int32) (c_cube : Int32) (t0 : Bool) : Option (Bool) :=
  if c_phase = 0 then (if (k_b t0) = 0 then (some (false)) else (if 32 < c_stake then (some (false)) else (some (true)))) else (some (false))
def mX1_canOffer (c_mover : Int32) (c_phase : Int32) (c_stake : Int32) (c_cube : Int32) : Option (Bool) :=
  if c_cube = c_mover then (mX1_canOffer_24 c_mover c_phase c_stake c_cube true) else (if c_cube = (-1) then (mX1_canOffer_24 c_mover c_phase c_stake c_cube true) else (mX1_canOffer_24 c_mover c_phase c_stake c_cube false))

def mX1_doOffer (c_phase : Int32) : Option ((Int32)) :=
  some (2)

def mX1_isOffered (c_phase : Int32) : Option (Bool) :=
  if c_phase = 2 then (some (true)) else (some (false))

def mX1_doTake (c_mover : Int32) (c_phase : Int32) (c_stake : Int32) (c_cube : Int32) : Option ((Int32) × (Int32) × (Int32)) :=
  some (0, (2 * c_stake), (1 - c_mover))

def mX1_doDrop (c_mover : Int32) (c_phase : Int32) (c_dice : Int32) (c_stake : Int32) (c_score0 : Int32) (c_score1 : Int32) : Option ((Int32) × (Int32) × (Int32) × (Int32)) :=
  k_bd4 (mX1_winBy c_mover c_phase c_dice c_score0 c_score1 c_stake) (fun w1 w2 w3 w4 => some (w1, w2, w3, w4))

def mX1_isOver (c_phase : Int32) : Option (Bool) :=
  if c_phase = 3 then (some (true)) else (some (false))

def mX1_doNewGame (c_mover : Int32) (c_phase : Int32) (c_stake : Int32) (c_cube : Int32) (c_pieces0 : Int64) (c_pieces1 : Int64) : Option ((Int32) × (Int32) × (Int32) × (Int32) × (Int64) × (Int64)) :=
  some ((1 - c_mover), 0, 1, (-1), (563087660810240), (563087660810240))

