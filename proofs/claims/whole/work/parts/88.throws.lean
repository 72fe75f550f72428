def mT9_roll_14 (cnt : Int32) (G : Nat → GT) (c_mover : Int32) (c_phase : Int32) (c_dice : Int32) (c_stake : Int32) (c_cube : Int32) (c_pieces0 : Int64) (c_pieces1 : Int64) (c_score0 : Int32) (c_score1 : Int32) (c_hits0 : Int32) (c_hits1 : Int32) (c_stopped : Bool) (c_stopPart : Int32) (a1 : Int32) (a2 : Int32) : Option (String) :=
  some "java/lang/IllegalArgumentException"
def mT9_roll (cnt : Int32) (G : Nat → GT) (c_mover : Int32) (c_phase : Int32) (c_dice : Int32) (c_stake : Int32) (c_cube : Int32) (c_pieces0 : Int64) (c_pieces1 : Int64) (c_score0 : Int32) (c_score1 : Int32) (c_hits0 : Int32) (c_hits1 : Int32) (c_stopped : Bool) (c_stopPart : Int32) (a1 : Int32) (a2 : Int32) : Option (String) :=
  k_bd (mX0_isDie a1) (fun r1 => if (k_b r1) = 0 then (mT9_roll_14 cnt G c_mover c_phase c_dice c_stake c_cube c_pieces0 c_pieces1 c_score0 c_score1 c_hits0 c_hits1 c_stopped c_stopPart a1 a2 ) else (k_bd (mX0_isDie a2) (fun r2 => if (k_b r2) = 0 then (mT9_roll_14 cnt G c_mover c_phase c_dice c_stake c_cube c_pieces0 c_pieces1 c_score0 c_score1 c_hits0 c_hits1 c_stopped c_stopPart a1 a2 ) else (k_bd (mX1_awaitsRoll c_phase) (fun r3 => if (k_b r3) = 0 then (some "java/lang/IllegalStateException") else (none))))))

def mT9_step (cnt : Int32) (G : Nat → GT) (c_mover : Int32) (c_phase : Int32) (c_dice : Int32) (c_stake : Int32) (c_cube : Int32) (c_pieces0 : Int64) (c_pieces1 : Int64) (c_score0 : Int32) (c_score1 : Int32) (c_hits0 : Int32) (c_hits1 : Int32) (c_stopped : Bool) (c_stopPart : Int32) (a1 : Int32) (a2 : Int32) : Option (String) :=
  k_bd (mX9_isPointOrBar a1) (fun r1 => if (k_b r1) = 0 then (some "java/lang/IndexOutOfBoundsException") else (k_bd (mX0_isDie a2) (fun r2 => if (k_b r2) = 0 then (some "java/lang/IllegalArgumentException") else (k_bd (mX1_reasonAgainst c_mover c_dice c_pieces0 c_pieces1 a1 a2) (fun r3 => if r3 = 0 then (none) else (some "java/lang/IllegalStateException"))))))

def mT9_endTurn (cnt : Int32) (G : Nat → GT) (c_mover : Int32) (c_phase : Int32) (c_dice : Int32) (c_stake : Int32) (c_cube : Int32) (c_pieces0 : Int64) (c_pieces1 : Int64) (c_score0 : Int32) (c_score1 : Int32) (c_hits0 : Int32) (c_hits1 : Int32) (c_stopped : Bool) (c_stopPart : Int32) : Option (String) :=
  k_bd (mX1_canEndTurn c_mover c_phase c_dice c_pieces0 c_pieces1) (fun r1 => if (k_b r1) = 0 then (some "java/lang/IllegalStateException") else (none))

def mT9_carry_21 (cnt : Int32) (G : Nat → GT) (c_mover : Int32) (c_phase : Int32) (c_dice : Int32) (c_stake : Int32) (c_cube : Int32) (c_pieces0 : Int64) (c_pieces1 : Int64) (c_score0 : Int32) (c_score1 : Int32) (c_hits0 : Int32) (c_hits1 : Int32) (c_stopped : Bool) (c_stopPart : Int32) (a1 : Int32) (a2 : Int32) (a3 : Int32) : Option (String) :=
  some "java/lang/IndexOutOfBoundsException"
def mT9_carry (cnt : Int32) (G : Nat → GT) (c_mover : Int32) (c_phase : Int32) (c_dice : Int32) (c_stake : Int32) (c_cube : Int32) (c_pieces0 : Int64) (c_pieces1 : Int64) (c_score0 : Int32) (c_score1 : Int32) (c_hits0 : Int32) (c_hits1 : Int32) (c_stopped : Bool) (c_stopPart : Int32) (a1 : Int32) (a2 : Int32) (a3 : Int32) : Option (String) :=
  k_bd (mX9_isPlayer a1) (fun r1 => if (k_b r1) = 0 then (mT9_carry_21 cnt G c_mover c_phase c_dice c_stake c_cube c_pieces0 c_pieces1 c_score0 c_score1 c_hits0 c_hits1 c_stopped c_stopPart a1 a2 a3 ) else (k_bd (mX9_isPlace a2) (fun r2 => if (k_b r2) = 0 then (mT9_carry_21 cnt G c_mover c_phase c_dice c_stake c_cube c_pieces0 c_pieces1 c_score0 c_score1 c_hits0 c_hits1 c_stopped c_stopPart a1 a2 a3 ) else (k_bd (mX9_isPlace a3) (fun r3 => if (k_b r3) = 0 then (mT9_carry_21 cnt G c_mover c_phase c_dice c_stake c_cube c_pieces0 c_pieces1 c_score0 c_score1 c_hits0 c_hits1 c_stopped c_stopPart a1 a2 a3 ) else (k_bd (mX1_canCarry c_phase c_pieces0 c_pieces1 a1 a2 a3) (fun r4 => if (k_b r4) = 0 then (some "java/lang/IllegalStateException") else (none))))))))

def mT9_offer (cnt : Int32) (G : Nat → GT) (c_mover : Int32) (c_phase : Int32) (c_dice : Int32) (c_stake : Int32) (c_cube : Int32) (c_pieces0 : Int64) (c_pieces1 : Int64) (c_score0 : Int32) (c_score1 : Int32) (c_hits0 : Int32) (c_hits1 : Int32) (c_stopped : Bool) (c_stopPart : Int32) : Option (String) :=
  k_bd (mX1_canOffer c_mover c_phase c_stake c_cube) (fun r1 => if (k_b r1) = 0 then (some "java/lang/IllegalStateException") else (none))

def mT9_take (cnt : Int32) (G : Nat → GT) (c_mover : Int32) (c_phase : Int32) (c_dice : Int32) (c_stake : Int32) (c_cube : Int32) (c_pieces0 : Int64) (c_pieces1 : Int64) (c_score0 : Int32) (c_score1 : Int32) (c_hits0 : Int32) (c_hits1 : Int32) (c_stopped : Bool) (c_stopPart : Int32) : Option (String) :=
  k_bd (mX1_isOffered c_phase) (fun r1 => if (k_b r1) = 0 then (some "java/lang/IllegalStateException") else (none))

def mT9_drop (cnt : Int32) (G : Nat → GT) (c_mover : Int32) (c_phase : Int32) (c_dice : Int32) (c_stake : Int32) (c_cube : Int32) (c_pieces0 : Int64) (c_pieces1 : Int64) (c_score0 : Int32) (c_score1 : Int32) (c_hits0 : Int32) (c_hits1 : Int32) (c_stopped : Bool) (c_stopPart : Int32) : Option (String) :=
  k_bd (mX1_isOffered c_phase) (fun r1 => if (k_b r1) = 0 then (some "java/lang/IllegalStateException") else (none))

def mT9_newGame (cnt : Int32) (G : Nat → GT) (c_mover : Int32) (c_phase : Int32) (c_dice : Int32) (c_stake : Int32) (c_cube : Int32) (c_pieces0 : Int64) (c_pieces1 : Int64) (c_score0 : Int32) (c_score1 : Int32) (c_hits0 : Int32) (c_hits1 : Int32) (c_stopped : Bool) (c_stopPart : Int32) : Option (String) :=
  k_bd (mX1_isOver c_phase) (fun r1 => if (k_b r1) = 0 then (some "java/lang/IllegalStateException") else (none))

def mT9_append_12 (t_signs : Nat → Int32) (t_length : Int32) (a1 : Int32) : Option (String) :=
  some "java/lang/IllegalArgumentException"
def mT9_append (t_signs : Nat → Int32) (t_length : Int32) (a1 : Int32) : Option (String) :=
  if a1 < 33 then (mT9_append_12 t_signs t_length a1 ) else (if a1 ≤ 126 then (k_bd (mX8_isFull t_length) (fun r1 => if (k_b r1) = 0 then (none) else (some "java/lang/IllegalStateException"))) else (mT9_append_12 t_signs t_length a1 ))

def mT9_play_92 (cnt : Int32) (G : Nat → GT) (c_mover : Int32) (c_phase : Int32) (c_dice : Int32) (c_stake : Int32) (c_cube : Int32) (c_pieces0 : Int64) (c_pieces1 : Int64) (c_score0 : Int32) (c_score1 : Int32) (c_hits0 : Int32) (c_hits1 : Int32) (c_stopped : Bool) (c_stopPart : Int32) (t_signs : Nat → Int32) (t_length : Int32) (k38 : (Int32) → (Int32) → (Bool) → (Int32) → Option (String)) (l1 : Int32) (l3 : Bool) (l4 : Int32) (l5 : Int32) : Option (String) :=
  k38 l1 (l5 + 1) l3 (l4 + 1)
def mT9_play_116 (cnt : Int32) (G : Nat → GT) (c_mover : Int32) (c_phase : Int32) (c_dice : Int32) (c_stake : Int32) (c_cube : Int32) (c_pieces0 : Int64) (c_pieces1 : Int64) (c_score0 : Int32) (c_score1 : Int32) (c_hits0 : Int32) (c_hits1 : Int32) (c_stopped : Bool) (c_stopPart : Int32) (t_signs : Nat → Int32) (t_length : Int32) (t0 : Bool) (l1 : Int32) : Option (String) :=
  none
def mT9_play_103 (cnt : Int32) (G : Nat → GT) (c_mover : Int32) (c_phase : Int32) (c_dice : Int32) (c_stake : Int32) (c_cube : Int32) (c_pieces0 : Int64) (c_pieces1 : Int64) (c_score0 : Int32) (c_score1 : Int32) (c_hits0 : Int32) (c_hits1 : Int32) (c_stopped : Bool) (c_stopPart : Int32) (t_signs : Nat → Int32) (t_length : Int32) (l1 : Int32) (l3 : Bool) : Option (String) :=
  if (k_b l3) = 0 then (mT9_play_116 cnt G c_mover c_phase c_dice c_stake c_cube c_pieces0 c_pieces1 c_score0 c_score1 c_hits0 c_hits1 c_stopped c_stopPart t_signs t_length true l1) else (mT9_play_116 cnt G c_mover c_phase c_dice c_stake c_cube c_pieces0 c_pieces1 c_score0 c_score1 c_hits0 c_hits1 c_stopped c_stopPart t_signs t_length false l1)
def mT9_play_38 (cnt : Int32) (G : Nat → GT) (c_mover : Int32) (c_phase : Int32) (c_dice : Int32) (c_stake : Int32) (c_cube : Int32) (c_pieces0 : Int64) (c_pieces1 : Int64) (c_score0 : Int32) (c_score1 : Int32) (c_hits0 : Int32) (c_hits1 : Int32) (c_stopped : Bool) (c_stopPart : Int32) (t_signs : Nat → Int32) (t_length : Int32) (k38 : (Int32) → (Int32) → (Bool) → (Int32) → Option (String)) (l1 : Int32) (l2 : Int32) (l3 : Bool) (l4 : Int32) : Option (String) :=
  if 60 ≤ l4 then (mT9_play_103 cnt G c_mover c_phase c_dice c_stake c_cube c_pieces0 c_pieces1 c_score0 c_score1 c_hits0 c_hits1 c_stopped c_stopPart t_signs t_length l1 l3) else (if (k_b l3) = 0 then (mT9_play_103 cnt G c_mover c_phase c_dice c_stake c_cube c_pieces0 c_pieces1 c_score0 c_score1 c_hits0 c_hits1 c_stopped c_stopPart t_signs t_length l1 l3) else (if t_length ≤ l2 then (mT9_play_103 cnt G c_mover c_phase c_dice c_stake c_cube c_pieces0 c_pieces1 c_score0 c_score1 c_hits0 c_hits1 c_stopped c_stopPart t_signs t_length l1 l3) else (k_bd (mX8_endOfPart t_signs t_length l2) (fun r1 => none))))
def mT9_play (cnt : Int32) (G : Nat → GT) (c_mover : Int32) (c_phase : Int32) (c_dice : Int32) (c_stake : Int32) (c_cube : Int32) (c_pieces0 : Int64) (c_pieces1 : Int64) (c_score0 : Int32) (c_score1 : Int32) (c_hits0 : Int32) (c_hits1 : Int32) (c_stopped : Bool) (c_stopPart : Int32) (t_signs : Nat → Int32) (t_length : Int32) : Option (String) :=
  k_bd (mX8_isGame t_signs t_length) (fun r2 => if (k_b r2) = 0 then (some "java/lang/IllegalArgumentException") else (none))

def mT9_stoppedPart (c_stopped : Bool) (c_stopPart : Int32) : Option (String) :=
  if (k_b c_stopped) = 0 then (some "java/lang/IllegalStateException") else (none)

def mT9_undo (cnt : Int32) (G : Nat → GT) (c_mover : Int32) (c_phase : Int32) (c_dice : Int32) (c_stake : Int32) (c_cube : Int32) (c_pieces0 : Int64) (c_pieces1 : Int64) (c_score0 : Int32) (c_score1 : Int32) (c_hits0 : Int32) (c_hits1 : Int32) (c_stopped : Bool) (c_stopPart : Int32) : Option (String) :=
  if cnt = 0 then (some "java/lang/IllegalStateException") else (none)

def mT9_restore (hasS : Bool) (cnt : Int32) (snp : GT) (G : Nat → GT) (c_mover : Int32) (c_phase : Int32) (c_dice : Int32) (c_stake : Int32) (c_cube : Int32) (c_pieces0 : Int64) (c_pieces1 : Int64) (c_score0 : Int32) (c_score1 : Int32) (c_hits0 : Int32) (c_hits1 : Int32) (c_stopped : Bool) (c_stopPart : Int32) : Option (String) :=
  if (k_b hasS) = 0 then (some "java/lang/IllegalStateException") else (none)

def mT9_dieLeft_18 (c_dice : Int32) (a1 : Int32) : Option (String) :=
  some "java/lang/IndexOutOfBoundsException"
def mT9_dieLeft (c_dice : Int32) (a1 : Int32) : Option (String) :=
  if a1 < 0 then (mT9_dieLeft_18 c_dice a1 ) else (k_bd (mX0_count c_dice) (fun r1 => if a1 < r1 then (k_bd (mX0_at c_dice a1) (fun r2 => none)) else (mT9_dieLeft_18 c_dice a1 )))

def mT9_piecesOn_14 (c_pieces0 : Int64) (c_pieces1 : Int64) (a1 : Int32) (a2 : Int32) : Option (String) :=
  some "java/lang/IndexOutOfBoundsException"
def mT9_piecesOn (c_pieces0 : Int64) (c_pieces1 : Int64) (a1 : Int32) (a2 : Int32) : Option (String) :=
  k_bd (mX9_isPlayer a1) (fun r1 => if (k_b r1) = 0 then (mT9_piecesOn_14 c_pieces0 c_pieces1 a1 a2 ) else (k_bd (mX9_isPoint a2) (fun r2 => if (k_b r2) = 0 then (mT9_piecesOn_14 c_pieces0 c_pieces1 a1 a2 ) else (k_bd (mX1_countAt c_pieces0 c_pieces1 a1 a2) (fun r3 => none)))))

def mT9_onBar (c_pieces0 : Int64) (c_pieces1 : Int64) (a1 : Int32) : Option (String) :=
  k_bd (mX9_isPlayer a1) (fun r1 => if (k_b r1) = 0 then (some "java/lang/IndexOutOfBoundsException") else (k_bd (mX1_piecesOf c_pieces0 c_pieces1 a1) (fun r2 => k_bd (mX3_on r2 17) (fun r3 => none))))

def mT9_borneOff (c_pieces0 : Int64) (c_pieces1 : Int64) (a1 : Int32) : Option (String) :=
  k_bd (mX9_isPlayer a1) (fun r1 => if (k_b r1) = 0 then (some "java/lang/IndexOutOfBoundsException") else (k_bd (mX1_piecesOf c_pieces0 c_pieces1 a1) (fun r2 => k_bd (mX3_on r2 0) (fun r3 => none))))

def mT9_pips (c_pieces0 : Int64) (c_pieces1 : Int64) (a1 : Int32) : Option (String) :=
  k_bd (mX9_isPlayer a1) (fun r1 => if (k_b r1) = 0 then (some "java/lang/IndexOutOfBoundsException") else (k_bd (mX1_piecesOf c_pieces0 c_pieces1 a1) (fun r2 => k_bd (mX3_sumOfWays r2) (fun r3 => none))))

def mT9_blots (c_pieces0 : Int64) (c_pieces1 : Int64) (a1 : Int32) : Option (String) :=
  k_bd (mX9_isPlayer a1) (fun r1 => if (k_b r1) = 0 then (some "java/lang/IndexOutOfBoundsException") else (k_bd (mX1_piecesOf c_pieces0 c_pieces1 a1) (fun r2 => k_bd (mX3_singles r2) (fun r3 => none))))

def mT9_blockade (c_pieces0 : Int64) (c_pieces1 : Int64) (a1 : Int32) : Option (String) :=
  k_bd (mX9_isPlayer a1) (fun r1 => if (k_b r1) = 0 then (some "java/lang/IndexOutOfBoundsException") else (k_bd (mX1_piecesOf c_pieces0 c_pieces1 a1) (fun r2 => k_bd (mX3_longestWall r2) (fun r3 => none))))

def mT9_score (c_score0 : Int32) (c_score1 : Int32) (a1 : Int32) : Option (String) :=
  k_bd (mX9_isPlayer a1) (fun r1 => if (k_b r1) = 0 then (some "java/lang/IndexOutOfBoundsException") else (k_bd (mX1_scoreOf c_score0 c_score1 a1) (fun r2 => none)))

def mT9_hits (c_hits0 : Int32) (c_hits1 : Int32) (a1 : Int32) : Option (String) :=
  k_bd (mX9_isPlayer a1) (fun r1 => if (k_b r1) = 0 then (some "java/lang/IndexOutOfBoundsException") else (k_bd (mX1_hitsOf c_hits0 c_hits1 a1) (fun r2 => none)))

def mT9_whyNoStep (c_mover : Int32) (c_dice : Int32) (c_pieces0 : Int64) (c_pieces1 : Int64) (a1 : Int32) (a2 : Int32) : Option (String) :=
  k_bd (mX9_isPointOrBar a1) (fun r1 => if (k_b r1) = 0 then (some "java/lang/IndexOutOfBoundsException") else (k_bd (mX0_isDie a2) (fun r2 => if (k_b r2) = 0 then (some "java/lang/IllegalArgumentException") else (k_bd (mX1_reasonAgainst c_mover c_dice c_pieces0 c_pieces1 a1 a2) (fun r3 => none)))))

def mT9_playsWith_14 (c_mover : Int32) (c_pieces0 : Int64) (c_pieces1 : Int64) (a1 : Int32) (a2 : Int32) : Option (String) :=
  some "java/lang/IllegalArgumentException"
def mT9_playsWith (c_mover : Int32) (c_pieces0 : Int64) (c_pieces1 : Int64) (a1 : Int32) (a2 : Int32) : Option (String) :=
  k_bd (mX0_isDie a1) (fun r1 => if (k_b r1) = 0 then (mT9_playsWith_14 c_mover c_pieces0 c_pieces1 a1 a2 ) else (k_bd (mX0_isDie a2) (fun r2 => if (k_b r2) = 0 then (mT9_playsWith_14 c_mover c_pieces0 c_pieces1 a1 a2 ) else (k_bd (mX0_rolled a1 a2) (fun r3 => k_bd (mX1_moversPieces c_mover c_pieces0 c_pieces1) (fun r4 => k_bd (mX1_othersPieces c_mover c_pieces0 c_pieces1) (fun r5 => none)))))))

def mT9_shots (c_pieces0 : Int64) (c_pieces1 : Int64) (a1 : Int32) : Option (String) :=
  k_bd (mX9_isPoint a1) (fun r1 => if (k_b r1) = 0 then (some "java/lang/IndexOutOfBoundsException") else (none))

def mT9_shotsByKinds (c_pieces0 : Int64) (c_pieces1 : Int64) (a1 : Int32) : Option (String) :=
  k_bd (mX9_isPoint a1) (fun r1 => if (k_b r1) = 0 then (some "java/lang/IndexOutOfBoundsException") else (none))

def mT9_entering (c_pieces0 : Int64) (c_pieces1 : Int64) (a1 : Int32) : Option (String) :=
  k_bd (mX9_isPlayer a1) (fun r1 => if (k_b r1) = 0 then (some "java/lang/IndexOutOfBoundsException") else (k_bd (mX1_piecesOf c_pieces0 c_pieces1 (1 - a1)) (fun r2 => k_bd (mX6_rollsThatEnter r2) (fun r3 => none))))

def mT9_blotsBehind (c_mover : Int32) (c_dice : Int32) (c_pieces0 : Int64) (c_pieces1 : Int64) (a1 : Int32) (a2 : Int32) : Option (String) :=
  k_bd (mX9_isPointOrBar a1) (fun r1 => if (k_b r1) = 0 then (some "java/lang/IndexOutOfBoundsException") else (k_bd (mX0_isDie a2) (fun r2 => if (k_b r2) = 0 then (some "java/lang/IllegalArgumentException") else (k_bd (mX1_reasonAgainst c_mover c_dice c_pieces0 c_pieces1 a1 a2) (fun r3 => if r3 = 0 then (k_bd (mX1_wayOf c_mover a1) (fun r4 => k_bd (mX1_moversPieces c_mover c_pieces0 c_pieces1) (fun r5 => k_bd (mX7_mineBehind r5 r4 a2) (fun r6 => k_bd (mX3_singles r6) (fun r7 => none))))) else (some "java/lang/IllegalStateException"))))))

abbrev rmT9_roll : Room := { frames := 6, cells := 1, slots := 6, locals := 81 }
set_option maxHeartbeats 4000000 in
set_option maxRecDepth 100000 in
theorem zT9_roll {l : Launch} {D : va_G} {cI cJ cC cG : ClassId} {sz : Nat} {h9 hn h0 : Nat} {ap q ht pa pb pc : Nat → Nat} {jk : JT} {hasS : Bool} {cnt : Int32} {snp : GT} {G : Nat → GT} {c_mover : Int32} {c_phase : Int32} {c_dice : Int32} {c_stake : Int32} {c_cube : Int32} {c_pieces0 : Int64} {c_pieces1 : Int64} {c_score0 : Int32} {c_score1 : Int32} {c_hits0 : Int32} {c_hits1 : Int32} {c_stopped : Bool} {c_stopPart : Int32} {t_signs : Nat → Int32} {t_length : Int32} {a1 : Int32} {a2 : Int32} {E : String} (hst : l.stackTraces = false) (hm : mT9_roll cnt G c_mover c_phase c_dice c_stake c_cube c_pieces0 c_pieces1 c_score0 c_score1 c_hits0 c_hits1 c_stopped c_stopPart a1 a2 = some E) : k_MT l yX9_roll wsX9_roll rmT9_roll D (kT cI cJ cC cG) sz ([.ref h9, .int a1, .int a2] : List Value) (wX cI cJ cC cG h9 hn ap q ht h0 pa pb pc jk hasS cnt snp G c_mover c_phase c_dice c_stake c_cube c_pieces0 c_pieces1 c_score0 c_score1 c_hits0 c_hits1 c_stopped c_stopPart t_signs t_length)  E := by
  refine k_st_T (cc := cX9_roll) (maxL := 3) (by decide) rfl (Nat.le_of_ble_eq_true rfl) ?_
  intro p e z m below meth c A hx hb hr hml hts hown hlocks hsz hN hA hK hP hD hS hq hex ls hl
  have hown : z.vm.findClass RX9 = some m.cls := hown
  have hinX9 : ∀ w ∈ wsX90, w ∈ wsX9_roll := by decide +kernel
  have fl10 := hts (.fieldLink RX9 10 "MagpieRuns" "now" "LMagpieRuns$Game;") (by decide +kernel)
  have fl19 := hts (.fieldLink RX9 19 "MagpieRuns" "past" "LMagpieRuns$Past;") (by decide +kernel)
  have hl : lv_has ls 3 [(0, .ref h9), (1, .int a1), (2, .int a2)] := hl
  have J_14 : ∀ (H : Heap) (locs : List Loc), va_P D vwCl (wX cI cJ cC cG h9 hn ap q ht h0 pa pb pc jk hasS cnt snp G c_mover c_phase c_dice c_stake c_cube c_pieces0 c_pieces1 c_score0 c_score1 c_hits0 c_hits1 c_stopped c_stopPart t_signs t_length) H → va_D A (wX cI cJ cC cG h9 hn ap q ht h0 pa pb pc jk hasS cnt snp G c_mover c_phase c_dice c_stake c_cube c_pieces0 c_pieces1 c_score0 c_score1 c_hits0 c_hits1 c_stopped c_stopPart t_signs t_length) → va_S A z.heap H locs → ∀ ls : Array Slot, lv_has ls 3 [] → mT9_roll_14 cnt G c_mover c_phase c_dice c_stake c_cube c_pieces0 c_pieces1 c_score0 c_score1 c_hits0 c_hits1 c_stopped c_stopPart a1 a2  = some E → W p l e rmT9_roll z m ([.ref h9, .int a1, .int a2] : List Value).toArray below meth c H locs 0 0 (k_QT below ([.ref h9, .int a1, .int a2] : List Value) D (kT cI cJ cC cG) z A (wX cI cJ cC cG h9 hn ap q ht h0 pa pb pc jk hasS cnt snp G c_mover c_phase c_dice c_stake c_cube c_pieces0 c_pieces1 c_score0 c_score1 c_hits0 c_hits1 c_stopped c_stopPart t_signs t_length) E) (F0 m 14 ls []) := by
    intro  H locs hP hD hS ls hl hm
    unfold mT9_roll_14 at hm
    cases hm
    exact k_throw (own := RX9) (ik := 43) (ic := 45) (cls := "java/lang/IllegalArgumentException") hx hb hst hown (hts (.classLink RX9 43 "java/lang/IllegalArgumentException") (by decide +kernel)) (hts (.initialized "java/lang/IllegalArgumentException") (by decide +kernel)) (fun w hw => hts w (List.mem_cons_of_mem _ (by simp only [List.mem_append]; simp only [hw, or_true, true_or]))) (by decide +kernel) (by decide +kernel) (by decide +kernel) hq hS (hl.1.trans hml.symm) dX9_roll_14 dX9_roll_17 dX9_roll_18 dX9_roll_21 (fun x hx => (hex x hx).elim) (Nat.le_of_ble_eq_true rfl) (Nat.le_of_ble_eq_true rfl) (Nat.le_of_ble_eq_true rfl) (Nat.le_of_ble_eq_true rfl) hlocks hK hP hD
  unfold mT9_roll at hm
  refine lv_iload_n hx hb dX9_roll_0 rfl (lv_at hl 1 rfl) ?_
  obtain ⟨r1, hc1, hm⟩ := k_bds hm
  refine k_i_0 (k_rS (As := [.int a1]) (rest := []) ⟨hx, hb, hml, hown, hts⟩ hK hN k_P0 (k_D0 (A := A)) (zX0_isDie hc1) (va_cwS 1 hts gX9_roll_X0_isDie rfl rfl rfl (by decide +kernel) ⟨Nat.le_of_ble_eq_true rfl, Nat.le_of_ble_eq_true rfl⟩) rfl hl.1 rfl (Nat.le_of_ble_eq_true rfl) dX9_roll_1 ⟨Nat.zero_le _, Nat.zero_le _⟩) hP hS hA (fun H locs hP hS => ?_)
  refine lv_if_eq (tgt := 14) hx hb dX9_roll_4 (by decide) (fun cc4 => ?_) (fun cc4 => ?_)
  · have hm := k_ip cc4 hm
    exact J_14  _ _ hP hD hS _ (lv_sub hl [] rfl) hm
  · have hm := k_in cc4 hm
    refine lv_iload_n hx hb dX9_roll_7 rfl (lv_at hl 2 rfl) ?_
    obtain ⟨r2, hc8, hm⟩ := k_bds hm
    refine k_i_0 (k_rS (As := [.int a2]) (rest := []) ⟨hx, hb, hml, hown, hts⟩ hK hN k_P0 (k_D0 (A := A)) (zX0_isDie hc8) (va_cwS 1 hts gX9_roll_X0_isDie rfl rfl rfl (by decide +kernel) ⟨Nat.le_of_ble_eq_true rfl, Nat.le_of_ble_eq_true rfl⟩) rfl hl.1 rfl (Nat.le_of_ble_eq_true rfl) dX9_roll_8 ⟨Nat.zero_le _, Nat.zero_le _⟩) hP hS hA (fun H locs hP hS => ?_)
    refine lv_if_ne (tgt := 22) hx hb dX9_roll_11 (by decide) (fun cc11 => ?_) (fun cc11 => ?_)
    · have hm := k_in cc11 hm
      refine lv_aload_n hx hb dX9_roll_22 rfl (lv_at hl 0 rfl) ?_
      refine va_get (D := D) (ci := 5) (v := .ref hn) (C := RX9) (T := TX9) (N := 4) hx hb hts hinX9 hown hK hP 0 rfl rfl 0 (by decide) fl10 (fun _ h9 => h9) rfl dX9_roll_23 ?_
      obtain ⟨r3, hc26, hm⟩ := k_bds hm
      have hPc : va_P D vwCl (wG hn c_mover c_phase c_dice c_stake c_cube c_pieces0 c_pieces1 c_score0 c_score1 c_hits0 c_hits1 c_stopped c_stopPart) _ := k_Psub hP [1] rfl
      have hDc : va_D A (wG hn c_mover c_phase c_dice c_stake c_cube c_pieces0 c_pieces1 c_score0 c_score1 c_hits0 c_hits1 c_stopped c_stopPart) := hD.sub [1] (by decide) rfl
      refine k_i_c (Wf := (wX cI cJ cC cG h9 hn ap q ht h0 pa pb pc jk hasS cnt snp G c_mover c_phase c_dice c_stake c_cube c_pieces0 c_pieces1 c_score0 c_score1 c_hits0 c_hits1 c_stopped c_stopPart t_signs t_length)) [1] [0, 2, 3, 4, 5, 6, 7, 8, 9, 10, 11, 12, 13, 14, 15, 16, 17, 18, 19, 20, 21, 22, 23, 24] [0, 24, 1, 2, 3, 4, 5, 6, 7, 8, 9, 10, 11, 12, 13, 14, 15, 16, 17, 18, 19, 20, 21, 22, 23] (k_rV (As := []) (rest := []) ⟨hx, hb, hml, hown, hts⟩ hK hN hPc hDc (zX1_awaitsRoll hc26) (cwV 0 hts gX9_roll_X1_awaitsRoll rfl rfl rfl (by decide +kernel) ⟨Nat.le_of_ble_eq_true rfl, Nat.le_of_ble_eq_true rfl⟩) rfl rfl rfl hl.1 rfl (Nat.le_of_ble_eq_true rfl) dX9_roll_26 ⟨Nat.zero_le _, Nat.zero_le _⟩) hP hD hS hA rfl rfl (by decide) (by decide) rfl (by decide) (fun H locs hP hD hS => ?_)
      refine lv_if_ne (tgt := 40) hx hb dX9_roll_29 (by decide) (fun cc29 => ?_) (fun cc29 => ?_)
      · have hm := k_in cc29 hm
        refine lv_aload_n hx hb dX9_roll_40 rfl (lv_at hl 0 rfl) ?_
        refine va_get (D := D) (ci := 5) (v := .ref (ap 0)) (C := RX9) (T := TX9) (N := 4) hx hb hts hinX9 hown hK hP 0 rfl rfl 1 (by decide) fl19 (fun _ h9 => h9) rfl dX9_roll_41 ?_
        refine lv_aload_n hx hb dX9_roll_44 rfl (lv_at hl 0 rfl) ?_
        refine va_get (D := D) (ci := 5) (v := .ref hn) (C := RX9) (T := TX9) (N := 4) hx hb hts hinX9 hown hK hP 0 rfl rfl 0 (by decide) fl10 (fun _ h9 => h9) rfl dX9_roll_45 ?_
        cases hm
      · have hm := k_ip cc29 hm
        cases hm
        exact k_throw (own := RX9) (ik := 50) (ic := 52) (cls := "java/lang/IllegalStateException") hx hb hst hown (hts (.classLink RX9 50 "java/lang/IllegalStateException") (by decide +kernel)) (hts (.initialized "java/lang/IllegalStateException") (by decide +kernel)) (fun w hw => hts w (List.mem_cons_of_mem _ (by simp only [List.mem_append]; simp only [hw, or_true, true_or]))) (by decide +kernel) (by decide +kernel) (by decide +kernel) hq hS (hl.1.trans hml.symm) dX9_roll_32 dX9_roll_35 dX9_roll_36 dX9_roll_39 (fun x hx => (hex x hx).elim) (Nat.le_of_ble_eq_true rfl) (Nat.le_of_ble_eq_true rfl) (Nat.le_of_ble_eq_true rfl) (Nat.le_of_ble_eq_true rfl) hlocks hK hP hD
    · have hm := k_ip cc11 hm
      exact J_14  _ _ hP hD hS _ (lv_sub hl [] rfl) hm

abbrev rmT9_step : Room := { frames := 12, cells := 1, slots := 6, locals := 364 }
set_option maxHeartbeats 4000000 in
set_option maxRecDepth 100000 in
theorem zT9_step {l : Launch} {D : va_G} {cI cJ cC cG : ClassId} {sz : Nat} {h9 hn h0 : Nat} {ap q ht pa pb pc : Nat → Nat} {jk : JT} {hasS : Bool} {cnt : Int32} {snp : GT} {G : Nat → GT} {c_mover : Int32} {c_phase : Int32} {c_dice : Int32} {c_stake : Int32} {c_cube : Int32} {c_pieces0 : Int64} {c_pieces1 : Int64} {c_score0 : Int32} {c_score1 : Int32} {c_hits0 : Int32} {c_hits1 : Int32} {c_stopped : Bool} {c_stopPart : Int32} {t_signs : Nat → Int32} {t_length : Int32} {a1 : Int32} {a2 : Int32} {E : String} (hst : l.stackTraces = false) (hm : mT9_step cnt G c_mover c_phase c_dice c_stake c_cube c_pieces0 c_pieces1 c_score0 c_score1 c_hits0 c_hits1 c_stopped c_stopPart a1 a2 = some E) : k_MT l yX9_step wsX9_step rmT9_step D (kT cI cJ cC cG) sz ([.ref h9, .int a1, .int a2] : List Value) (wX cI cJ cC cG h9 hn ap q ht h0 pa pb pc jk hasS cnt snp G c_mover c_phase c_dice c_stake c_cube c_pieces0 c_pieces1 c_score0 c_score1 c_hits0 c_hits1 c_stopped c_stopPart t_signs t_length)  E := by
  refine k_st_T (cc := cX9_step) (maxL := 3) (by decide) rfl (Nat.le_of_ble_eq_true rfl) ?_
  intro p e z m below meth c A hx hb hr hml hts hown hlocks hsz hN hA hK hP hD hS hq hex ls hl
  have hown : z.vm.findClass RX9 = some m.cls := hown
  have hinX9 : ∀ w ∈ wsX90, w ∈ wsX9_step := by decide +kernel
  have fl10 := hts (.fieldLink RX9 10 "MagpieRuns" "now" "LMagpieRuns$Game;") (by decide +kernel)
  have fl19 := hts (.fieldLink RX9 19 "MagpieRuns" "past" "LMagpieRuns$Past;") (by decide +kernel)
  have hl : lv_has ls 3 [(0, .ref h9), (1, .int a1), (2, .int a2)] := hl
  unfold mT9_step at hm
  refine lv_iload_n hx hb dX9_step_0 rfl (lv_at hl 1 rfl) ?_
  obtain ⟨r1, hc1, hm⟩ := k_bds hm
  refine k_i_0 (k_rS (As := [.int a1]) (rest := []) ⟨hx, hb, hml, hown, hts⟩ hK hN k_P0 (k_D0 (A := A)) (zX9_isPointOrBar hc1) (va_cwS 1 hts gX9_step_X9_isPointOrBar rfl rfl rfl (by decide +kernel) ⟨Nat.le_of_ble_eq_true rfl, Nat.le_of_ble_eq_true rfl⟩) rfl hl.1 rfl (Nat.le_of_ble_eq_true rfl) dX9_step_1 ⟨Nat.zero_le _, Nat.zero_le _⟩) hP hS hA (fun H locs hP hS => ?_)
  refine lv_if_ne (tgt := 15) hx hb dX9_step_4 (by decide) (fun cc4 => ?_) (fun cc4 => ?_)
  · have hm := k_in cc4 hm
    refine lv_iload_n hx hb dX9_step_15 rfl (lv_at hl 2 rfl) ?_
    obtain ⟨r2, hc16, hm⟩ := k_bds hm
    refine k_i_0 (k_rS (As := [.int a2]) (rest := []) ⟨hx, hb, hml, hown, hts⟩ hK hN k_P0 (k_D0 (A := A)) (zX0_isDie hc16) (va_cwS 1 hts gX9_step_X0_isDie rfl rfl rfl (by decide +kernel) ⟨Nat.le_of_ble_eq_true rfl, Nat.le_of_ble_eq_true rfl⟩) rfl hl.1 rfl (Nat.le_of_ble_eq_true rfl) dX9_step_16 ⟨Nat.zero_le _, Nat.zero_le _⟩) hP hS hA (fun H locs hP hS => ?_)
    refine lv_if_ne (tgt := 30) hx hb dX9_step_19 (by decide) (fun cc19 => ?_) (fun cc19 => ?_)
    · have hm := k_in cc19 hm
      refine lv_aload_n hx hb dX9_step_30 rfl (lv_at hl 0 rfl) ?_
      refine va_get (D := D) (ci := 5) (v := .ref hn) (C := RX9) (T := TX9) (N := 4) hx hb hts hinX9 hown hK hP 0 rfl rfl 0 (by decide) fl10 (fun _ h9 => h9) rfl dX9_step_31 ?_
      refine lv_iload_n hx hb dX9_step_34 rfl (lv_at hl 1 rfl) ?_
      refine lv_iload_n hx hb dX9_step_35 rfl (lv_at hl 2 rfl) ?_
      obtain ⟨r3, hc36, hm⟩ := k_bds hm
      have hPc : va_P D vwCl (wG hn c_mover c_phase c_dice c_stake c_cube c_pieces0 c_pieces1 c_score0 c_score1 c_hits0 c_hits1 c_stopped c_stopPart) _ := k_Psub hP [1] rfl
      have hDc : va_D A (wG hn c_mover c_phase c_dice c_stake c_cube c_pieces0 c_pieces1 c_score0 c_score1 c_hits0 c_hits1 c_stopped c_stopPart) := hD.sub [1] (by decide) rfl
      refine k_i_c (Wf := (wX cI cJ cC cG h9 hn ap q ht h0 pa pb pc jk hasS cnt snp G c_mover c_phase c_dice c_stake c_cube c_pieces0 c_pieces1 c_score0 c_score1 c_hits0 c_hits1 c_stopped c_stopPart t_signs t_length)) [1] [0, 2, 3, 4, 5, 6, 7, 8, 9, 10, 11, 12, 13, 14, 15, 16, 17, 18, 19, 20, 21, 22, 23, 24] [0, 24, 1, 2, 3, 4, 5, 6, 7, 8, 9, 10, 11, 12, 13, 14, 15, 16, 17, 18, 19, 20, 21, 22, 23] (k_rV (As := [.int a1, .int a2]) (rest := []) ⟨hx, hb, hml, hown, hts⟩ hK hN hPc hDc (zX1_reasonAgainst hc36) (cwV 2 hts gX9_step_X1_reasonAgainst rfl rfl rfl (by decide +kernel) ⟨Nat.le_of_ble_eq_true rfl, Nat.le_of_ble_eq_true rfl⟩) rfl rfl rfl hl.1 rfl (Nat.le_of_ble_eq_true rfl) dX9_step_36 ⟨Nat.zero_le _, Nat.zero_le _⟩) hP hD hS hA rfl rfl (by decide) (by decide) rfl (by decide) (fun H locs hP hD hS => ?_)
      refine lv_if_eq (tgt := 50) hx hb dX9_step_39 (by decide) (fun cc39 => ?_) (fun cc39 => ?_)
      · have hm := k_ip cc39 hm
        refine lv_aload_n hx hb dX9_step_50 rfl (lv_at hl 0 rfl) ?_
        refine va_get (D := D) (ci := 5) (v := .ref (ap 0)) (C := RX9) (T := TX9) (N := 4) hx hb hts hinX9 hown hK hP 0 rfl rfl 1 (by decide) fl19 (fun _ h9 => h9) rfl dX9_step_51 ?_
        refine lv_aload_n hx hb dX9_step_54 rfl (lv_at hl 0 rfl) ?_
        refine va_get (D := D) (ci := 5) (v := .ref hn) (C := RX9) (T := TX9) (N := 4) hx hb hts hinX9 hown hK hP 0 rfl rfl 0 (by decide) fl10 (fun _ h9 => h9) rfl dX9_step_55 ?_
        cases hm
      · have hm := k_in cc39 hm
        cases hm
        exact k_throw (own := RX9) (ik := 50) (ic := 52) (cls := "java/lang/IllegalStateException") hx hb hst hown (hts (.classLink RX9 50 "java/lang/IllegalStateException") (by decide +kernel)) (hts (.initialized "java/lang/IllegalStateException") (by decide +kernel)) (fun w hw => hts w (List.mem_cons_of_mem _ (by simp only [List.mem_append]; simp only [hw, or_true, true_or]))) (by decide +kernel) (by decide +kernel) (by decide +kernel) hq hS (hl.1.trans hml.symm) dX9_step_42 dX9_step_45 dX9_step_46 dX9_step_49 (fun x hx => (hex x hx).elim) (Nat.le_of_ble_eq_true rfl) (Nat.le_of_ble_eq_true rfl) (Nat.le_of_ble_eq_true rfl) (Nat.le_of_ble_eq_true rfl) hlocks hK hP hD
    · have hm := k_ip cc19 hm
      cases hm
      exact k_throw (own := RX9) (ik := 43) (ic := 45) (cls := "java/lang/IllegalArgumentException") hx hb hst hown (hts (.classLink RX9 43 "java/lang/IllegalArgumentException") (by decide +kernel)) (hts (.initialized "java/lang/IllegalArgumentException") (by decide +kernel)) (fun w hw => hts w (List.mem_cons_of_mem _ (by simp only [List.mem_append]; simp only [hw, or_true, true_or]))) (by decide +kernel) (by decide +kernel) (by decide +kernel) hq hS (hl.1.trans hml.symm) dX9_step_22 dX9_step_25 dX9_step_26 dX9_step_29 (fun x hx => (hex x hx).elim) (Nat.le_of_ble_eq_true rfl) (Nat.le_of_ble_eq_true rfl) (Nat.le_of_ble_eq_true rfl) (Nat.le_of_ble_eq_true rfl) hlocks hK hP hD
  · have hm := k_ip cc4 hm
    cases hm
    exact k_throw (own := RX9) (ik := 72) (ic := 74) (cls := "java/lang/IndexOutOfBoundsException") hx hb hst hown (hts (.classLink RX9 72 "java/lang/IndexOutOfBoundsException") (by decide +kernel)) (hts (.initialized "java/lang/IndexOutOfBoundsException") (by decide +kernel)) (fun w hw => hts w (List.mem_cons_of_mem _ (by simp only [List.mem_append]; simp only [hw, or_true, true_or]))) (by decide +kernel) (by decide +kernel) (by decide +kernel) hq hS (hl.1.trans hml.symm) dX9_step_7 dX9_step_10 dX9_step_11 dX9_step_14 (fun x hx => (hex x hx).elim) (Nat.le_of_ble_eq_true rfl) (Nat.le_of_ble_eq_true rfl) (Nat.le_of_ble_eq_true rfl) (Nat.le_of_ble_eq_true rfl) hlocks hK hP hD

abbrev rmT9_endTurn : Room := { frames := 12, cells := 1, slots := 6, locals := 352 }
set_option maxHeartbeats 4000000 in
set_option maxRecDepth 100000 in
theorem zT9_endTurn {l : Launch} {D : va_G} {cI cJ cC cG : ClassId} {sz : Nat} {h9 hn h0 : Nat} {ap q ht pa pb pc : Nat → Nat} {jk : JT} {hasS : Bool} {cnt : Int32} {snp : GT} {G : Nat → GT} {c_mover : Int32} {c_phase : Int32} {c_dice : Int32} {c_stake : Int32} {c_cube : Int32} {c_pieces0 : Int64} {c_pieces1 : Int64} {c_score0 : Int32} {c_score1 : Int32} {c_hits0 : Int32} {c_hits1 : Int32} {c_stopped : Bool} {c_stopPart : Int32} {t_signs : Nat → Int32} {t_length : Int32} {E : String} (hst : l.stackTraces = false) (hm : mT9_endTurn cnt G c_mover c_phase c_dice c_stake c_cube c_pieces0 c_pieces1 c_score0 c_score1 c_hits0 c_hits1 c_stopped c_stopPart = some E) : k_MT l yX9_endTurn wsX9_endTurn rmT9_endTurn D (kT cI cJ cC cG) sz ([.ref h9] : List Value) (wX cI cJ cC cG h9 hn ap q ht h0 pa pb pc jk hasS cnt snp G c_mover c_phase c_dice c_stake c_cube c_pieces0 c_pieces1 c_score0 c_score1 c_hits0 c_hits1 c_stopped c_stopPart t_signs t_length)  E := by
  refine k_st_T (cc := cX9_endTurn) (maxL := 1) (by decide) rfl (Nat.le_of_ble_eq_true rfl) ?_
  intro p e z m below meth c A hx hb hr hml hts hown hlocks hsz hN hA hK hP hD hS hq hex ls hl
  have hown : z.vm.findClass RX9 = some m.cls := hown
  have hinX9 : ∀ w ∈ wsX90, w ∈ wsX9_endTurn := by decide +kernel
  have fl10 := hts (.fieldLink RX9 10 "MagpieRuns" "now" "LMagpieRuns$Game;") (by decide +kernel)
  have fl19 := hts (.fieldLink RX9 19 "MagpieRuns" "past" "LMagpieRuns$Past;") (by decide +kernel)
  have hl : lv_has ls 1 [(0, .ref h9)] := hl
  unfold mT9_endTurn at hm
  refine lv_aload_n hx hb dX9_endTurn_0 rfl (lv_at hl 0 rfl) ?_
  refine va_get (D := D) (ci := 5) (v := .ref hn) (C := RX9) (T := TX9) (N := 4) hx hb hts hinX9 hown hK hP 0 rfl rfl 0 (by decide) fl10 (fun _ h9 => h9) rfl dX9_endTurn_1 ?_
  obtain ⟨r1, hc4, hm⟩ := k_bds hm
  have hPc : va_P D vwCl (wG hn c_mover c_phase c_dice c_stake c_cube c_pieces0 c_pieces1 c_score0 c_score1 c_hits0 c_hits1 c_stopped c_stopPart) _ := k_Psub hP [1] rfl
  have hDc : va_D A (wG hn c_mover c_phase c_dice c_stake c_cube c_pieces0 c_pieces1 c_score0 c_score1 c_hits0 c_hits1 c_stopped c_stopPart) := hD.sub [1] (by decide) rfl
  refine k_i_c (Wf := (wX cI cJ cC cG h9 hn ap q ht h0 pa pb pc jk hasS cnt snp G c_mover c_phase c_dice c_stake c_cube c_pieces0 c_pieces1 c_score0 c_score1 c_hits0 c_hits1 c_stopped c_stopPart t_signs t_length)) [1] [0, 2, 3, 4, 5, 6, 7, 8, 9, 10, 11, 12, 13, 14, 15, 16, 17, 18, 19, 20, 21, 22, 23, 24] [0, 24, 1, 2, 3, 4, 5, 6, 7, 8, 9, 10, 11, 12, 13, 14, 15, 16, 17, 18, 19, 20, 21, 22, 23] (k_rV (As := []) (rest := []) ⟨hx, hb, hml, hown, hts⟩ hK hN hPc hDc (zX1_canEndTurn hc4) (cwV 0 hts gX9_endTurn_X1_canEndTurn rfl rfl rfl (by decide +kernel) ⟨Nat.le_of_ble_eq_true rfl, Nat.le_of_ble_eq_true rfl⟩) rfl rfl rfl hl.1 rfl (Nat.le_of_ble_eq_true rfl) dX9_endTurn_4 ⟨Nat.zero_le _, Nat.zero_le _⟩) hP hD hS hA rfl rfl (by decide) (by decide) rfl (by decide) (fun H locs hP hD hS => ?_)
  refine lv_if_ne (tgt := 18) hx hb dX9_endTurn_7 (by decide) (fun cc7 => ?_) (fun cc7 => ?_)
  · have hm := k_in cc7 hm
    refine lv_aload_n hx hb dX9_endTurn_18 rfl (lv_at hl 0 rfl) ?_
    refine va_get (D := D) (ci := 5) (v := .ref (ap 0)) (C := RX9) (T := TX9) (N := 4) hx hb hts hinX9 hown hK hP 0 rfl rfl 1 (by decide) fl19 (fun _ h9 => h9) rfl dX9_endTurn_19 ?_
    refine lv_aload_n hx hb dX9_endTurn_22 rfl (lv_at hl 0 rfl) ?_
    refine va_get (D := D) (ci := 5) (v := .ref hn) (C := RX9) (T := TX9) (N := 4) hx hb hts hinX9 hown hK hP 0 rfl rfl 0 (by decide) fl10 (fun _ h9 => h9) rfl dX9_endTurn_23 ?_
    cases hm
  · have hm := k_ip cc7 hm
    cases hm
    exact k_throw (own := RX9) (ik := 50) (ic := 52) (cls := "java/lang/IllegalStateException") hx hb hst hown (hts (.classLink RX9 50 "java/lang/IllegalStateException") (by decide +kernel)) (hts (.initialized "java/lang/IllegalStateException") (by decide +kernel)) (fun w hw => hts w (List.mem_cons_of_mem _ (by simp only [List.mem_append]; simp only [hw, or_true, true_or]))) (by decide +kernel) (by decide +kernel) (by decide +kernel) hq hS (hl.1.trans hml.symm) dX9_endTurn_10 dX9_endTurn_13 dX9_endTurn_14 dX9_endTurn_17 (fun x hx => (hex x hx).elim) (Nat.le_of_ble_eq_true rfl) (Nat.le_of_ble_eq_true rfl) (Nat.le_of_ble_eq_true rfl) (Nat.le_of_ble_eq_true rfl) hlocks hK hP hD

abbrev rmT9_carry : Room := { frames := 6, cells := 1, slots := 6, locals := 81 }
set_option maxHeartbeats 4000000 in
set_option maxRecDepth 100000 in
theorem zT9_carry {l : Launch} {D : va_G} {cI cJ cC cG : ClassId} {sz : Nat} {h9 hn h0 : Nat} {ap q ht pa pb pc : Nat → Nat} {jk : JT} {hasS : Bool} {cnt : Int32} {snp : GT} {G : Nat → GT} {c_mover : Int32} {c_phase : Int32} {c_dice : Int32} {c_stake : Int32} {c_cube : Int32} {c_pieces0 : Int64} {c_pieces1 : Int64} {c_score0 : Int32} {c_score1 : Int32} {c_hits0 : Int32} {c_hits1 : Int32} {c_stopped : Bool} {c_stopPart : Int32} {t_signs : Nat → Int32} {t_length : Int32} {a1 : Int32} {a2 : Int32} {a3 : Int32} {E : String} (hst : l.stackTraces = false) (hm : mT9_carry cnt G c_mover c_phase c_dice c_stake c_cube c_pieces0 c_pieces1 c_score0 c_score1 c_hits0 c_hits1 c_stopped c_stopPart a1 a2 a3 = some E) : k_MT l yX9_carry wsX9_carry rmT9_carry D (kT cI cJ cC cG) sz ([.ref h9, .int a1, .int a2, .int a3] : List Value) (wX cI cJ cC cG h9 hn ap q ht h0 pa pb pc jk hasS cnt snp G c_mover c_phase c_dice c_stake c_cube c_pieces0 c_pieces1 c_score0 c_score1 c_hits0 c_hits1 c_stopped c_stopPart t_signs t_length)  E := by
  refine k_st_T (cc := cX9_carry) (maxL := 4) (by decide) rfl (Nat.le_of_ble_eq_true rfl) ?_
  intro p e z m below meth c A hx hb hr hml hts hown hlocks hsz hN hA hK hP hD hS hq hex ls hl
  have hown : z.vm.findClass RX9 = some m.cls := hown
  have hinX9 : ∀ w ∈ wsX90, w ∈ wsX9_carry := by decide +kernel
  have fl10 := hts (.fieldLink RX9 10 "MagpieRuns" "now" "LMagpieRuns$Game;") (by decide +kernel)
  have fl19 := hts (.fieldLink RX9 19 "MagpieRuns" "past" "LMagpieRuns$Past;") (by decide +kernel)
  have hl : lv_has ls 4 [(0, .ref h9), (1, .int a1), (2, .int a2), (3, .int a3)] := hl
  have J_21 : ∀ (H : Heap) (locs : List Loc), va_P D vwCl (wX cI cJ cC cG h9 hn ap q ht h0 pa pb pc jk hasS cnt snp G c_mover c_phase c_dice c_stake c_cube c_pieces0 c_pieces1 c_score0 c_score1 c_hits0 c_hits1 c_stopped c_stopPart t_signs t_length) H → va_D A (wX cI cJ cC cG h9 hn ap q ht h0 pa pb pc jk hasS cnt snp G c_mover c_phase c_dice c_stake c_cube c_pieces0 c_pieces1 c_score0 c_score1 c_hits0 c_hits1 c_stopped c_stopPart t_signs t_length) → va_S A z.heap H locs → ∀ ls : Array Slot, lv_has ls 4 [] → mT9_carry_21 cnt G c_mover c_phase c_dice c_stake c_cube c_pieces0 c_pieces1 c_score0 c_score1 c_hits0 c_hits1 c_stopped c_stopPart a1 a2 a3  = some E → W p l e rmT9_carry z m ([.ref h9, .int a1, .int a2, .int a3] : List Value).toArray below meth c H locs 0 0 (k_QT below ([.ref h9, .int a1, .int a2, .int a3] : List Value) D (kT cI cJ cC cG) z A (wX cI cJ cC cG h9 hn ap q ht h0 pa pb pc jk hasS cnt snp G c_mover c_phase c_dice c_stake c_cube c_pieces0 c_pieces1 c_score0 c_score1 c_hits0 c_hits1 c_stopped c_stopPart t_signs t_length) E) (F0 m 21 ls []) := by
    intro  H locs hP hD hS ls hl hm
    unfold mT9_carry_21 at hm
    cases hm
    exact k_throw (own := RX9) (ik := 72) (ic := 74) (cls := "java/lang/IndexOutOfBoundsException") hx hb hst hown (hts (.classLink RX9 72 "java/lang/IndexOutOfBoundsException") (by decide +kernel)) (hts (.initialized "java/lang/IndexOutOfBoundsException") (by decide +kernel)) (fun w hw => hts w (List.mem_cons_of_mem _ (by simp only [List.mem_append]; simp only [hw, or_true, true_or]))) (by decide +kernel) (by decide +kernel) (by decide +kernel) hq hS (hl.1.trans hml.symm) dX9_carry_21 dX9_carry_24 dX9_carry_25 dX9_carry_28 (fun x hx => (hex x hx).elim) (Nat.le_of_ble_eq_true rfl) (Nat.le_of_ble_eq_true rfl) (Nat.le_of_ble_eq_true rfl) (Nat.le_of_ble_eq_true rfl) hlocks hK hP hD
  unfold mT9_carry at hm
  refine lv_iload_n hx hb dX9_carry_0 rfl (lv_at hl 1 rfl) ?_
  obtain ⟨r1, hc1, hm⟩ := k_bds hm
  refine k_i_0 (k_rS (As := [.int a1]) (rest := []) ⟨hx, hb, hml, hown, hts⟩ hK hN k_P0 (k_D0 (A := A)) (zX9_isPlayer hc1) (va_cwS 1 hts gX9_carry_X9_isPlayer rfl rfl rfl (by decide +kernel) ⟨Nat.le_of_ble_eq_true rfl, Nat.le_of_ble_eq_true rfl⟩) rfl hl.1 rfl (Nat.le_of_ble_eq_true rfl) dX9_carry_1 ⟨Nat.zero_le _, Nat.zero_le _⟩) hP hS hA (fun H locs hP hS => ?_)
  refine lv_if_eq (tgt := 21) hx hb dX9_carry_4 (by decide) (fun cc4 => ?_) (fun cc4 => ?_)
  · have hm := k_ip cc4 hm
    exact J_21  _ _ hP hD hS _ (lv_sub hl [] rfl) hm
  · have hm := k_in cc4 hm
    refine lv_iload_n hx hb dX9_carry_7 rfl (lv_at hl 2 rfl) ?_
    obtain ⟨r2, hc8, hm⟩ := k_bds hm
    refine k_i_0 (k_rS (As := [.int a2]) (rest := []) ⟨hx, hb, hml, hown, hts⟩ hK hN k_P0 (k_D0 (A := A)) (zX9_isPlace hc8) (va_cwS 1 hts gX9_carry_X9_isPlace rfl rfl rfl (by decide +kernel) ⟨Nat.le_of_ble_eq_true rfl, Nat.le_of_ble_eq_true rfl⟩) rfl hl.1 rfl (Nat.le_of_ble_eq_true rfl) dX9_carry_8 ⟨Nat.zero_le _, Nat.zero_le _⟩) hP hS hA (fun H locs hP hS => ?_)
    refine lv_if_eq (tgt := 21) hx hb dX9_carry_11 (by decide) (fun cc11 => ?_) (fun cc11 => ?_)
    · have hm := k_ip cc11 hm
      exact J_21  _ _ hP hD hS _ (lv_sub hl [] rfl) hm
    · have hm := k_in cc11 hm
      refine lv_iload_n hx hb dX9_carry_14 rfl (lv_at hl 3 rfl) ?_
      obtain ⟨r3, hc15, hm⟩ := k_bds hm
      refine k_i_0 (k_rS (As := [.int a3]) (rest := []) ⟨hx, hb, hml, hown, hts⟩ hK hN k_P0 (k_D0 (A := A)) (zX9_isPlace hc15) (va_cwS 1 hts gX9_carry_X9_isPlace rfl rfl rfl (by decide +kernel) ⟨Nat.le_of_ble_eq_true rfl, Nat.le_of_ble_eq_true rfl⟩) rfl hl.1 rfl (Nat.le_of_ble_eq_true rfl) dX9_carry_15 ⟨Nat.zero_le _, Nat.zero_le _⟩) hP hS hA (fun H locs hP hS => ?_)
      refine lv_if_ne (tgt := 29) hx hb dX9_carry_18 (by decide) (fun cc18 => ?_) (fun cc18 => ?_)
      · have hm := k_in cc18 hm
        refine lv_aload_n hx hb dX9_carry_29 rfl (lv_at hl 0 rfl) ?_
        refine va_get (D := D) (ci := 5) (v := .ref hn) (C := RX9) (T := TX9) (N := 4) hx hb hts hinX9 hown hK hP 0 rfl rfl 0 (by decide) fl10 (fun _ h9 => h9) rfl dX9_carry_30 ?_
        refine lv_iload_n hx hb dX9_carry_33 rfl (lv_at hl 1 rfl) ?_
        refine lv_iload_n hx hb dX9_carry_34 rfl (lv_at hl 2 rfl) ?_
        refine lv_iload_n hx hb dX9_carry_35 rfl (lv_at hl 3 rfl) ?_
        obtain ⟨r4, hc36, hm⟩ := k_bds hm
        have hPc : va_P D vwCl (wG hn c_mover c_phase c_dice c_stake c_cube c_pieces0 c_pieces1 c_score0 c_score1 c_hits0 c_hits1 c_stopped c_stopPart) _ := k_Psub hP [1] rfl
        have hDc : va_D A (wG hn c_mover c_phase c_dice c_stake c_cube c_pieces0 c_pieces1 c_score0 c_score1 c_hits0 c_hits1 c_stopped c_stopPart) := hD.sub [1] (by decide) rfl
        refine k_i_c (Wf := (wX cI cJ cC cG h9 hn ap q ht h0 pa pb pc jk hasS cnt snp G c_mover c_phase c_dice c_stake c_cube c_pieces0 c_pieces1 c_score0 c_score1 c_hits0 c_hits1 c_stopped c_stopPart t_signs t_length)) [1] [0, 2, 3, 4, 5, 6, 7, 8, 9, 10, 11, 12, 13, 14, 15, 16, 17, 18, 19, 20, 21, 22, 23, 24] [0, 24, 1, 2, 3, 4, 5, 6, 7, 8, 9, 10, 11, 12, 13, 14, 15, 16, 17, 18, 19, 20, 21, 22, 23] (k_rV (As := [.int a1, .int a2, .int a3]) (rest := []) ⟨hx, hb, hml, hown, hts⟩ hK hN hPc hDc (zX1_canCarry hc36) (cwV 3 hts gX9_carry_X1_canCarry rfl rfl rfl (by decide +kernel) ⟨Nat.le_of_ble_eq_true rfl, Nat.le_of_ble_eq_true rfl⟩) rfl rfl rfl hl.1 rfl (Nat.le_of_ble_eq_true rfl) dX9_carry_36 ⟨Nat.zero_le _, Nat.zero_le _⟩) hP hD hS hA rfl rfl (by decide) (by decide) rfl (by decide) (fun H locs hP hD hS => ?_)
        refine lv_if_ne (tgt := 50) hx hb dX9_carry_39 (by decide) (fun cc39 => ?_) (fun cc39 => ?_)
        · have hm := k_in cc39 hm
          refine lv_aload_n hx hb dX9_carry_50 rfl (lv_at hl 0 rfl) ?_
          refine va_get (D := D) (ci := 5) (v := .ref (ap 0)) (C := RX9) (T := TX9) (N := 4) hx hb hts hinX9 hown hK hP 0 rfl rfl 1 (by decide) fl19 (fun _ h9 => h9) rfl dX9_carry_51 ?_
          refine lv_aload_n hx hb dX9_carry_54 rfl (lv_at hl 0 rfl) ?_
          refine va_get (D := D) (ci := 5) (v := .ref hn) (C := RX9) (T := TX9) (N := 4) hx hb hts hinX9 hown hK hP 0 rfl rfl 0 (by decide) fl10 (fun _ h9 => h9) rfl dX9_carry_55 ?_
          cases hm
        · have hm := k_ip cc39 hm
          cases hm
          exact k_throw (own := RX9) (ik := 50) (ic := 52) (cls := "java/lang/IllegalStateException") hx hb hst hown (hts (.classLink RX9 50 "java/lang/IllegalStateException") (by decide +kernel)) (hts (.initialized "java/lang/IllegalStateException") (by decide +kernel)) (fun w hw => hts w (List.mem_cons_of_mem _ (by simp only [List.mem_append]; simp only [hw, or_true, true_or]))) (by decide +kernel) (by decide +kernel) (by decide +kernel) hq hS (hl.1.trans hml.symm) dX9_carry_42 dX9_carry_45 dX9_carry_46 dX9_carry_49 (fun x hx => (hex x hx).elim) (Nat.le_of_ble_eq_true rfl) (Nat.le_of_ble_eq_true rfl) (Nat.le_of_ble_eq_true rfl) (Nat.le_of_ble_eq_true rfl) hlocks hK hP hD
      · have hm := k_ip cc18 hm
        exact J_21  _ _ hP hD hS _ (lv_sub hl [] rfl) hm

abbrev rmT9_offer : Room := { frames := 6, cells := 1, slots := 6, locals := 81 }
set_option maxHeartbeats 4000000 in
set_option maxRecDepth 100000 in
theorem zT9_offer {l : Launch} {D : va_G} {cI cJ cC cG : ClassId} {sz : Nat} {h9 hn h0 : Nat} {ap q ht pa pb pc : Nat → Nat} {jk : JT} {hasS : Bool} {cnt : Int32} {snp : GT} {G : Nat → GT} {c_mover : Int32} {c_phase : Int32} {c_dice : Int32} {c_stake : Int32} {c_cube : Int32} {c_pieces0 : Int64} {c_pieces1 : Int64} {c_score0 : Int32} {c_score1 : Int32} {c_hits0 : Int32} {c_hits1 : Int32} {c_stopped : Bool} {c_stopPart : Int32} {t_signs : Nat → Int32} {t_length : Int32} {E : String} (hst : l.stackTraces = false) (hm : mT9_offer cnt G c_mover c_phase c_dice c_stake c_cube c_pieces0 c_pieces1 c_score0 c_score1 c_hits0 c_hits1 c_stopped c_stopPart = some E) : k_MT l yX9_offer wsX9_offer rmT9_offer D (kT cI cJ cC cG) sz ([.ref h9] : List Value) (wX cI cJ cC cG h9 hn ap q ht h0 pa pb pc jk hasS cnt snp G c_mover c_phase c_dice c_stake c_cube c_pieces0 c_pieces1 c_score0 c_score1 c_hits0 c_hits1 c_stopped c_stopPart t_signs t_length)  E := by
  refine k_st_T (cc := cX9_offer) (maxL := 1) (by decide) rfl (Nat.le_of_ble_eq_true rfl) ?_
  intro p e z m below meth c A hx hb hr hml hts hown hlocks hsz hN hA hK hP hD hS hq hex ls hl
  have hown : z.vm.findClass RX9 = some m.cls := hown
  have hinX9 : ∀ w ∈ wsX90, w ∈ wsX9_offer := by decide +kernel
  have fl10 := hts (.fieldLink RX9 10 "MagpieRuns" "now" "LMagpieRuns$Game;") (by decide +kernel)
  have fl19 := hts (.fieldLink RX9 19 "MagpieRuns" "past" "LMagpieRuns$Past;") (by decide +kernel)
  have hl : lv_has ls 1 [(0, .ref h9)] := hl
  unfold mT9_offer at hm
  refine lv_aload_n hx hb dX9_offer_0 rfl (lv_at hl 0 rfl) ?_
  refine va_get (D := D) (ci := 5) (v := .ref hn) (C := RX9) (T := TX9) (N := 4) hx hb hts hinX9 hown hK hP 0 rfl rfl 0 (by decide) fl10 (fun _ h9 => h9) rfl dX9_offer_1 ?_
  obtain ⟨r1, hc4, hm⟩ := k_bds hm
  have hPc : va_P D vwCl (wG hn c_mover c_phase c_dice c_stake c_cube c_pieces0 c_pieces1 c_score0 c_score1 c_hits0 c_hits1 c_stopped c_stopPart) _ := k_Psub hP [1] rfl
  have hDc : va_D A (wG hn c_mover c_phase c_dice c_stake c_cube c_pieces0 c_pieces1 c_score0 c_score1 c_hits0 c_hits1 c_stopped c_stopPart) := hD.sub [1] (by decide) rfl
  refine k_i_c (Wf := (wX cI cJ cC cG h9 hn ap q ht h0 pa pb pc jk hasS cnt snp G c_mover c_phase c_dice c_stake c_cube c_pieces0 c_pieces1 c_score0 c_score1 c_hits0 c_hits1 c_stopped c_stopPart t_signs t_length)) [1] [0, 2, 3, 4, 5, 6, 7, 8, 9, 10, 11, 12, 13, 14, 15, 16, 17, 18, 19, 20, 21, 22, 23, 24] [0, 24, 1, 2, 3, 4, 5, 6, 7, 8, 9, 10, 11, 12, 13, 14, 15, 16, 17, 18, 19, 20, 21, 22, 23] (k_rV (As := []) (rest := []) ⟨hx, hb, hml, hown, hts⟩ hK hN hPc hDc (zX1_canOffer hc4) (cwV 0 hts gX9_offer_X1_canOffer rfl rfl rfl (by decide +kernel) ⟨Nat.le_of_ble_eq_true rfl, Nat.le_of_ble_eq_true rfl⟩) rfl rfl rfl hl.1 rfl (Nat.le_of_ble_eq_true rfl) dX9_offer_4 ⟨Nat.zero_le _, Nat.zero_le _⟩) hP hD hS hA rfl rfl (by decide) (by decide) rfl (by decide) (fun H locs hP hD hS => ?_)
  refine lv_if_ne (tgt := 18) hx hb dX9_offer_7 (by decide) (fun cc7 => ?_) (fun cc7 => ?_)
  · have hm := k_in cc7 hm
    refine lv_aload_n hx hb dX9_offer_18 rfl (lv_at hl 0 rfl) ?_
    refine va_get (D := D) (ci := 5) (v := .ref (ap 0)) (C := RX9) (T := TX9) (N := 4) hx hb hts hinX9 hown hK hP 0 rfl rfl 1 (by decide) fl19 (fun _ h9 => h9) rfl dX9_offer_19 ?_
    refine lv_aload_n hx hb dX9_offer_22 rfl (lv_at hl 0 rfl) ?_
    refine va_get (D := D) (ci := 5) (v := .ref hn) (C := RX9) (T := TX9) (N := 4) hx hb hts hinX9 hown hK hP 0 rfl rfl 0 (by decide) fl10 (fun _ h9 => h9) rfl dX9_offer_23 ?_
    cases hm
  · have hm := k_ip cc7 hm
    cases hm
    exact k_throw (own := RX9) (ik := 50) (ic := 52) (cls := "java/lang/IllegalStateException") hx hb hst hown (hts (.classLink RX9 50 "java/lang/IllegalStateException") (by decide +kernel)) (hts (.initialized "java/lang/IllegalStateException") (by decide +kernel)) (fun w hw => hts w (List.mem_cons_of_mem _ (by simp only [List.mem_append]; simp only [hw, or_true, true_or]))) (by decide +kernel) (by decide +kernel) (by decide +kernel) hq hS (hl.1.trans hml.symm) dX9_offer_10 dX9_offer_13 dX9_offer_14 dX9_offer_17 (fun x hx => (hex x hx).elim) (Nat.le_of_ble_eq_true rfl) (Nat.le_of_ble_eq_true rfl) (Nat.le_of_ble_eq_true rfl) (Nat.le_of_ble_eq_true rfl) hlocks hK hP hD

abbrev rmT9_take : Room := { frames := 6, cells := 1, slots := 6, locals := 81 }
set_option maxHeartbeats 4000000 in
set_option maxRecDepth 100000 in
theorem zT9_take {l : Launch} {D : va_G} {cI cJ cC cG : ClassId} {sz : Nat} {h9 hn h0 : Nat} {ap q ht pa pb pc : Nat → Nat} {jk : JT} {hasS : Bool} {cnt : Int32} {snp : GT} {G : Nat → GT} {c_mover : Int32} {c_phase : Int32} {c_dice : Int32} {c_stake : Int32} {c_cube : Int32} {c_pieces0 : Int64} {c_pieces1 : Int64} {c_score0 : Int32} {c_score1 : Int32} {c_hits0 : Int32} {c_hits1 : Int32} {c_stopped : Bool} {c_stopPart : Int32} {t_signs : Nat → Int32} {t_length : Int32} {E : String} (hst : l.stackTraces = false) (hm : mT9_take cnt G c_mover c_phase c_dice c_stake c_cube c_pieces0 c_pieces1 c_score0 c_score1 c_hits0 c_hits1 c_stopped c_stopPart = some E) : k_MT l yX9_take wsX9_take rmT9_take D (kT cI cJ cC cG) sz ([.ref h9] : List Value) (wX cI cJ cC cG h9 hn ap q ht h0 pa pb pc jk hasS cnt snp G c_mover c_phase c_dice c_stake c_cube c_pieces0 c_pieces1 c_score0 c_score1 c_hits0 c_hits1 c_stopped c_stopPart t_signs t_length)  E := by
  refine k_st_T (cc := cX9_take) (maxL := 1) (by decide) rfl (Nat.le_of_ble_eq_true rfl) ?_
  intro p e z m below meth c A hx hb hr hml hts hown hlocks hsz hN hA hK hP hD hS hq hex ls hl
  have hown : z.vm.findClass RX9 = some m.cls := hown
  have hinX9 : ∀ w ∈ wsX90, w ∈ wsX9_take := by decide +kernel
  have fl10 := hts (.fieldLink RX9 10 "MagpieRuns" "now" "LMagpieRuns$Game;") (by decide +kernel)
  have fl19 := hts (.fieldLink RX9 19 "MagpieRuns" "past" "LMagpieRuns$Past;") (by decide +kernel)
  have hl : lv_has ls 1 [(0, .ref h9)] := hl
  unfold mT9_take at hm
  refine lv_aload_n hx hb dX9_take_0 rfl (lv_at hl 0 rfl) ?_
  refine va_get (D := D) (ci := 5) (v := .ref hn) (C := RX9) (T := TX9) (N := 4) hx hb hts hinX9 hown hK hP 0 rfl rfl 0 (by decide) fl10 (fun _ h9 => h9) rfl dX9_take_1 ?_
  obtain ⟨r1, hc4, hm⟩ := k_bds hm
  have hPc : va_P D vwCl (wG hn c_mover c_phase c_dice c_stake c_cube c_pieces0 c_pieces1 c_score0 c_score1 c_hits0 c_hits1 c_stopped c_stopPart) _ := k_Psub hP [1] rfl
  have hDc : va_D A (wG hn c_mover c_phase c_dice c_stake c_cube c_pieces0 c_pieces1 c_score0 c_score1 c_hits0 c_hits1 c_stopped c_stopPart) := hD.sub [1] (by decide) rfl
  refine k_i_c (Wf := (wX cI cJ cC cG h9 hn ap q ht h0 pa pb pc jk hasS cnt snp G c_mover c_phase c_dice c_stake c_cube c_pieces0 c_pieces1 c_score0 c_score1 c_hits0 c_hits1 c_stopped c_stopPart t_signs t_length)) [1] [0, 2, 3, 4, 5, 6, 7, 8, 9, 10, 11, 12, 13, 14, 15, 16, 17, 18, 19, 20, 21, 22, 23, 24] [0, 24, 1, 2, 3, 4, 5, 6, 7, 8, 9, 10, 11, 12, 13, 14, 15, 16, 17, 18, 19, 20, 21, 22, 23] (k_rV (As := []) (rest := []) ⟨hx, hb, hml, hown, hts⟩ hK hN hPc hDc (zX1_isOffered hc4) (cwV 0 hts gX9_take_X1_isOffered rfl rfl rfl (by decide +kernel) ⟨Nat.le_of_ble_eq_true rfl, Nat.le_of_ble_eq_true rfl⟩) rfl rfl rfl hl.1 rfl (Nat.le_of_ble_eq_true rfl) dX9_take_4 ⟨Nat.zero_le _, Nat.zero_le _⟩) hP hD hS hA rfl rfl (by decide) (by decide) rfl (by decide) (fun H locs hP hD hS => ?_)
  refine lv_if_ne (tgt := 18) hx hb dX9_take_7 (by decide) (fun cc7 => ?_) (fun cc7 => ?_)
  · have hm := k_in cc7 hm
    refine lv_aload_n hx hb dX9_take_18 rfl (lv_at hl 0 rfl) ?_
    refine va_get (D := D) (ci := 5) (v := .ref (ap 0)) (C := RX9) (T := TX9) (N := 4) hx hb hts hinX9 hown hK hP 0 rfl rfl 1 (by decide) fl19 (fun _ h9 => h9) rfl dX9_take_19 ?_
    refine lv_aload_n hx hb dX9_take_22 rfl (lv_at hl 0 rfl) ?_
    refine va_get (D := D) (ci := 5) (v := .ref hn) (C := RX9) (T := TX9) (N := 4) hx hb hts hinX9 hown hK hP 0 rfl rfl 0 (by decide) fl10 (fun _ h9 => h9) rfl dX9_take_23 ?_
    cases hm
  · have hm := k_ip cc7 hm
    cases hm
    exact k_throw (own := RX9) (ik := 50) (ic := 52) (cls := "java/lang/IllegalStateException") hx hb hst hown (hts (.classLink RX9 50 "java/lang/IllegalStateException") (by decide +kernel)) (hts (.initialized "java/lang/IllegalStateException") (by decide +kernel)) (fun w hw => hts w (List.mem_cons_of_mem _ (by simp only [List.mem_append]; simp only [hw, or_true, true_or]))) (by decide +kernel) (by decide +kernel) (by decide +kernel) hq hS (hl.1.trans hml.symm) dX9_take_10 dX9_take_13 dX9_take_14 dX9_take_17 (fun x hx => (hex x hx).elim) (Nat.le_of_ble_eq_true rfl) (Nat.le_of_ble_eq_true rfl) (Nat.le_of_ble_eq_true rfl) (Nat.le_of_ble_eq_true rfl) hlocks hK hP hD

abbrev rmT9_drop : Room := { frames := 6, cells := 1, slots := 6, locals := 81 }
set_option maxHeartbeats 4000000 in
set_option maxRecDepth 100000 in
theorem zT9_drop {l : Launch} {D : va_G} {cI cJ cC cG : ClassId} {sz : Nat} {h9 hn h0 : Nat} {ap q ht pa pb pc : Nat → Nat} {jk : JT} {hasS : Bool} {cnt : Int32} {snp : GT} {G : Nat → GT} {c_mover : Int32} {c_phase : Int32} {c_dice : Int32} {c_stake : Int32} {c_cube : Int32} {c_pieces0 : Int64} {c_pieces1 : Int64} {c_score0 : Int32} {c_score1 : Int32} {c_hits0 : Int32} {c_hits1 : Int32} {c_stopped : Bool} {c_stopPart : Int32} {t_signs : Nat → Int32} {t_length : Int32} {E : String} (hst : l.stackTraces = false) (hm : mT9_drop cnt G c_mover c_phase c_dice c_stake c_cube c_pieces0 c_pieces1 c_score0 c_score1 c_hits0 c_hits1 c_stopped c_stopPart = some E) : k_MT l yX9_drop wsX9_drop rmT9_drop D (kT cI cJ cC cG) sz ([.ref h9] : List Value) (wX cI cJ cC cG h9 hn ap q ht h0 pa pb pc jk hasS cnt snp G c_mover c_phase c_dice c_stake c_cube c_pieces0 c_pieces1 c_score0 c_score1 c_hits0 c_hits1 c_stopped c_stopPart t_signs t_length)  E := by
  refine k_st_T (cc := cX9_drop) (maxL := 1) (by decide) rfl (Nat.le_of_ble_eq_true rfl) ?_
  intro p e z m below meth c A hx hb hr hml hts hown hlocks hsz hN hA hK hP hD hS hq hex ls hl
  have hown : z.vm.findClass RX9 = some m.cls := hown
  have hinX9 : ∀ w ∈ wsX90, w ∈ wsX9_drop := by decide +kernel
  have fl10 := hts (.fieldLink RX9 10 "MagpieRuns" "now" "LMagpieRuns$Game;") (by decide +kernel)
  have fl19 := hts (.fieldLink RX9 19 "MagpieRuns" "past" "LMagpieRuns$Past;") (by decide +kernel)
  have hl : lv_has ls 1 [(0, .ref h9)] := hl
  unfold mT9_drop at hm
  refine lv_aload_n hx hb dX9_drop_0 rfl (lv_at hl 0 rfl) ?_
  refine va_get (D := D) (ci := 5) (v := .ref hn) (C := RX9) (T := TX9) (N := 4) hx hb hts hinX9 hown hK hP 0 rfl rfl 0 (by decide) fl10 (fun _ h9 => h9) rfl dX9_drop_1 ?_
  obtain ⟨r1, hc4, hm⟩ := k_bds hm
  have hPc : va_P D vwCl (wG hn c_mover c_phase c_dice c_stake c_cube c_pieces0 c_pieces1 c_score0 c_score1 c_hits0 c_hits1 c_stopped c_stopPart) _ := k_Psub hP [1] rfl
  have hDc : va_D A (wG hn c_mover c_phase c_dice c_stake c_cube c_pieces0 c_pieces1 c_score0 c_score1 c_hits0 c_hits1 c_stopped c_stopPart) := hD.sub [1] (by decide) rfl
  refine k_i_c (Wf := (wX cI cJ cC cG h9 hn ap q ht h0 pa pb pc jk hasS cnt snp G c_mover c_phase c_dice c_stake c_cube c_pieces0 c_pieces1 c_score0 c_score1 c_hits0 c_hits1 c_stopped c_stopPart t_signs t_length)) [1] [0, 2, 3, 4, 5, 6, 7, 8, 9, 10, 11, 12, 13, 14, 15, 16, 17, 18, 19, 20, 21, 22, 23, 24] [0, 24, 1, 2, 3, 4, 5, 6, 7, 8, 9, 10, 11, 12, 13, 14, 15, 16, 17, 18, 19, 20, 21, 22, 23] (k_rV (As := []) (rest := []) ⟨hx, hb, hml, hown, hts⟩ hK hN hPc hDc (zX1_isOffered hc4) (cwV 0 hts gX9_drop_X1_isOffered rfl rfl rfl (by decide +kernel) ⟨Nat.le_of_ble_eq_true rfl, Nat.le_of_ble_eq_true rfl⟩) rfl rfl rfl hl.1 rfl (Nat.le_of_ble_eq_true rfl) dX9_drop_4 ⟨Nat.zero_le _, Nat.zero_le _⟩) hP hD hS hA rfl rfl (by decide) (by decide) rfl (by decide) (fun H locs hP hD hS => ?_)
  refine lv_if_ne (tgt := 18) hx hb dX9_drop_7 (by decide) (fun cc7 => ?_) (fun cc7 => ?_)
  · have hm := k_in cc7 hm
    refine lv_aload_n hx hb dX9_drop_18 rfl (lv_at hl 0 rfl) ?_
    refine va_get (D := D) (ci := 5) (v := .ref (ap 0)) (C := RX9) (T := TX9) (N := 4) hx hb hts hinX9 hown hK hP 0 rfl rfl 1 (by decide) fl19 (fun _ h9 => h9) rfl dX9_drop_19 ?_
    refine lv_aload_n hx hb dX9_drop_22 rfl (lv_at hl 0 rfl) ?_
    refine va_get (D := D) (ci := 5) (v := .ref hn) (C := RX9) (T := TX9) (N := 4) hx hb hts hinX9 hown hK hP 0 rfl rfl 0 (by decide) fl10 (fun _ h9 => h9) rfl dX9_drop_23 ?_
    cases hm
  · have hm := k_ip cc7 hm
    cases hm
    exact k_throw (own := RX9) (ik := 50) (ic := 52) (cls := "java/lang/IllegalStateException") hx hb hst hown (hts (.classLink RX9 50 "java/lang/IllegalStateException") (by decide +kernel)) (hts (.initialized "java/lang/IllegalStateException") (by decide +kernel)) (fun w hw => hts w (List.mem_cons_of_mem _ (by simp only [List.mem_append]; simp only [hw, or_true, true_or]))) (by decide +kernel) (by decide +kernel) (by decide +kernel) hq hS (hl.1.trans hml.symm) dX9_drop_10 dX9_drop_13 dX9_drop_14 dX9_drop_17 (fun x hx => (hex x hx).elim) (Nat.le_of_ble_eq_true rfl) (Nat.le_of_ble_eq_true rfl) (Nat.le_of_ble_eq_true rfl) (Nat.le_of_ble_eq_true rfl) hlocks hK hP hD

abbrev rmT9_newGame : Room := { frames := 6, cells := 1, slots := 6, locals := 81 }
set_option maxHeartbeats 4000000 in
set_option maxRecDepth 100000 in
theorem zT9_newGame {l : Launch} {D : va_G} {cI cJ cC cG : ClassId} {sz : Nat} {h9 hn h0 : Nat} {ap q ht pa pb pc : Nat → Nat} {jk : JT} {hasS : Bool} {cnt : Int32} {snp : GT} {G : Nat → GT} {c_mover : Int32} {c_phase : Int32} {c_dice : Int32} {c_stake : Int32} {c_cube : Int32} {c_pieces0 : Int64} {c_pieces1 : Int64} {c_score0 : Int32} {c_score1 : Int32} {c_hits0 : Int32} {c_hits1 : Int32} {c_stopped : Bool} {c_stopPart : Int32} {t_signs : Nat → Int32} {t_length : Int32} {E : String} (hst : l.stackTraces = false) (hm : mT9_newGame cnt G c_mover c_phase c_dice c_stake c_cube c_pieces0 c_pieces1 c_score0 c_score1 c_hits0 c_hits1 c_stopped c_stopPart = some E) : k_MT l yX9_newGame wsX9_newGame rmT9_newGame D (kT cI cJ cC cG) sz ([.ref h9] : List Value) (wX cI cJ cC cG h9 hn ap q ht h0 pa pb pc jk hasS cnt snp G c_mover c_phase c_dice c_stake c_cube c_pieces0 c_pieces1 c_score0 c_score1 c_hits0 c_hits1 c_stopped c_stopPart t_signs t_length)  E := by
  refine k_st_T (cc := cX9_newGame) (maxL := 1) (by decide) rfl (Nat.le_of_ble_eq_true rfl) ?_
  intro p e z m below meth c A hx hb hr hml hts hown hlocks hsz hN hA hK hP hD hS hq hex ls hl
  have hown : z.vm.findClass RX9 = some m.cls := hown
  have hinX9 : ∀ w ∈ wsX90, w ∈ wsX9_newGame := by decide +kernel
  have fl10 := hts (.fieldLink RX9 10 "MagpieRuns" "now" "LMagpieRuns$Game;") (by decide +kernel)
  have fl19 := hts (.fieldLink RX9 19 "MagpieRuns" "past" "LMagpieRuns$Past;") (by decide +kernel)
  have hl : lv_has ls 1 [(0, .ref h9)] := hl
  unfold mT9_newGame at hm
  refine lv_aload_n hx hb dX9_newGame_0 rfl (lv_at hl 0 rfl) ?_
  refine va_get (D := D) (ci := 5) (v := .ref hn) (C := RX9) (T := TX9) (N := 4) hx hb hts hinX9 hown hK hP 0 rfl rfl 0 (by decide) fl10 (fun _ h9 => h9) rfl dX9_newGame_1 ?_
  obtain ⟨r1, hc4, hm⟩ := k_bds hm
  have hPc : va_P D vwCl (wG hn c_mover c_phase c_dice c_stake c_cube c_pieces0 c_pieces1 c_score0 c_score1 c_hits0 c_hits1 c_stopped c_stopPart) _ := k_Psub hP [1] rfl
  have hDc : va_D A (wG hn c_mover c_phase c_dice c_stake c_cube c_pieces0 c_pieces1 c_score0 c_score1 c_hits0 c_hits1 c_stopped c_stopPart) := hD.sub [1] (by decide) rfl
  refine k_i_c (Wf := (wX cI cJ cC cG h9 hn ap q ht h0 pa pb pc jk hasS cnt snp G c_mover c_phase c_dice c_stake c_cube c_pieces0 c_pieces1 c_score0 c_score1 c_hits0 c_hits1 c_stopped c_stopPart t_signs t_length)) [1] [0, 2, 3, 4, 5, 6, 7, 8, 9, 10, 11, 12, 13, 14, 15, 16, 17, 18, 19, 20, 21, 22, 23, 24] [0, 24, 1, 2, 3, 4, 5, 6, 7, 8, 9, 10, 11, 12, 13, 14, 15, 16, 17, 18, 19, 20, 21, 22, 23] (k_rV (As := []) (rest := []) ⟨hx, hb, hml, hown, hts⟩ hK hN hPc hDc (zX1_isOver hc4) (cwV 0 hts gX9_newGame_X1_isOver rfl rfl rfl (by decide +kernel) ⟨Nat.le_of_ble_eq_true rfl, Nat.le_of_ble_eq_true rfl⟩) rfl rfl rfl hl.1 rfl (Nat.le_of_ble_eq_true rfl) dX9_newGame_4 ⟨Nat.zero_le _, Nat.zero_le _⟩) hP hD hS hA rfl rfl (by decide) (by decide) rfl (by decide) (fun H locs hP hD hS => ?_)
  refine lv_if_ne (tgt := 18) hx hb dX9_newGame_7 (by decide) (fun cc7 => ?_) (fun cc7 => ?_)
  · have hm := k_in cc7 hm
    refine lv_aload_n hx hb dX9_newGame_18 rfl (lv_at hl 0 rfl) ?_
    refine va_get (D := D) (ci := 5) (v := .ref (ap 0)) (C := RX9) (T := TX9) (N := 4) hx hb hts hinX9 hown hK hP 0 rfl rfl 1 (by decide) fl19 (fun _ h9 => h9) rfl dX9_newGame_19 ?_
    refine lv_aload_n hx hb dX9_newGame_22 rfl (lv_at hl 0 rfl) ?_
    refine va_get (D := D) (ci := 5) (v := .ref hn) (C := RX9) (T := TX9) (N := 4) hx hb hts hinX9 hown hK hP 0 rfl rfl 0 (by decide) fl10 (fun _ h9 => h9) rfl dX9_newGame_23 ?_
    cases hm
  · have hm := k_ip cc7 hm
    cases hm
    exact k_throw (own := RX9) (ik := 50) (ic := 52) (cls := "java/lang/IllegalStateException") hx hb hst hown (hts (.classLink RX9 50 "java/lang/IllegalStateException") (by decide +kernel)) (hts (.initialized "java/lang/IllegalStateException") (by decide +kernel)) (fun w hw => hts w (List.mem_cons_of_mem _ (by simp only [List.mem_append]; simp only [hw, or_true, true_or]))) (by decide +kernel) (by decide +kernel) (by decide +kernel) hq hS (hl.1.trans hml.symm) dX9_newGame_10 dX9_newGame_13 dX9_newGame_14 dX9_newGame_17 (fun x hx => (hex x hx).elim) (Nat.le_of_ble_eq_true rfl) (Nat.le_of_ble_eq_true rfl) (Nat.le_of_ble_eq_true rfl) (Nat.le_of_ble_eq_true rfl) hlocks hK hP hD

abbrev rmT9_append : Room := { frames := 6, cells := 1, slots := 6, locals := 81 }
set_option maxHeartbeats 4000000 in
set_option maxRecDepth 100000 in
theorem zT9_append {l : Launch} {D : va_G} {cI cJ cC cG : ClassId} {sz : Nat} {h9 hn h0 : Nat} {ap q ht pa pb pc : Nat → Nat} {jk : JT} {hasS : Bool} {cnt : Int32} {snp : GT} {G : Nat → GT} {c_mover : Int32} {c_phase : Int32} {c_dice : Int32} {c_stake : Int32} {c_cube : Int32} {c_pieces0 : Int64} {c_pieces1 : Int64} {c_score0 : Int32} {c_score1 : Int32} {c_hits0 : Int32} {c_hits1 : Int32} {c_stopped : Bool} {c_stopPart : Int32} {t_signs : Nat → Int32} {t_length : Int32} {a1 : Int32} {E : String} (hst : l.stackTraces = false) (hm : mT9_append t_signs t_length a1 = some E) : k_MT l yX9_append wsX9_append rmT9_append D (kT cI cJ cC cG) sz ([.ref h9, .int a1] : List Value) (wX cI cJ cC cG h9 hn ap q ht h0 pa pb pc jk hasS cnt snp G c_mover c_phase c_dice c_stake c_cube c_pieces0 c_pieces1 c_score0 c_score1 c_hits0 c_hits1 c_stopped c_stopPart t_signs t_length)  E := by
  refine k_st_T (cc := cX9_append) (maxL := 2) (by decide) rfl (Nat.le_of_ble_eq_true rfl) ?_
  intro p e z m below meth c A hx hb hr hml hts hown hlocks hsz hN hA hK hP hD hS hq hex ls hl
  have hown : z.vm.findClass RX9 = some m.cls := hown
  have hinX9 : ∀ w ∈ wsX90, w ∈ wsX9_append := by decide +kernel
  have fl26 := hts (.fieldLink RX9 26 "MagpieRuns" "text" "LMagpieRuns$Text;") (by decide +kernel)
  have hl : lv_has ls 2 [(0, .ref h9), (1, .int a1)] := hl
  have J_12 : ∀ (H : Heap) (locs : List Loc), va_P D vwCl (wX cI cJ cC cG h9 hn ap q ht h0 pa pb pc jk hasS cnt snp G c_mover c_phase c_dice c_stake c_cube c_pieces0 c_pieces1 c_score0 c_score1 c_hits0 c_hits1 c_stopped c_stopPart t_signs t_length) H → va_D A (wX cI cJ cC cG h9 hn ap q ht h0 pa pb pc jk hasS cnt snp G c_mover c_phase c_dice c_stake c_cube c_pieces0 c_pieces1 c_score0 c_score1 c_hits0 c_hits1 c_stopped c_stopPart t_signs t_length) → va_S A z.heap H locs → ∀ ls : Array Slot, lv_has ls 2 [] → mT9_append_12 t_signs t_length a1  = some E → W p l e rmT9_append z m ([.ref h9, .int a1] : List Value).toArray below meth c H locs 0 0 (k_QT below ([.ref h9, .int a1] : List Value) D (kT cI cJ cC cG) z A (wX cI cJ cC cG h9 hn ap q ht h0 pa pb pc jk hasS cnt snp G c_mover c_phase c_dice c_stake c_cube c_pieces0 c_pieces1 c_score0 c_score1 c_hits0 c_hits1 c_stopped c_stopPart t_signs t_length) E) (F0 m 12 ls []) := by
    intro  H locs hP hD hS ls hl hm
    unfold mT9_append_12 at hm
    cases hm
    exact k_throw (own := RX9) (ik := 43) (ic := 45) (cls := "java/lang/IllegalArgumentException") hx hb hst hown (hts (.classLink RX9 43 "java/lang/IllegalArgumentException") (by decide +kernel)) (hts (.initialized "java/lang/IllegalArgumentException") (by decide +kernel)) (fun w hw => hts w (List.mem_cons_of_mem _ (by simp only [List.mem_append]; simp only [hw, or_true, true_or]))) (by decide +kernel) (by decide +kernel) (by decide +kernel) hq hS (hl.1.trans hml.symm) dX9_append_12 dX9_append_15 dX9_append_16 dX9_append_19 (fun x hx => (hex x hx).elim) (Nat.le_of_ble_eq_true rfl) (Nat.le_of_ble_eq_true rfl) (Nat.le_of_ble_eq_true rfl) (Nat.le_of_ble_eq_true rfl) hlocks hK hP hD
  unfold mT9_append at hm
  refine lv_iload_n hx hb dX9_append_0 rfl (lv_at hl 1 rfl) ?_
  refine lv_bipush (v := 33) hx hb dX9_append_1 (by decide) ?_
  refine lv_icmp_lt (tgt := 12) hx hb dX9_append_3 (by decide) (fun cc3 => ?_) (fun cc3 => ?_)
  · have hm := k_ip cc3 hm
    exact J_12  _ _ hP hD hS _ (lv_sub hl [] rfl) hm
  · have hm := k_in cc3 hm
    refine lv_iload_n hx hb dX9_append_6 rfl (lv_at hl 1 rfl) ?_
    refine lv_bipush (v := 126) hx hb dX9_append_7 (by decide) ?_
    refine lv_icmp_le (tgt := 20) hx hb dX9_append_9 (by decide) (fun cc9 => ?_) (fun cc9 => ?_)
    · have hm := k_ip cc9 hm
      refine lv_aload_n hx hb dX9_append_20 rfl (lv_at hl 0 rfl) ?_
      refine va_get (D := D) (ci := 5) (v := .ref (ht 0)) (C := RX9) (T := TX9) (N := 4) hx hb hts hinX9 hown hK hP 0 rfl rfl 2 (by decide) fl26 (fun _ h9 => h9) rfl dX9_append_21 ?_
      obtain ⟨r1, hc24, hm⟩ := k_bds hm
      have hPc : va_P D vwCl (wT cC ht t_signs t_length) _ := k_Psub hP [10, 11] rfl
      have hDc : va_D A (wT cC ht t_signs t_length) := hD.sub [10, 11] (by decide) rfl
      refine k_i_c (Wf := (wX cI cJ cC cG h9 hn ap q ht h0 pa pb pc jk hasS cnt snp G c_mover c_phase c_dice c_stake c_cube c_pieces0 c_pieces1 c_score0 c_score1 c_hits0 c_hits1 c_stopped c_stopPart t_signs t_length)) [10, 11] [0, 1, 2, 3, 4, 5, 6, 7, 8, 9, 12, 13, 14, 15, 16, 17, 18, 19, 20, 21, 22, 23, 24] [0, 1, 2, 3, 4, 5, 6, 7, 8, 9, 23, 24, 10, 11, 12, 13, 14, 15, 16, 17, 18, 19, 20, 21, 22] (k_rV (As := []) (rest := []) ⟨hx, hb, hml, hown, hts⟩ hK hN hPc hDc (zX8_isFull hc24) (cwV 0 hts gX9_append_X8_isFull rfl rfl rfl (by decide +kernel) ⟨Nat.le_of_ble_eq_true rfl, Nat.le_of_ble_eq_true rfl⟩) rfl rfl rfl hl.1 rfl (Nat.le_of_ble_eq_true rfl) dX9_append_24 ⟨Nat.zero_le _, Nat.zero_le _⟩) hP hD hS hA rfl rfl (by decide) (by decide) rfl (by decide) (fun H locs hP hD hS => ?_)
      refine lv_if_eq (tgt := 38) hx hb dX9_append_27 (by decide) (fun cc27 => ?_) (fun cc27 => ?_)
      · have hm := k_ip cc27 hm
        refine lv_aload_n hx hb dX9_append_38 rfl (lv_at hl 0 rfl) ?_
        refine va_get (D := D) (ci := 5) (v := .ref (ht 0)) (C := RX9) (T := TX9) (N := 4) hx hb hts hinX9 hown hK hP 0 rfl rfl 2 (by decide) fl26 (fun _ h9 => h9) rfl dX9_append_39 ?_
        refine lv_iload_n hx hb dX9_append_42 rfl (lv_at hl 1 rfl) ?_
        refine lv_i2c (v := (k_i2c a1)) hx hb dX9_append_43 rfl ?_
        cases hm
      · have hm := k_in cc27 hm
        cases hm
        exact k_throw (own := RX9) (ik := 50) (ic := 52) (cls := "java/lang/IllegalStateException") hx hb hst hown (hts (.classLink RX9 50 "java/lang/IllegalStateException") (by decide +kernel)) (hts (.initialized "java/lang/IllegalStateException") (by decide +kernel)) (fun w hw => hts w (List.mem_cons_of_mem _ (by simp only [List.mem_append]; simp only [hw, or_true, true_or]))) (by decide +kernel) (by decide +kernel) (by decide +kernel) hq hS (hl.1.trans hml.symm) dX9_append_30 dX9_append_33 dX9_append_34 dX9_append_37 (fun x hx => (hex x hx).elim) (Nat.le_of_ble_eq_true rfl) (Nat.le_of_ble_eq_true rfl) (Nat.le_of_ble_eq_true rfl) (Nat.le_of_ble_eq_true rfl) hlocks hK hP hD
    · have hm := k_in cc9 hm
      exact J_12  _ _ hP hD hS _ (lv_sub hl [] rfl) hm

abbrev rmT9_play : Room := { frames := 6, cells := 1, slots := 6, locals := 83 }
set_option maxHeartbeats 4000000 in
set_option maxRecDepth 100000 in
theorem zT9_play {l : Launch} {D : va_G} {cI cJ cC cG : ClassId} {sz : Nat} {h9 hn h0 : Nat} {ap q ht pa pb pc : Nat → Nat} {jk : JT} {hasS : Bool} {cnt : Int32} {snp : GT} {G : Nat → GT} {c_mover : Int32} {c_phase : Int32} {c_dice : Int32} {c_stake : Int32} {c_cube : Int32} {c_pieces0 : Int64} {c_pieces1 : Int64} {c_score0 : Int32} {c_score1 : Int32} {c_hits0 : Int32} {c_hits1 : Int32} {c_stopped : Bool} {c_stopPart : Int32} {t_signs : Nat → Int32} {t_length : Int32} {E : String} (hst : l.stackTraces = false) (hm : mT9_play cnt G c_mover c_phase c_dice c_stake c_cube c_pieces0 c_pieces1 c_score0 c_score1 c_hits0 c_hits1 c_stopped c_stopPart t_signs t_length = some E) : k_MT l yX9_play wsX9_play rmT9_play D (kT cI cJ cC cG) sz ([.ref h9] : List Value) (wX cI cJ cC cG h9 hn ap q ht h0 pa pb pc jk hasS cnt snp G c_mover c_phase c_dice c_stake c_cube c_pieces0 c_pieces1 c_score0 c_score1 c_hits0 c_hits1 c_stopped c_stopPart t_signs t_length)  E := by
  refine k_st_T (cc := cX9_play) (maxL := 6) (by decide) rfl (Nat.le_of_ble_eq_true rfl) ?_
  intro p e z m below meth c A hx hb hr hml hts hown hlocks hsz hN hA hK hP hD hS hq hex ls hl
  have hown : z.vm.findClass RX9 = some m.cls := hown
  have hinX8 : ∀ w ∈ wsX80, w ∈ wsX9_play := by decide +kernel
  have hinX9 : ∀ w ∈ wsX90, w ∈ wsX9_play := by decide +kernel
  have fl10 := hts (.fieldLink RX9 10 "MagpieRuns" "now" "LMagpieRuns$Game;") (by decide +kernel)
  have fl19 := hts (.fieldLink RX9 19 "MagpieRuns" "past" "LMagpieRuns$Past;") (by decide +kernel)
  have fl26 := hts (.fieldLink RX9 26 "MagpieRuns" "text" "LMagpieRuns$Text;") (by decide +kernel)
  have fl150 := hts (.fieldLink RX9 150 "MagpieRuns$Text" "length" "I") (by decide +kernel)
  have hl : lv_has ls 6 [(0, .ref h9)] := hl
  have J_116 : ∀ (t0 : Bool) (l1 : Int32) (H : Heap) (locs : List Loc), va_P D vwCl (wX cI cJ cC cG h9 hn ap q ht h0 pa pb pc jk hasS cnt snp G c_mover c_phase c_dice c_stake c_cube c_pieces0 c_pieces1 c_score0 c_score1 c_hits0 c_hits1 c_stopped c_stopPart t_signs t_length) H → va_D A (wX cI cJ cC cG h9 hn ap q ht h0 pa pb pc jk hasS cnt snp G c_mover c_phase c_dice c_stake c_cube c_pieces0 c_pieces1 c_score0 c_score1 c_hits0 c_hits1 c_stopped c_stopPart t_signs t_length) → va_S A z.heap H locs → ∀ ls : Array Slot, lv_has ls 6 [(0, .ref h9), (1, .int l1)] → mT9_play_116 cnt G c_mover c_phase c_dice c_stake c_cube c_pieces0 c_pieces1 c_score0 c_score1 c_hits0 c_hits1 c_stopped c_stopPart t_signs t_length t0 l1 = some E → W p l e rmT9_play z m ([.ref h9] : List Value).toArray below meth c H locs 0 0 (k_QT below ([.ref h9] : List Value) D (kT cI cJ cC cG) z A (wX cI cJ cC cG h9 hn ap q ht h0 pa pb pc jk hasS cnt snp G c_mover c_phase c_dice c_stake c_cube c_pieces0 c_pieces1 c_score0 c_score1 c_hits0 c_hits1 c_stopped c_stopPart t_signs t_length) E) (F0 m 116 ls [.int (k_b t0), .ref hn]) := by
    intro t0 l1 H locs hP hD hS ls hl hm
    unfold mT9_play_116 at hm
    refine lv_iload_n hx hb dX9_play_116 rfl (lv_at hl 1 rfl) ?_
    cases hm
  have J_103 : ∀ (l1 : Int32) (l3 : Bool) (H : Heap) (locs : List Loc), va_P D vwCl (wX cI cJ cC cG h9 hn ap q ht h0 pa pb pc jk hasS cnt snp G c_mover c_phase c_dice c_stake c_cube c_pieces0 c_pieces1 c_score0 c_score1 c_hits0 c_hits1 c_stopped c_stopPart t_signs t_length) H → va_D A (wX cI cJ cC cG h9 hn ap q ht h0 pa pb pc jk hasS cnt snp G c_mover c_phase c_dice c_stake c_cube c_pieces0 c_pieces1 c_score0 c_score1 c_hits0 c_hits1 c_stopped c_stopPart t_signs t_length) → va_S A z.heap H locs → ∀ ls : Array Slot, lv_has ls 6 [(0, .ref h9), (1, .int l1), (3, .int (k_b l3))] → mT9_play_103 cnt G c_mover c_phase c_dice c_stake c_cube c_pieces0 c_pieces1 c_score0 c_score1 c_hits0 c_hits1 c_stopped c_stopPart t_signs t_length l1 l3 = some E → W p l e rmT9_play z m ([.ref h9] : List Value).toArray below meth c H locs 0 0 (k_QT below ([.ref h9] : List Value) D (kT cI cJ cC cG) z A (wX cI cJ cC cG h9 hn ap q ht h0 pa pb pc jk hasS cnt snp G c_mover c_phase c_dice c_stake c_cube c_pieces0 c_pieces1 c_score0 c_score1 c_hits0 c_hits1 c_stopped c_stopPart t_signs t_length) E) (F0 m 103 ls []) := by
    intro l1 l3 H locs hP hD hS ls hl hm
    unfold mT9_play_103 at hm
    refine lv_aload_n hx hb dX9_play_103 rfl (lv_at hl 0 rfl) ?_
    refine va_get (D := D) (ci := 5) (v := .ref hn) (C := RX9) (T := TX9) (N := 4) hx hb hts hinX9 hown hK hP 0 rfl rfl 0 (by decide) fl10 (fun _ h9 => h9) rfl dX9_play_104 ?_
    refine lv_iload_n hx hb dX9_play_107 rfl (lv_at hl 2 rfl) ?_
    refine lv_if_ne (tgt := 115) hx hb dX9_play_108 (by decide) (fun cc108 => ?_) (fun cc108 => ?_)
    · have hm := k_in cc108 hm
      refine lv_iconst (v := 0) hx hb dX9_play_115 (by decide) ?_
      exact J_116 false l1 _ _ hP hD hS _ (lv_sub hl [0, 1] rfl) hm
    · have hm := k_ip cc108 hm
      refine lv_iconst (v := 1) hx hb dX9_play_111 (by decide) ?_
      refine lv_goto (tgt := 116) hx hb dX9_play_112 (by decide) ?_
      exact J_116 true l1 _ _ hP hD hS _ (lv_sub hl [0, 1] rfl) hm
  have J_38 := k_loop (z := fun _ _ _ _ => none) (st := mT9_play_38 cnt G c_mover c_phase c_dice c_stake c_cube c_pieces0 c_pieces1 c_score0 c_score1 c_hits0 c_hits1 c_stopped c_stopPart t_signs t_length) (fun k38 : (Int32) → (Int32) → (Bool) → (Int32) → Option (String) => ∀ (l1 : Int32) (l2 : Int32) (l3 : Bool) (l4 : Int32) (H : Heap) (locs : List Loc), va_P D vwCl (wX cI cJ cC cG h9 hn ap q ht h0 pa pb pc jk hasS cnt snp G c_mover c_phase c_dice c_stake c_cube c_pieces0 c_pieces1 c_score0 c_score1 c_hits0 c_hits1 c_stopped c_stopPart t_signs t_length) H → va_D A (wX cI cJ cC cG h9 hn ap q ht h0 pa pb pc jk hasS cnt snp G c_mover c_phase c_dice c_stake c_cube c_pieces0 c_pieces1 c_score0 c_score1 c_hits0 c_hits1 c_stopped c_stopPart t_signs t_length) → va_S A z.heap H locs → ∀ ls : Array Slot, lv_has ls 6 [(0, .ref h9), (1, .int l1), (2, .int l2), (3, .int (k_b l3)), (4, .int l4)] → k38 l1 l2 l3 l4 = some E → W p l e rmT9_play z m ([.ref h9] : List Value).toArray below meth c H locs 0 0 (k_QT below ([.ref h9] : List Value) D (kT cI cJ cC cG) z A (wX cI cJ cC cG h9 hn ap q ht h0 pa pb pc jk hasS cnt snp G c_mover c_phase c_dice c_stake c_cube c_pieces0 c_pieces1 c_score0 c_score1 c_hits0 c_hits1 c_stopped c_stopPart t_signs t_length) E) (F0 m 38 ls [])) (by intros; contradiction) (by
    intro k38 ih38
    have J_92 : ∀ (l1 : Int32) (l3 : Bool) (l4 : Int32) (l5 : Int32) (H : Heap) (locs : List Loc), va_P D vwCl (wX cI cJ cC cG h9 hn ap q ht h0 pa pb pc jk hasS cnt snp G c_mover c_phase c_dice c_stake c_cube c_pieces0 c_pieces1 c_score0 c_score1 c_hits0 c_hits1 c_stopped c_stopPart t_signs t_length) H → va_D A (wX cI cJ cC cG h9 hn ap q ht h0 pa pb pc jk hasS cnt snp G c_mover c_phase c_dice c_stake c_cube c_pieces0 c_pieces1 c_score0 c_score1 c_hits0 c_hits1 c_stopped c_stopPart t_signs t_length) → va_S A z.heap H locs → ∀ ls : Array Slot, lv_has ls 6 [(0, .ref h9), (1, .int l1), (3, .int (k_b l3)), (4, .int l4), (5, .int l5)] → mT9_play_92 cnt G c_mover c_phase c_dice c_stake c_cube c_pieces0 c_pieces1 c_score0 c_score1 c_hits0 c_hits1 c_stopped c_stopPart t_signs t_length k38 l1 l3 l4 l5 = some E → W p l e rmT9_play z m ([.ref h9] : List Value).toArray below meth c H locs 0 0 (k_QT below ([.ref h9] : List Value) D (kT cI cJ cC cG) z A (wX cI cJ cC cG h9 hn ap q ht h0 pa pb pc jk hasS cnt snp G c_mover c_phase c_dice c_stake c_cube c_pieces0 c_pieces1 c_score0 c_score1 c_hits0 c_hits1 c_stopped c_stopPart t_signs t_length) E) (F0 m 92 ls []) := by
      intro l1 l3 l4 l5 H locs hP hD hS ls hl hm
      unfold mT9_play_92 at hm
      refine lv_iload hx hb dX9_play_92 (lv_at hl 4 rfl) ?_
      refine lv_iconst (v := 1) hx hb dX9_play_94 (by decide) ?_
      refine lv_iadd hx hb dX9_play_95 ?_
      refine lv_istore_n (lv' := [(2, .int (l5 + 1)), (0, .ref h9), (1, .int l1), (3, .int (k_b l3)), (4, .int l4), (5, .int l5)]) hx hb dX9_play_96 rfl hl (by decide) rfl (fun ls hl => ?_)
      refine lv_iinc (v := (l4 + 1)) (lv' := [(4, .int (l4 + 1)), (2, .int (l5 + 1)), (0, .ref h9), (1, .int l1), (3, .int (k_b l3)), (5, .int l5)]) hx hb dX9_play_97 hl (k := 4) rfl rfl (by decide) rfl (fun ls hl => ?_)
      refine lv_goto (tgt := 38) hx hb dX9_play_100 (by decide) ?_
      exact ih38 l1 (l5 + 1) l3 (l4 + 1) _ _ hP hD hS _ (lv_sub hl [2, 3, 1, 4, 0] rfl) hm
    intro l1 l2 l3 l4 H locs hP hD hS ls hl hm
    unfold mT9_play_38 at hm
    refine lv_iload hx hb dX9_play_38 (lv_at hl 4 rfl) ?_
    refine lv_bipush (v := 60) hx hb dX9_play_40 (by decide) ?_
    refine lv_icmp_ge (tgt := 103) hx hb dX9_play_42 (by decide) (fun cc42 => ?_) (fun cc42 => ?_)
    · have hm := k_ip cc42 hm
      exact J_103 l1 l3 _ _ hP hD hS _ (lv_sub hl [0, 1, 3] rfl) hm
    · have hm := k_in cc42 hm
      refine lv_iload_n hx hb dX9_play_45 rfl (lv_at hl 3 rfl) ?_
      refine lv_if_eq (tgt := 103) hx hb dX9_play_46 (by decide) (fun cc46 => ?_) (fun cc46 => ?_)
      · have hm := k_ip cc46 hm
        exact J_103 l1 l3 _ _ hP hD hS _ (lv_sub hl [0, 1, 3] rfl) hm
      · have hm := k_in cc46 hm
        refine lv_iload_n hx hb dX9_play_49 rfl (lv_at hl 2 rfl) ?_
        refine lv_aload_n hx hb dX9_play_50 rfl (lv_at hl 0 rfl) ?_
        refine va_get (D := D) (ci := 5) (v := .ref (ht 0)) (C := RX9) (T := TX9) (N := 4) hx hb hts hinX9 hown hK hP 0 rfl rfl 2 (by decide) fl26 (fun _ h9 => h9) rfl dX9_play_51 ?_
        refine va_get (D := D) (ci := 4) (v := .int t_length) (C := RX8) (T := TX8) (N := 2) hx hb hts hinX8 hown hK hP 10 rfl rfl 1 (by decide) fl150 (fun _ h9 => h9) rfl dX9_play_54 ?_
        refine lv_icmp_ge (tgt := 103) hx hb dX9_play_57 (by decide) (fun cc57 => ?_) (fun cc57 => ?_)
        · have hm := k_ip cc57 hm
          exact J_103 l1 l3 _ _ hP hD hS _ (lv_sub hl [0, 1, 3] rfl) hm
        · have hm := k_in cc57 hm
          refine lv_aload_n hx hb dX9_play_60 rfl (lv_at hl 0 rfl) ?_
          refine va_get (D := D) (ci := 5) (v := .ref (ht 0)) (C := RX9) (T := TX9) (N := 4) hx hb hts hinX9 hown hK hP 0 rfl rfl 2 (by decide) fl26 (fun _ h9 => h9) rfl dX9_play_61 ?_
          refine lv_iload_n hx hb dX9_play_64 rfl (lv_at hl 2 rfl) ?_
          obtain ⟨r1, hc65, hm⟩ := k_bds hm
          have hPc : va_P D vwCl (wT cC ht t_signs t_length) _ := k_Psub hP [10, 11] rfl
          have hDc : va_D A (wT cC ht t_signs t_length) := hD.sub [10, 11] (by decide) rfl
          refine k_i_c (Wf := (wX cI cJ cC cG h9 hn ap q ht h0 pa pb pc jk hasS cnt snp G c_mover c_phase c_dice c_stake c_cube c_pieces0 c_pieces1 c_score0 c_score1 c_hits0 c_hits1 c_stopped c_stopPart t_signs t_length)) [10, 11] [0, 1, 2, 3, 4, 5, 6, 7, 8, 9, 12, 13, 14, 15, 16, 17, 18, 19, 20, 21, 22, 23, 24] [0, 1, 2, 3, 4, 5, 6, 7, 8, 9, 23, 24, 10, 11, 12, 13, 14, 15, 16, 17, 18, 19, 20, 21, 22] (k_rV (As := [.int l2]) (rest := []) ⟨hx, hb, hml, hown, hts⟩ hK hN hPc hDc (zX8_endOfPart hc65) (cwV 1 hts gX9_play_X8_endOfPart rfl rfl rfl (by decide +kernel) ⟨Nat.le_of_ble_eq_true rfl, Nat.le_of_ble_eq_true rfl⟩) rfl rfl rfl hl.1 rfl (Nat.le_of_ble_eq_true rfl) dX9_play_65 ⟨Nat.zero_le _, Nat.zero_le _⟩) hP hD hS hA rfl rfl (by decide) (by decide) rfl (by decide) (fun H locs hP hD hS => ?_)
          refine lv_istore (lv' := [(5, .int r1), (0, .ref h9), (1, .int l1), (2, .int l2), (3, .int (k_b l3)), (4, .int l4)]) hx hb dX9_play_68 hl (by decide) rfl (fun ls hl => ?_)
          refine lv_aload_n hx hb dX9_play_70 rfl (lv_at hl 1 rfl) ?_
          refine lv_iload_n hx hb dX9_play_71 rfl (lv_at hl 3 rfl) ?_
          refine lv_iload hx hb dX9_play_72 (lv_at hl 0 rfl) ?_
          cases hm) k_F
  unfold mT9_play at hm
  refine lv_aload_n hx hb dX9_play_0 rfl (lv_at hl 0 rfl) ?_
  refine va_get (D := D) (ci := 5) (v := .ref (ht 0)) (C := RX9) (T := TX9) (N := 4) hx hb hts hinX9 hown hK hP 0 rfl rfl 2 (by decide) fl26 (fun _ h9 => h9) rfl dX9_play_1 ?_
  obtain ⟨r2, hc4, hm⟩ := k_bds hm
  have hPc : va_P D vwCl (wT cC ht t_signs t_length) _ := k_Psub hP [10, 11] rfl
  have hDc : va_D A (wT cC ht t_signs t_length) := hD.sub [10, 11] (by decide) rfl
  refine k_i_c (Wf := (wX cI cJ cC cG h9 hn ap q ht h0 pa pb pc jk hasS cnt snp G c_mover c_phase c_dice c_stake c_cube c_pieces0 c_pieces1 c_score0 c_score1 c_hits0 c_hits1 c_stopped c_stopPart t_signs t_length)) [10, 11] [0, 1, 2, 3, 4, 5, 6, 7, 8, 9, 12, 13, 14, 15, 16, 17, 18, 19, 20, 21, 22, 23, 24] [0, 1, 2, 3, 4, 5, 6, 7, 8, 9, 23, 24, 10, 11, 12, 13, 14, 15, 16, 17, 18, 19, 20, 21, 22] (k_rV (As := []) (rest := []) ⟨hx, hb, hml, hown, hts⟩ hK hN hPc hDc (zX8_isGame hc4) (cwV 0 hts gX9_play_X8_isGame rfl rfl rfl (by decide +kernel) ⟨Nat.le_of_ble_eq_true rfl, Nat.le_of_ble_eq_true rfl⟩) rfl rfl rfl hl.1 rfl (Nat.le_of_ble_eq_true rfl) dX9_play_4 ⟨Nat.zero_le _, Nat.zero_le _⟩) hP hD hS hA rfl rfl (by decide) (by decide) rfl (by decide) (fun H locs hP hD hS => ?_)
  refine lv_if_ne (tgt := 18) hx hb dX9_play_7 (by decide) (fun cc7 => ?_) (fun cc7 => ?_)
  · have hm := k_in cc7 hm
    refine lv_aload_n hx hb dX9_play_18 rfl (lv_at hl 0 rfl) ?_
    refine va_get (D := D) (ci := 5) (v := .ref (ap 0)) (C := RX9) (T := TX9) (N := 4) hx hb hts hinX9 hown hK hP 0 rfl rfl 1 (by decide) fl19 (fun _ h9 => h9) rfl dX9_play_19 ?_
    refine lv_aload_n hx hb dX9_play_22 rfl (lv_at hl 0 rfl) ?_
    refine va_get (D := D) (ci := 5) (v := .ref hn) (C := RX9) (T := TX9) (N := 4) hx hb hts hinX9 hown hK hP 0 rfl rfl 0 (by decide) fl10 (fun _ h9 => h9) rfl dX9_play_23 ?_
    cases hm
  · have hm := k_ip cc7 hm
    cases hm
    exact k_throw (own := RX9) (ik := 43) (ic := 45) (cls := "java/lang/IllegalArgumentException") hx hb hst hown (hts (.classLink RX9 43 "java/lang/IllegalArgumentException") (by decide +kernel)) (hts (.initialized "java/lang/IllegalArgumentException") (by decide +kernel)) (fun w hw => hts w (List.mem_cons_of_mem _ (by simp only [List.mem_append]; simp only [hw, or_true, true_or]))) (by decide +kernel) (by decide +kernel) (by decide +kernel) hq hS (hl.1.trans hml.symm) dX9_play_10 dX9_play_13 dX9_play_14 dX9_play_17 (fun x hx => (hex x hx).elim) (Nat.le_of_ble_eq_true rfl) (Nat.le_of_ble_eq_true rfl) (Nat.le_of_ble_eq_true rfl) (Nat.le_of_ble_eq_true rfl) hlocks hK hP hD

abbrev rmT9_stoppedPart : Room := { frames := 6, cells := 1, slots := 6, locals := 81 }
set_option maxHeartbeats 4000000 in
set_option maxRecDepth 100000 in
theorem zT9_stoppedPart {l : Launch} {D : va_G} {cI cJ cC cG : ClassId} {sz : Nat} {h9 hn h0 : Nat} {ap q ht pa pb pc : Nat → Nat} {jk : JT} {hasS : Bool} {cnt : Int32} {snp : GT} {G : Nat → GT} {c_mover : Int32} {c_phase : Int32} {c_dice : Int32} {c_stake : Int32} {c_cube : Int32} {c_pieces0 : Int64} {c_pieces1 : Int64} {c_score0 : Int32} {c_score1 : Int32} {c_hits0 : Int32} {c_hits1 : Int32} {c_stopped : Bool} {c_stopPart : Int32} {t_signs : Nat → Int32} {t_length : Int32} {E : String} (hst : l.stackTraces = false) (hm : mT9_stoppedPart c_stopped c_stopPart = some E) : k_MT l yX9_stoppedPart wsX9_stoppedPart rmT9_stoppedPart D (kT cI cJ cC cG) sz ([.ref h9] : List Value) (wX cI cJ cC cG h9 hn ap q ht h0 pa pb pc jk hasS cnt snp G c_mover c_phase c_dice c_stake c_cube c_pieces0 c_pieces1 c_score0 c_score1 c_hits0 c_hits1 c_stopped c_stopPart t_signs t_length)  E := by
  refine k_st_T (cc := cX9_stoppedPart) (maxL := 1) (by decide) rfl (Nat.le_of_ble_eq_true rfl) ?_
  intro p e z m below meth c A hx hb hr hml hts hown hlocks hsz hN hA hK hP hD hS hq hex ls hl
  have hown : z.vm.findClass RX9 = some m.cls := hown
  have hinX1 : ∀ w ∈ wsX10, w ∈ wsX9_stoppedPart := by decide +kernel
  have hinX9 : ∀ w ∈ wsX90, w ∈ wsX9_stoppedPart := by decide +kernel
  have fl10 := hts (.fieldLink RX9 10 "MagpieRuns" "now" "LMagpieRuns$Game;") (by decide +kernel)
  have fl176 := hts (.fieldLink RX9 176 "MagpieRuns$Game" "stopped" "Z") (by decide +kernel)
  have fl180 := hts (.fieldLink RX9 180 "MagpieRuns$Game" "stopPart" "I") (by decide +kernel)
  have hl : lv_has ls 1 [(0, .ref h9)] := hl
  unfold mT9_stoppedPart at hm
  refine lv_aload_n hx hb dX9_stoppedPart_0 rfl (lv_at hl 0 rfl) ?_
  refine va_get (D := D) (ci := 5) (v := .ref hn) (C := RX9) (T := TX9) (N := 4) hx hb hts hinX9 hown hK hP 0 rfl rfl 0 (by decide) fl10 (fun _ h9 => h9) rfl dX9_stoppedPart_1 ?_
  refine va_get (D := D) (ci := 0) (v := .int (k_b c_stopped)) (C := RX1) (T := TX1) (N := 13) hx hb hts hinX1 hown hK hP 1 rfl rfl 11 (by decide) fl176 (fun _ h9 => h9) rfl dX9_stoppedPart_4 ?_
  refine lv_if_ne (tgt := 18) hx hb dX9_stoppedPart_7 (by decide) (fun cc7 => ?_) (fun cc7 => ?_)
  · have hm := k_in cc7 hm
    refine lv_aload_n hx hb dX9_stoppedPart_18 rfl (lv_at hl 0 rfl) ?_
    refine va_get (D := D) (ci := 5) (v := .ref hn) (C := RX9) (T := TX9) (N := 4) hx hb hts hinX9 hown hK hP 0 rfl rfl 0 (by decide) fl10 (fun _ h9 => h9) rfl dX9_stoppedPart_19 ?_
    refine va_get (D := D) (ci := 0) (v := .int c_stopPart) (C := RX1) (T := TX1) (N := 13) hx hb hts hinX1 hown hK hP 1 rfl rfl 12 (by decide) fl180 (fun _ h9 => h9) rfl dX9_stoppedPart_22 ?_
    cases hm
  · have hm := k_ip cc7 hm
    cases hm
    exact k_throw (own := RX9) (ik := 50) (ic := 52) (cls := "java/lang/IllegalStateException") hx hb hst hown (hts (.classLink RX9 50 "java/lang/IllegalStateException") (by decide +kernel)) (hts (.initialized "java/lang/IllegalStateException") (by decide +kernel)) (fun w hw => hts w (List.mem_cons_of_mem _ (by simp only [List.mem_append]; simp only [hw, or_true, true_or]))) (by decide +kernel) (by decide +kernel) (by decide +kernel) hq hS (hl.1.trans hml.symm) dX9_stoppedPart_10 dX9_stoppedPart_13 dX9_stoppedPart_14 dX9_stoppedPart_17 (fun x hx => (hex x hx).elim) (Nat.le_of_ble_eq_true rfl) (Nat.le_of_ble_eq_true rfl) (Nat.le_of_ble_eq_true rfl) (Nat.le_of_ble_eq_true rfl) hlocks hK hP hD

abbrev rmT9_undo : Room := { frames := 6, cells := 1, slots := 6, locals := 81 }
set_option maxHeartbeats 4000000 in
set_option maxRecDepth 100000 in
theorem zT9_undo {l : Launch} {D : va_G} {cI cJ cC cG : ClassId} {sz : Nat} {h9 hn h0 : Nat} {ap q ht pa pb pc : Nat → Nat} {jk : JT} {hasS : Bool} {cnt : Int32} {snp : GT} {G : Nat → GT} {c_mover : Int32} {c_phase : Int32} {c_dice : Int32} {c_stake : Int32} {c_cube : Int32} {c_pieces0 : Int64} {c_pieces1 : Int64} {c_score0 : Int32} {c_score1 : Int32} {c_hits0 : Int32} {c_hits1 : Int32} {c_stopped : Bool} {c_stopPart : Int32} {t_signs : Nat → Int32} {t_length : Int32} {E : String} (hst : l.stackTraces = false) (hm : mT9_undo cnt G c_mover c_phase c_dice c_stake c_cube c_pieces0 c_pieces1 c_score0 c_score1 c_hits0 c_hits1 c_stopped c_stopPart = some E) : k_MT l yX9_undo wsX9_undo rmT9_undo D (kT cI cJ cC cG) sz ([.ref h9] : List Value) (wX cI cJ cC cG h9 hn ap q ht h0 pa pb pc jk hasS cnt snp G c_mover c_phase c_dice c_stake c_cube c_pieces0 c_pieces1 c_score0 c_score1 c_hits0 c_hits1 c_stopped c_stopPart t_signs t_length)  E := by
  refine k_st_T (cc := cX9_undo) (maxL := 1) (by decide) rfl (Nat.le_of_ble_eq_true rfl) ?_
  intro p e z m below meth c A hx hb hr hml hts hown hlocks hsz hN hA hK hP hD hS hq hex ls hl
  have hown : z.vm.findClass RX9 = some m.cls := hown
  have hinX2 : ∀ w ∈ wsX20, w ∈ wsX9_undo := by decide +kernel
  have hinX9 : ∀ w ∈ wsX90, w ∈ wsX9_undo := by decide +kernel
  have fl10 := hts (.fieldLink RX9 10 "MagpieRuns" "now" "LMagpieRuns$Game;") (by decide +kernel)
  have fl19 := hts (.fieldLink RX9 19 "MagpieRuns" "past" "LMagpieRuns$Past;") (by decide +kernel)
  have fl183 := hts (.fieldLink RX9 183 "MagpieRuns$Past" "count" "I") (by decide +kernel)
  have hl : lv_has ls 1 [(0, .ref h9)] := hl
  unfold mT9_undo at hm
  refine lv_aload_n hx hb dX9_undo_0 rfl (lv_at hl 0 rfl) ?_
  refine va_get (D := D) (ci := 5) (v := .ref (ap 0)) (C := RX9) (T := TX9) (N := 4) hx hb hts hinX9 hown hK hP 0 rfl rfl 1 (by decide) fl19 (fun _ h9 => h9) rfl dX9_undo_1 ?_
  refine va_get (D := D) (ci := 1) (v := .int cnt) (C := RX2) (T := TX2) (N := 4) hx hb hts hinX2 hown hK hP 2 rfl rfl 3 (by decide) fl183 (fun _ h9 => h9) rfl dX9_undo_4 ?_
  refine lv_if_ne (tgt := 18) hx hb dX9_undo_7 (by decide) (fun cc7 => ?_) (fun cc7 => ?_)
  · have hm := k_in cc7 hm
    refine lv_aload_n hx hb dX9_undo_18 rfl (lv_at hl 0 rfl) ?_
    refine va_get (D := D) (ci := 5) (v := .ref (ap 0)) (C := RX9) (T := TX9) (N := 4) hx hb hts hinX9 hown hK hP 0 rfl rfl 1 (by decide) fl19 (fun _ h9 => h9) rfl dX9_undo_19 ?_
    refine lv_aload_n hx hb dX9_undo_22 rfl (lv_at hl 0 rfl) ?_
    refine va_get (D := D) (ci := 5) (v := .ref hn) (C := RX9) (T := TX9) (N := 4) hx hb hts hinX9 hown hK hP 0 rfl rfl 0 (by decide) fl10 (fun _ h9 => h9) rfl dX9_undo_23 ?_
    cases hm
  · have hm := k_ip cc7 hm
    cases hm
    exact k_throw (own := RX9) (ik := 50) (ic := 52) (cls := "java/lang/IllegalStateException") hx hb hst hown (hts (.classLink RX9 50 "java/lang/IllegalStateException") (by decide +kernel)) (hts (.initialized "java/lang/IllegalStateException") (by decide +kernel)) (fun w hw => hts w (List.mem_cons_of_mem _ (by simp only [List.mem_append]; simp only [hw, or_true, true_or]))) (by decide +kernel) (by decide +kernel) (by decide +kernel) hq hS (hl.1.trans hml.symm) dX9_undo_10 dX9_undo_13 dX9_undo_14 dX9_undo_17 (fun x hx => (hex x hx).elim) (Nat.le_of_ble_eq_true rfl) (Nat.le_of_ble_eq_true rfl) (Nat.le_of_ble_eq_true rfl) (Nat.le_of_ble_eq_true rfl) hlocks hK hP hD

abbrev rmT9_restore : Room := { frames := 6, cells := 1, slots := 6, locals := 81 }
set_option maxHeartbeats 4000000 in
set_option maxRecDepth 100000 in
theorem zT9_restore {l : Launch} {D : va_G} {cI cJ cC cG : ClassId} {sz : Nat} {h9 hn h0 : Nat} {ap q ht pa pb pc : Nat → Nat} {jk : JT} {hasS : Bool} {cnt : Int32} {snp : GT} {G : Nat → GT} {c_mover : Int32} {c_phase : Int32} {c_dice : Int32} {c_stake : Int32} {c_cube : Int32} {c_pieces0 : Int64} {c_pieces1 : Int64} {c_score0 : Int32} {c_score1 : Int32} {c_hits0 : Int32} {c_hits1 : Int32} {c_stopped : Bool} {c_stopPart : Int32} {t_signs : Nat → Int32} {t_length : Int32} {E : String} (hst : l.stackTraces = false) (hm : mT9_restore hasS cnt snp G c_mover c_phase c_dice c_stake c_cube c_pieces0 c_pieces1 c_score0 c_score1 c_hits0 c_hits1 c_stopped c_stopPart = some E) : k_MT l yX9_restore wsX9_restore rmT9_restore D (kT cI cJ cC cG) sz ([.ref h9] : List Value) (wX cI cJ cC cG h9 hn ap q ht h0 pa pb pc jk hasS cnt snp G c_mover c_phase c_dice c_stake c_cube c_pieces0 c_pieces1 c_score0 c_score1 c_hits0 c_hits1 c_stopped c_stopPart t_signs t_length)  E := by
  refine k_st_T (cc := cX9_restore) (maxL := 1) (by decide) rfl (Nat.le_of_ble_eq_true rfl) ?_
  intro p e z m below meth c A hx hb hr hml hts hown hlocks hsz hN hA hK hP hD hS hq hex ls hl
  have hown : z.vm.findClass RX9 = some m.cls := hown
  have hinX2 : ∀ w ∈ wsX20, w ∈ wsX9_restore := by decide +kernel
  have hinX9 : ∀ w ∈ wsX90, w ∈ wsX9_restore := by decide +kernel
  have fl10 := hts (.fieldLink RX9 10 "MagpieRuns" "now" "LMagpieRuns$Game;") (by decide +kernel)
  have fl19 := hts (.fieldLink RX9 19 "MagpieRuns" "past" "LMagpieRuns$Past;") (by decide +kernel)
  have fl191 := hts (.fieldLink RX9 191 "MagpieRuns$Past" "hasSnapshot" "Z") (by decide +kernel)
  have hl : lv_has ls 1 [(0, .ref h9)] := hl
  unfold mT9_restore at hm
  refine lv_aload_n hx hb dX9_restore_0 rfl (lv_at hl 0 rfl) ?_
  refine va_get (D := D) (ci := 5) (v := .ref (ap 0)) (C := RX9) (T := TX9) (N := 4) hx hb hts hinX9 hown hK hP 0 rfl rfl 1 (by decide) fl19 (fun _ h9 => h9) rfl dX9_restore_1 ?_
  refine va_get (D := D) (ci := 1) (v := .int (k_b hasS)) (C := RX2) (T := TX2) (N := 4) hx hb hts hinX2 hown hK hP 2 rfl rfl 2 (by decide) fl191 (fun _ h9 => h9) rfl dX9_restore_4 ?_
  refine lv_if_ne (tgt := 18) hx hb dX9_restore_7 (by decide) (fun cc7 => ?_) (fun cc7 => ?_)
  · have hm := k_in cc7 hm
    refine lv_aload_n hx hb dX9_restore_18 rfl (lv_at hl 0 rfl) ?_
    refine va_get (D := D) (ci := 5) (v := .ref (ap 0)) (C := RX9) (T := TX9) (N := 4) hx hb hts hinX9 hown hK hP 0 rfl rfl 1 (by decide) fl19 (fun _ h9 => h9) rfl dX9_restore_19 ?_
    refine lv_aload_n hx hb dX9_restore_22 rfl (lv_at hl 0 rfl) ?_
    refine va_get (D := D) (ci := 5) (v := .ref hn) (C := RX9) (T := TX9) (N := 4) hx hb hts hinX9 hown hK hP 0 rfl rfl 0 (by decide) fl10 (fun _ h9 => h9) rfl dX9_restore_23 ?_
    cases hm
  · have hm := k_ip cc7 hm
    cases hm
    exact k_throw (own := RX9) (ik := 50) (ic := 52) (cls := "java/lang/IllegalStateException") hx hb hst hown (hts (.classLink RX9 50 "java/lang/IllegalStateException") (by decide +kernel)) (hts (.initialized "java/lang/IllegalStateException") (by decide +kernel)) (fun w hw => hts w (List.mem_cons_of_mem _ (by simp only [List.mem_append]; simp only [hw, or_true, true_or]))) (by decide +kernel) (by decide +kernel) (by decide +kernel) hq hS (hl.1.trans hml.symm) dX9_restore_10 dX9_restore_13 dX9_restore_14 dX9_restore_17 (fun x hx => (hex x hx).elim) (Nat.le_of_ble_eq_true rfl) (Nat.le_of_ble_eq_true rfl) (Nat.le_of_ble_eq_true rfl) (Nat.le_of_ble_eq_true rfl) hlocks hK hP hD

abbrev rmT9_dieLeft : Room := { frames := 6, cells := 1, slots := 6, locals := 81 }
set_option maxHeartbeats 4000000 in
set_option maxRecDepth 100000 in
theorem zT9_dieLeft {l : Launch} {D : va_G} {cI cJ cC cG : ClassId} {sz : Nat} {h9 hn h0 : Nat} {ap q ht pa pb pc : Nat → Nat} {jk : JT} {hasS : Bool} {cnt : Int32} {snp : GT} {G : Nat → GT} {c_mover : Int32} {c_phase : Int32} {c_dice : Int32} {c_stake : Int32} {c_cube : Int32} {c_pieces0 : Int64} {c_pieces1 : Int64} {c_score0 : Int32} {c_score1 : Int32} {c_hits0 : Int32} {c_hits1 : Int32} {c_stopped : Bool} {c_stopPart : Int32} {t_signs : Nat → Int32} {t_length : Int32} {a1 : Int32} {E : String} (hst : l.stackTraces = false) (hm : mT9_dieLeft c_dice a1 = some E) : k_MT l yX9_dieLeft wsX9_dieLeft rmT9_dieLeft D (kT cI cJ cC cG) sz ([.ref h9, .int a1] : List Value) (wX cI cJ cC cG h9 hn ap q ht h0 pa pb pc jk hasS cnt snp G c_mover c_phase c_dice c_stake c_cube c_pieces0 c_pieces1 c_score0 c_score1 c_hits0 c_hits1 c_stopped c_stopPart t_signs t_length)  E := by
  refine k_st_T (cc := cX9_dieLeft) (maxL := 2) (by decide) rfl (Nat.le_of_ble_eq_true rfl) ?_
  intro p e z m below meth c A hx hb hr hml hts hown hlocks hsz hN hA hK hP hD hS hq hex ls hl
  have hown : z.vm.findClass RX9 = some m.cls := hown
  have hinX1 : ∀ w ∈ wsX10, w ∈ wsX9_dieLeft := by decide +kernel
  have hinX9 : ∀ w ∈ wsX90, w ∈ wsX9_dieLeft := by decide +kernel
  have fl10 := hts (.fieldLink RX9 10 "MagpieRuns" "now" "LMagpieRuns$Game;") (by decide +kernel)
  have fl61 := hts (.fieldLink RX9 61 "MagpieRuns$Game" "dice" "I") (by decide +kernel)
  have hl : lv_has ls 2 [(0, .ref h9), (1, .int a1)] := hl
  have J_18 : ∀ (H : Heap) (locs : List Loc), va_P D vwCl (wX cI cJ cC cG h9 hn ap q ht h0 pa pb pc jk hasS cnt snp G c_mover c_phase c_dice c_stake c_cube c_pieces0 c_pieces1 c_score0 c_score1 c_hits0 c_hits1 c_stopped c_stopPart t_signs t_length) H → va_D A (wX cI cJ cC cG h9 hn ap q ht h0 pa pb pc jk hasS cnt snp G c_mover c_phase c_dice c_stake c_cube c_pieces0 c_pieces1 c_score0 c_score1 c_hits0 c_hits1 c_stopped c_stopPart t_signs t_length) → va_S A z.heap H locs → ∀ ls : Array Slot, lv_has ls 2 [] → mT9_dieLeft_18 c_dice a1  = some E → W p l e rmT9_dieLeft z m ([.ref h9, .int a1] : List Value).toArray below meth c H locs 0 0 (k_QT below ([.ref h9, .int a1] : List Value) D (kT cI cJ cC cG) z A (wX cI cJ cC cG h9 hn ap q ht h0 pa pb pc jk hasS cnt snp G c_mover c_phase c_dice c_stake c_cube c_pieces0 c_pieces1 c_score0 c_score1 c_hits0 c_hits1 c_stopped c_stopPart t_signs t_length) E) (F0 m 18 ls []) := by
    intro  H locs hP hD hS ls hl hm
    unfold mT9_dieLeft_18 at hm
    cases hm
    exact k_throw (own := RX9) (ik := 72) (ic := 74) (cls := "java/lang/IndexOutOfBoundsException") hx hb hst hown (hts (.classLink RX9 72 "java/lang/IndexOutOfBoundsException") (by decide +kernel)) (hts (.initialized "java/lang/IndexOutOfBoundsException") (by decide +kernel)) (fun w hw => hts w (List.mem_cons_of_mem _ (by simp only [List.mem_append]; simp only [hw, or_true, true_or]))) (by decide +kernel) (by decide +kernel) (by decide +kernel) hq hS (hl.1.trans hml.symm) dX9_dieLeft_18 dX9_dieLeft_21 dX9_dieLeft_22 dX9_dieLeft_25 (fun x hx => (hex x hx).elim) (Nat.le_of_ble_eq_true rfl) (Nat.le_of_ble_eq_true rfl) (Nat.le_of_ble_eq_true rfl) (Nat.le_of_ble_eq_true rfl) hlocks hK hP hD
  unfold mT9_dieLeft at hm
  refine lv_iload_n hx hb dX9_dieLeft_0 rfl (lv_at hl 1 rfl) ?_
  refine lv_if_lt (tgt := 18) hx hb dX9_dieLeft_1 (by decide) (fun cc1 => ?_) (fun cc1 => ?_)
  · have hm := k_ip cc1 hm
    exact J_18  _ _ hP hD hS _ (lv_sub hl [] rfl) hm
  · have hm := k_in cc1 hm
    refine lv_iload_n hx hb dX9_dieLeft_4 rfl (lv_at hl 1 rfl) ?_
    refine lv_aload_n hx hb dX9_dieLeft_5 rfl (lv_at hl 0 rfl) ?_
    refine va_get (D := D) (ci := 5) (v := .ref hn) (C := RX9) (T := TX9) (N := 4) hx hb hts hinX9 hown hK hP 0 rfl rfl 0 (by decide) fl10 (fun _ h9 => h9) rfl dX9_dieLeft_6 ?_
    refine va_get (D := D) (ci := 0) (v := .int c_dice) (C := RX1) (T := TX1) (N := 13) hx hb hts hinX1 hown hK hP 1 rfl rfl 2 (by decide) fl61 (fun _ h9 => h9) rfl dX9_dieLeft_9 ?_
    obtain ⟨r1, hc12, hm⟩ := k_bds hm
    refine k_i_0 (k_rS (As := [.int c_dice]) (rest := [.int a1]) ⟨hx, hb, hml, hown, hts⟩ hK hN k_P0 (k_D0 (A := A)) (zX0_count hc12) (va_cwS 1 hts gX9_dieLeft_X0_count rfl rfl rfl (by decide +kernel) ⟨Nat.le_of_ble_eq_true rfl, Nat.le_of_ble_eq_true rfl⟩) rfl hl.1 rfl (Nat.le_of_ble_eq_true rfl) dX9_dieLeft_12 ⟨Nat.zero_le _, Nat.zero_le _⟩) hP hS hA (fun H locs hP hS => ?_)
    refine lv_icmp_lt (tgt := 26) hx hb dX9_dieLeft_15 (by decide) (fun cc15 => ?_) (fun cc15 => ?_)
    · have hm := k_ip cc15 hm
      refine lv_aload_n hx hb dX9_dieLeft_26 rfl (lv_at hl 0 rfl) ?_
      refine va_get (D := D) (ci := 5) (v := .ref hn) (C := RX9) (T := TX9) (N := 4) hx hb hts hinX9 hown hK hP 0 rfl rfl 0 (by decide) fl10 (fun _ h9 => h9) rfl dX9_dieLeft_27 ?_
      refine va_get (D := D) (ci := 0) (v := .int c_dice) (C := RX1) (T := TX1) (N := 13) hx hb hts hinX1 hown hK hP 1 rfl rfl 2 (by decide) fl61 (fun _ h9 => h9) rfl dX9_dieLeft_30 ?_
      refine lv_iload_n hx hb dX9_dieLeft_33 rfl (lv_at hl 1 rfl) ?_
      obtain ⟨r2, hc34, hm⟩ := k_bds hm
      refine k_i_0 (k_rS (As := [.int c_dice, .int a1]) (rest := []) ⟨hx, hb, hml, hown, hts⟩ hK hN k_P0 (k_D0 (A := A)) (zX0_at hc34) (va_cwS 2 hts gX9_dieLeft_X0_at rfl rfl rfl (by decide +kernel) ⟨Nat.le_of_ble_eq_true rfl, Nat.le_of_ble_eq_true rfl⟩) rfl hl.1 rfl (Nat.le_of_ble_eq_true rfl) dX9_dieLeft_34 ⟨Nat.zero_le _, Nat.zero_le _⟩) hP hS hA (fun H locs hP hS => ?_)
      cases hm
    · have hm := k_in cc15 hm
      exact J_18  _ _ hP hD hS _ (lv_sub hl [] rfl) hm

abbrev rmT9_piecesOn : Room := { frames := 6, cells := 1, slots := 6, locals := 81 }
set_option maxHeartbeats 4000000 in
set_option maxRecDepth 100000 in
theorem zT9_piecesOn {l : Launch} {D : va_G} {cI cJ cC cG : ClassId} {sz : Nat} {h9 hn h0 : Nat} {ap q ht pa pb pc : Nat → Nat} {jk : JT} {hasS : Bool} {cnt : Int32} {snp : GT} {G : Nat → GT} {c_mover : Int32} {c_phase : Int32} {c_dice : Int32} {c_stake : Int32} {c_cube : Int32} {c_pieces0 : Int64} {c_pieces1 : Int64} {c_score0 : Int32} {c_score1 : Int32} {c_hits0 : Int32} {c_hits1 : Int32} {c_stopped : Bool} {c_stopPart : Int32} {t_signs : Nat → Int32} {t_length : Int32} {a1 : Int32} {a2 : Int32} {E : String} (hst : l.stackTraces = false) (hm : mT9_piecesOn c_pieces0 c_pieces1 a1 a2 = some E) : k_MT l yX9_piecesOn wsX9_piecesOn rmT9_piecesOn D (kT cI cJ cC cG) sz ([.ref h9, .int a1, .int a2] : List Value) (wX cI cJ cC cG h9 hn ap q ht h0 pa pb pc jk hasS cnt snp G c_mover c_phase c_dice c_stake c_cube c_pieces0 c_pieces1 c_score0 c_score1 c_hits0 c_hits1 c_stopped c_stopPart t_signs t_length)  E := by
  refine k_st_T (cc := cX9_piecesOn) (maxL := 3) (by decide) rfl (Nat.le_of_ble_eq_true rfl) ?_
  intro p e z m below meth c A hx hb hr hml hts hown hlocks hsz hN hA hK hP hD hS hq hex ls hl
  have hown : z.vm.findClass RX9 = some m.cls := hown
  have hinX9 : ∀ w ∈ wsX90, w ∈ wsX9_piecesOn := by decide +kernel
  have fl10 := hts (.fieldLink RX9 10 "MagpieRuns" "now" "LMagpieRuns$Game;") (by decide +kernel)
  have hl : lv_has ls 3 [(0, .ref h9), (1, .int a1), (2, .int a2)] := hl
  have J_14 : ∀ (H : Heap) (locs : List Loc), va_P D vwCl (wX cI cJ cC cG h9 hn ap q ht h0 pa pb pc jk hasS cnt snp G c_mover c_phase c_dice c_stake c_cube c_pieces0 c_pieces1 c_score0 c_score1 c_hits0 c_hits1 c_stopped c_stopPart t_signs t_length) H → va_D A (wX cI cJ cC cG h9 hn ap q ht h0 pa pb pc jk hasS cnt snp G c_mover c_phase c_dice c_stake c_cube c_pieces0 c_pieces1 c_score0 c_score1 c_hits0 c_hits1 c_stopped c_stopPart t_signs t_length) → va_S A z.heap H locs → ∀ ls : Array Slot, lv_has ls 3 [] → mT9_piecesOn_14 c_pieces0 c_pieces1 a1 a2  = some E → W p l e rmT9_piecesOn z m ([.ref h9, .int a1, .int a2] : List Value).toArray below meth c H locs 0 0 (k_QT below ([.ref h9, .int a1, .int a2] : List Value) D (kT cI cJ cC cG) z A (wX cI cJ cC cG h9 hn ap q ht h0 pa pb pc jk hasS cnt snp G c_mover c_phase c_dice c_stake c_cube c_pieces0 c_pieces1 c_score0 c_score1 c_hits0 c_hits1 c_stopped c_stopPart t_signs t_length) E) (F0 m 14 ls []) := by
    intro  H locs hP hD hS ls hl hm
    unfold mT9_piecesOn_14 at hm
    cases hm
    exact k_throw (own := RX9) (ik := 72) (ic := 74) (cls := "java/lang/IndexOutOfBoundsException") hx hb hst hown (hts (.classLink RX9 72 "java/lang/IndexOutOfBoundsException") (by decide +kernel)) (hts (.initialized "java/lang/IndexOutOfBoundsException") (by decide +kernel)) (fun w hw => hts w (List.mem_cons_of_mem _ (by simp only [List.mem_append]; simp only [hw, or_true, true_or]))) (by decide +kernel) (by decide +kernel) (by decide +kernel) hq hS (hl.1.trans hml.symm) dX9_piecesOn_14 dX9_piecesOn_17 dX9_piecesOn_18 dX9_piecesOn_21 (fun x hx => (hex x hx).elim) (Nat.le_of_ble_eq_true rfl) (Nat.le_of_ble_eq_true rfl) (Nat.le_of_ble_eq_true rfl) (Nat.le_of_ble_eq_true rfl) hlocks hK hP hD
  unfold mT9_piecesOn at hm
  refine lv_iload_n hx hb dX9_piecesOn_0 rfl (lv_at hl 1 rfl) ?_
  obtain ⟨r1, hc1, hm⟩ := k_bds hm
  refine k_i_0 (k_rS (As := [.int a1]) (rest := []) ⟨hx, hb, hml, hown, hts⟩ hK hN k_P0 (k_D0 (A := A)) (zX9_isPlayer hc1) (va_cwS 1 hts gX9_piecesOn_X9_isPlayer rfl rfl rfl (by decide +kernel) ⟨Nat.le_of_ble_eq_true rfl, Nat.le_of_ble_eq_true rfl⟩) rfl hl.1 rfl (Nat.le_of_ble_eq_true rfl) dX9_piecesOn_1 ⟨Nat.zero_le _, Nat.zero_le _⟩) hP hS hA (fun H locs hP hS => ?_)
  refine lv_if_eq (tgt := 14) hx hb dX9_piecesOn_4 (by decide) (fun cc4 => ?_) (fun cc4 => ?_)
  · have hm := k_ip cc4 hm
    exact J_14  _ _ hP hD hS _ (lv_sub hl [] rfl) hm
  · have hm := k_in cc4 hm
    refine lv_iload_n hx hb dX9_piecesOn_7 rfl (lv_at hl 2 rfl) ?_
    obtain ⟨r2, hc8, hm⟩ := k_bds hm
    refine k_i_0 (k_rS (As := [.int a2]) (rest := []) ⟨hx, hb, hml, hown, hts⟩ hK hN k_P0 (k_D0 (A := A)) (zX9_isPoint hc8) (va_cwS 1 hts gX9_piecesOn_X9_isPoint rfl rfl rfl (by decide +kernel) ⟨Nat.le_of_ble_eq_true rfl, Nat.le_of_ble_eq_true rfl⟩) rfl hl.1 rfl (Nat.le_of_ble_eq_true rfl) dX9_piecesOn_8 ⟨Nat.zero_le _, Nat.zero_le _⟩) hP hS hA (fun H locs hP hS => ?_)
    refine lv_if_ne (tgt := 22) hx hb dX9_piecesOn_11 (by decide) (fun cc11 => ?_) (fun cc11 => ?_)
    · have hm := k_in cc11 hm
      refine lv_aload_n hx hb dX9_piecesOn_22 rfl (lv_at hl 0 rfl) ?_
      refine va_get (D := D) (ci := 5) (v := .ref hn) (C := RX9) (T := TX9) (N := 4) hx hb hts hinX9 hown hK hP 0 rfl rfl 0 (by decide) fl10 (fun _ h9 => h9) rfl dX9_piecesOn_23 ?_
      refine lv_iload_n hx hb dX9_piecesOn_26 rfl (lv_at hl 1 rfl) ?_
      refine lv_iload_n hx hb dX9_piecesOn_27 rfl (lv_at hl 2 rfl) ?_
      obtain ⟨r3, hc28, hm⟩ := k_bds hm
      have hPc : va_P D vwCl (wG hn c_mover c_phase c_dice c_stake c_cube c_pieces0 c_pieces1 c_score0 c_score1 c_hits0 c_hits1 c_stopped c_stopPart) _ := k_Psub hP [1] rfl
      have hDc : va_D A (wG hn c_mover c_phase c_dice c_stake c_cube c_pieces0 c_pieces1 c_score0 c_score1 c_hits0 c_hits1 c_stopped c_stopPart) := hD.sub [1] (by decide) rfl
      refine k_i_c (Wf := (wX cI cJ cC cG h9 hn ap q ht h0 pa pb pc jk hasS cnt snp G c_mover c_phase c_dice c_stake c_cube c_pieces0 c_pieces1 c_score0 c_score1 c_hits0 c_hits1 c_stopped c_stopPart t_signs t_length)) [1] [0, 2, 3, 4, 5, 6, 7, 8, 9, 10, 11, 12, 13, 14, 15, 16, 17, 18, 19, 20, 21, 22, 23, 24] [0, 24, 1, 2, 3, 4, 5, 6, 7, 8, 9, 10, 11, 12, 13, 14, 15, 16, 17, 18, 19, 20, 21, 22, 23] (k_rV (As := [.int a1, .int a2]) (rest := []) ⟨hx, hb, hml, hown, hts⟩ hK hN hPc hDc (zX1_countAt hc28) (cwV 2 hts gX9_piecesOn_X1_countAt rfl rfl rfl (by decide +kernel) ⟨Nat.le_of_ble_eq_true rfl, Nat.le_of_ble_eq_true rfl⟩) rfl rfl rfl hl.1 rfl (Nat.le_of_ble_eq_true rfl) dX9_piecesOn_28 ⟨Nat.zero_le _, Nat.zero_le _⟩) hP hD hS hA rfl rfl (by decide) (by decide) rfl (by decide) (fun H locs hP hD hS => ?_)
      cases hm
    · have hm := k_ip cc11 hm
      exact J_14  _ _ hP hD hS _ (lv_sub hl [] rfl) hm

abbrev rmT9_onBar : Room := { frames := 6, cells := 1, slots := 6, locals := 81 }
set_option maxHeartbeats 4000000 in
set_option maxRecDepth 100000 in
theorem zT9_onBar {l : Launch} {D : va_G} {cI cJ cC cG : ClassId} {sz : Nat} {h9 hn h0 : Nat} {ap q ht pa pb pc : Nat → Nat} {jk : JT} {hasS : Bool} {cnt : Int32} {snp : GT} {G : Nat → GT} {c_mover : Int32} {c_phase : Int32} {c_dice : Int32} {c_stake : Int32} {c_cube : Int32} {c_pieces0 : Int64} {c_pieces1 : Int64} {c_score0 : Int32} {c_score1 : Int32} {c_hits0 : Int32} {c_hits1 : Int32} {c_stopped : Bool} {c_stopPart : Int32} {t_signs : Nat → Int32} {t_length : Int32} {a1 : Int32} {E : String} (hst : l.stackTraces = false) (hm : mT9_onBar c_pieces0 c_pieces1 a1 = some E) : k_MT l yX9_onBar wsX9_onBar rmT9_onBar D (kT cI cJ cC cG) sz ([.ref h9, .int a1] : List Value) (wX cI cJ cC cG h9 hn ap q ht h0 pa pb pc jk hasS cnt snp G c_mover c_phase c_dice c_stake c_cube c_pieces0 c_pieces1 c_score0 c_score1 c_hits0 c_hits1 c_stopped c_stopPart t_signs t_length)  E := by
  refine k_st_T (cc := cX9_onBar) (maxL := 2) (by decide) rfl (Nat.le_of_ble_eq_true rfl) ?_
  intro p e z m below meth c A hx hb hr hml hts hown hlocks hsz hN hA hK hP hD hS hq hex ls hl
  have hown : z.vm.findClass RX9 = some m.cls := hown
  have hinX9 : ∀ w ∈ wsX90, w ∈ wsX9_onBar := by decide +kernel
  have fl10 := hts (.fieldLink RX9 10 "MagpieRuns" "now" "LMagpieRuns$Game;") (by decide +kernel)
  have hl : lv_has ls 2 [(0, .ref h9), (1, .int a1)] := hl
  unfold mT9_onBar at hm
  refine lv_iload_n hx hb dX9_onBar_0 rfl (lv_at hl 1 rfl) ?_
  obtain ⟨r1, hc1, hm⟩ := k_bds hm
  refine k_i_0 (k_rS (As := [.int a1]) (rest := []) ⟨hx, hb, hml, hown, hts⟩ hK hN k_P0 (k_D0 (A := A)) (zX9_isPlayer hc1) (va_cwS 1 hts gX9_onBar_X9_isPlayer rfl rfl rfl (by decide +kernel) ⟨Nat.le_of_ble_eq_true rfl, Nat.le_of_ble_eq_true rfl⟩) rfl hl.1 rfl (Nat.le_of_ble_eq_true rfl) dX9_onBar_1 ⟨Nat.zero_le _, Nat.zero_le _⟩) hP hS hA (fun H locs hP hS => ?_)
  refine lv_if_ne (tgt := 15) hx hb dX9_onBar_4 (by decide) (fun cc4 => ?_) (fun cc4 => ?_)
  · have hm := k_in cc4 hm
    refine lv_aload_n hx hb dX9_onBar_15 rfl (lv_at hl 0 rfl) ?_
    refine va_get (D := D) (ci := 5) (v := .ref hn) (C := RX9) (T := TX9) (N := 4) hx hb hts hinX9 hown hK hP 0 rfl rfl 0 (by decide) fl10 (fun _ h9 => h9) rfl dX9_onBar_16 ?_
    refine lv_iload_n hx hb dX9_onBar_19 rfl (lv_at hl 1 rfl) ?_
    obtain ⟨r2, hc20, hm⟩ := k_bds hm
    have hPc : va_P D vwCl (wG hn c_mover c_phase c_dice c_stake c_cube c_pieces0 c_pieces1 c_score0 c_score1 c_hits0 c_hits1 c_stopped c_stopPart) _ := k_Psub hP [1] rfl
    have hDc : va_D A (wG hn c_mover c_phase c_dice c_stake c_cube c_pieces0 c_pieces1 c_score0 c_score1 c_hits0 c_hits1 c_stopped c_stopPart) := hD.sub [1] (by decide) rfl
    refine k_l_c (Wf := (wX cI cJ cC cG h9 hn ap q ht h0 pa pb pc jk hasS cnt snp G c_mover c_phase c_dice c_stake c_cube c_pieces0 c_pieces1 c_score0 c_score1 c_hits0 c_hits1 c_stopped c_stopPart t_signs t_length)) [1] [0, 2, 3, 4, 5, 6, 7, 8, 9, 10, 11, 12, 13, 14, 15, 16, 17, 18, 19, 20, 21, 22, 23, 24] [0, 24, 1, 2, 3, 4, 5, 6, 7, 8, 9, 10, 11, 12, 13, 14, 15, 16, 17, 18, 19, 20, 21, 22, 23] (k_rV (As := [.int a1]) (rest := []) ⟨hx, hb, hml, hown, hts⟩ hK hN hPc hDc (zX1_piecesOf hc20) (cwV 1 hts gX9_onBar_X1_piecesOf rfl rfl rfl (by decide +kernel) ⟨Nat.le_of_ble_eq_true rfl, Nat.le_of_ble_eq_true rfl⟩) rfl rfl rfl hl.1 rfl (Nat.le_of_ble_eq_true rfl) dX9_onBar_20 ⟨Nat.zero_le _, Nat.zero_le _⟩) hP hD hS hA rfl rfl (by decide) (by decide) rfl (by decide) (fun H locs hP hD hS => ?_)
    refine lv_bipush (v := 17) hx hb dX9_onBar_23 (by decide) ?_
    obtain ⟨r3, hc25, hm⟩ := k_bds hm
    refine k_i_0 (k_rS (As := [.long r2, .int 17]) (rest := []) ⟨hx, hb, hml, hown, hts⟩ hK hN k_P0 (k_D0 (A := A)) (zX3_on hc25) (va_cwS 2 hts gX9_onBar_X3_on rfl rfl rfl (by decide +kernel) ⟨Nat.le_of_ble_eq_true rfl, Nat.le_of_ble_eq_true rfl⟩) rfl hl.1 rfl (Nat.le_of_ble_eq_true rfl) dX9_onBar_25 ⟨Nat.zero_le _, Nat.zero_le _⟩) hP hS hA (fun H locs hP hS => ?_)
    cases hm
  · have hm := k_ip cc4 hm
    cases hm
    exact k_throw (own := RX9) (ik := 72) (ic := 74) (cls := "java/lang/IndexOutOfBoundsException") hx hb hst hown (hts (.classLink RX9 72 "java/lang/IndexOutOfBoundsException") (by decide +kernel)) (hts (.initialized "java/lang/IndexOutOfBoundsException") (by decide +kernel)) (fun w hw => hts w (List.mem_cons_of_mem _ (by simp only [List.mem_append]; simp only [hw, or_true, true_or]))) (by decide +kernel) (by decide +kernel) (by decide +kernel) hq hS (hl.1.trans hml.symm) dX9_onBar_7 dX9_onBar_10 dX9_onBar_11 dX9_onBar_14 (fun x hx => (hex x hx).elim) (Nat.le_of_ble_eq_true rfl) (Nat.le_of_ble_eq_true rfl) (Nat.le_of_ble_eq_true rfl) (Nat.le_of_ble_eq_true rfl) hlocks hK hP hD

abbrev rmT9_borneOff : Room := { frames := 6, cells := 1, slots := 6, locals := 81 }
set_option maxHeartbeats 4000000 in
set_option maxRecDepth 100000 in
theorem zT9_borneOff {l : Launch} {D : va_G} {cI cJ cC cG : ClassId} {sz : Nat} {h9 hn h0 : Nat} {ap q ht pa pb pc : Nat → Nat} {jk : JT} {hasS : Bool} {cnt : Int32} {snp : GT} {G : Nat → GT} {c_mover : Int32} {c_phase : Int32} {c_dice : Int32} {c_stake : Int32} {c_cube : Int32} {c_pieces0 : Int64} {c_pieces1 : Int64} {c_score0 : Int32} {c_score1 : Int32} {c_hits0 : Int32} {c_hits1 : Int32} {c_stopped : Bool} {c_stopPart : Int32} {t_signs : Nat → Int32} {t_length : Int32} {a1 : Int32} {E : String} (hst : l.stackTraces = false) (hm : mT9_borneOff c_pieces0 c_pieces1 a1 = some E) : k_MT l yX9_borneOff wsX9_borneOff rmT9_borneOff D (kT cI cJ cC cG) sz ([.ref h9, .int a1] : List Value) (wX cI cJ cC cG h9 hn ap q ht h0 pa pb pc jk hasS cnt snp G c_mover c_phase c_dice c_stake c_cube c_pieces0 c_pieces1 c_score0 c_score1 c_hits0 c_hits1 c_stopped c_stopPart t_signs t_length)  E := by
  refine k_st_T (cc := cX9_borneOff) (maxL := 2) (by decide) rfl (Nat.le_of_ble_eq_true rfl) ?_
  intro p e z m below meth c A hx hb hr hml hts hown hlocks hsz hN hA hK hP hD hS hq hex ls hl
  have hown : z.vm.findClass RX9 = some m.cls := hown
  have hinX9 : ∀ w ∈ wsX90, w ∈ wsX9_borneOff := by decide +kernel
  have fl10 := hts (.fieldLink RX9 10 "MagpieRuns" "now" "LMagpieRuns$Game;") (by decide +kernel)
  have hl : lv_has ls 2 [(0, .ref h9), (1, .int a1)] := hl
  unfold mT9_borneOff at hm
  refine lv_iload_n hx hb dX9_borneOff_0 rfl (lv_at hl 1 rfl) ?_
  obtain ⟨r1, hc1, hm⟩ := k_bds hm
  refine k_i_0 (k_rS (As := [.int a1]) (rest := []) ⟨hx, hb, hml, hown, hts⟩ hK hN k_P0 (k_D0 (A := A)) (zX9_isPlayer hc1) (va_cwS 1 hts gX9_borneOff_X9_isPlayer rfl rfl rfl (by decide +kernel) ⟨Nat.le_of_ble_eq_true rfl, Nat.le_of_ble_eq_true rfl⟩) rfl hl.1 rfl (Nat.le_of_ble_eq_true rfl) dX9_borneOff_1 ⟨Nat.zero_le _, Nat.zero_le _⟩) hP hS hA (fun H locs hP hS => ?_)
  refine lv_if_ne (tgt := 15) hx hb dX9_borneOff_4 (by decide) (fun cc4 => ?_) (fun cc4 => ?_)
  · have hm := k_in cc4 hm
    refine lv_aload_n hx hb dX9_borneOff_15 rfl (lv_at hl 0 rfl) ?_
    refine va_get (D := D) (ci := 5) (v := .ref hn) (C := RX9) (T := TX9) (N := 4) hx hb hts hinX9 hown hK hP 0 rfl rfl 0 (by decide) fl10 (fun _ h9 => h9) rfl dX9_borneOff_16 ?_
    refine lv_iload_n hx hb dX9_borneOff_19 rfl (lv_at hl 1 rfl) ?_
    obtain ⟨r2, hc20, hm⟩ := k_bds hm
    have hPc : va_P D vwCl (wG hn c_mover c_phase c_dice c_stake c_cube c_pieces0 c_pieces1 c_score0 c_score1 c_hits0 c_hits1 c_stopped c_stopPart) _ := k_Psub hP [1] rfl
    have hDc : va_D A (wG hn c_mover c_phase c_dice c_stake c_cube c_pieces0 c_pieces1 c_score0 c_score1 c_hits0 c_hits1 c_stopped c_stopPart) := hD.sub [1] (by decide) rfl
    refine k_l_c (Wf := (wX cI cJ cC cG h9 hn ap q ht h0 pa pb pc jk hasS cnt snp G c_mover c_phase c_dice c_stake c_cube c_pieces0 c_pieces1 c_score0 c_score1 c_hits0 c_hits1 c_stopped c_stopPart t_signs t_length)) [1] [0, 2, 3, 4, 5, 6, 7, 8, 9, 10, 11, 12, 13, 14, 15, 16, 17, 18, 19, 20, 21, 22, 23, 24] [0, 24, 1, 2, 3, 4, 5, 6, 7, 8, 9, 10, 11, 12, 13, 14, 15, 16, 17, 18, 19, 20, 21, 22, 23] (k_rV (As := [.int a1]) (rest := []) ⟨hx, hb, hml, hown, hts⟩ hK hN hPc hDc (zX1_piecesOf hc20) (cwV 1 hts gX9_borneOff_X1_piecesOf rfl rfl rfl (by decide +kernel) ⟨Nat.le_of_ble_eq_true rfl, Nat.le_of_ble_eq_true rfl⟩) rfl rfl rfl hl.1 rfl (Nat.le_of_ble_eq_true rfl) dX9_borneOff_20 ⟨Nat.zero_le _, Nat.zero_le _⟩) hP hD hS hA rfl rfl (by decide) (by decide) rfl (by decide) (fun H locs hP hD hS => ?_)
    refine lv_iconst (v := 0) hx hb dX9_borneOff_23 (by decide) ?_
    obtain ⟨r3, hc24, hm⟩ := k_bds hm
    refine k_i_0 (k_rS (As := [.long r2, .int 0]) (rest := []) ⟨hx, hb, hml, hown, hts⟩ hK hN k_P0 (k_D0 (A := A)) (zX3_on hc24) (va_cwS 2 hts gX9_borneOff_X3_on rfl rfl rfl (by decide +kernel) ⟨Nat.le_of_ble_eq_true rfl, Nat.le_of_ble_eq_true rfl⟩) rfl hl.1 rfl (Nat.le_of_ble_eq_true rfl) dX9_borneOff_24 ⟨Nat.zero_le _, Nat.zero_le _⟩) hP hS hA (fun H locs hP hS => ?_)
    cases hm
  · have hm := k_ip cc4 hm
    cases hm
    exact k_throw (own := RX9) (ik := 72) (ic := 74) (cls := "java/lang/IndexOutOfBoundsException") hx hb hst hown (hts (.classLink RX9 72 "java/lang/IndexOutOfBoundsException") (by decide +kernel)) (hts (.initialized "java/lang/IndexOutOfBoundsException") (by decide +kernel)) (fun w hw => hts w (List.mem_cons_of_mem _ (by simp only [List.mem_append]; simp only [hw, or_true, true_or]))) (by decide +kernel) (by decide +kernel) (by decide +kernel) hq hS (hl.1.trans hml.symm) dX9_borneOff_7 dX9_borneOff_10 dX9_borneOff_11 dX9_borneOff_14 (fun x hx => (hex x hx).elim) (Nat.le_of_ble_eq_true rfl) (Nat.le_of_ble_eq_true rfl) (Nat.le_of_ble_eq_true rfl) (Nat.le_of_ble_eq_true rfl) hlocks hK hP hD

abbrev rmT9_pips : Room := { frames := 6, cells := 1, slots := 6, locals := 81 }
set_option maxHeartbeats 4000000 in
set_option maxRecDepth 100000 in
theorem zT9_pips {l : Launch} {D : va_G} {cI cJ cC cG : ClassId} {sz : Nat} {h9 hn h0 : Nat} {ap q ht pa pb pc : Nat → Nat} {jk : JT} {hasS : Bool} {cnt : Int32} {snp : GT} {G : Nat → GT} {c_mover : Int32} {c_phase : Int32} {c_dice : Int32} {c_stake : Int32} {c_cube : Int32} {c_pieces0 : Int64} {c_pieces1 : Int64} {c_score0 : Int32} {c_score1 : Int32} {c_hits0 : Int32} {c_hits1 : Int32} {c_stopped : Bool} {c_stopPart : Int32} {t_signs : Nat → Int32} {t_length : Int32} {a1 : Int32} {E : String} (hst : l.stackTraces = false) (hm : mT9_pips c_pieces0 c_pieces1 a1 = some E) : k_MT l yX9_pips wsX9_pips rmT9_pips D (kT cI cJ cC cG) sz ([.ref h9, .int a1] : List Value) (wX cI cJ cC cG h9 hn ap q ht h0 pa pb pc jk hasS cnt snp G c_mover c_phase c_dice c_stake c_cube c_pieces0 c_pieces1 c_score0 c_score1 c_hits0 c_hits1 c_stopped c_stopPart t_signs t_length)  E := by
  refine k_st_T (cc := cX9_pips) (maxL := 2) (by decide) rfl (Nat.le_of_ble_eq_true rfl) ?_
  intro p e z m below meth c A hx hb hr hml hts hown hlocks hsz hN hA hK hP hD hS hq hex ls hl
  have hown : z.vm.findClass RX9 = some m.cls := hown
  have hinX9 : ∀ w ∈ wsX90, w ∈ wsX9_pips := by decide +kernel
  have fl10 := hts (.fieldLink RX9 10 "MagpieRuns" "now" "LMagpieRuns$Game;") (by decide +kernel)
  have hl : lv_has ls 2 [(0, .ref h9), (1, .int a1)] := hl
  unfold mT9_pips at hm
  refine lv_iload_n hx hb dX9_pips_0 rfl (lv_at hl 1 rfl) ?_
  obtain ⟨r1, hc1, hm⟩ := k_bds hm
  refine k_i_0 (k_rS (As := [.int a1]) (rest := []) ⟨hx, hb, hml, hown, hts⟩ hK hN k_P0 (k_D0 (A := A)) (zX9_isPlayer hc1) (va_cwS 1 hts gX9_pips_X9_isPlayer rfl rfl rfl (by decide +kernel) ⟨Nat.le_of_ble_eq_true rfl, Nat.le_of_ble_eq_true rfl⟩) rfl hl.1 rfl (Nat.le_of_ble_eq_true rfl) dX9_pips_1 ⟨Nat.zero_le _, Nat.zero_le _⟩) hP hS hA (fun H locs hP hS => ?_)
  refine lv_if_ne (tgt := 15) hx hb dX9_pips_4 (by decide) (fun cc4 => ?_) (fun cc4 => ?_)
  · have hm := k_in cc4 hm
    refine lv_aload_n hx hb dX9_pips_15 rfl (lv_at hl 0 rfl) ?_
    refine va_get (D := D) (ci := 5) (v := .ref hn) (C := RX9) (T := TX9) (N := 4) hx hb hts hinX9 hown hK hP 0 rfl rfl 0 (by decide) fl10 (fun _ h9 => h9) rfl dX9_pips_16 ?_
    refine lv_iload_n hx hb dX9_pips_19 rfl (lv_at hl 1 rfl) ?_
    obtain ⟨r2, hc20, hm⟩ := k_bds hm
    have hPc : va_P D vwCl (wG hn c_mover c_phase c_dice c_stake c_cube c_pieces0 c_pieces1 c_score0 c_score1 c_hits0 c_hits1 c_stopped c_stopPart) _ := k_Psub hP [1] rfl
    have hDc : va_D A (wG hn c_mover c_phase c_dice c_stake c_cube c_pieces0 c_pieces1 c_score0 c_score1 c_hits0 c_hits1 c_stopped c_stopPart) := hD.sub [1] (by decide) rfl
    refine k_l_c (Wf := (wX cI cJ cC cG h9 hn ap q ht h0 pa pb pc jk hasS cnt snp G c_mover c_phase c_dice c_stake c_cube c_pieces0 c_pieces1 c_score0 c_score1 c_hits0 c_hits1 c_stopped c_stopPart t_signs t_length)) [1] [0, 2, 3, 4, 5, 6, 7, 8, 9, 10, 11, 12, 13, 14, 15, 16, 17, 18, 19, 20, 21, 22, 23, 24] [0, 24, 1, 2, 3, 4, 5, 6, 7, 8, 9, 10, 11, 12, 13, 14, 15, 16, 17, 18, 19, 20, 21, 22, 23] (k_rV (As := [.int a1]) (rest := []) ⟨hx, hb, hml, hown, hts⟩ hK hN hPc hDc (zX1_piecesOf hc20) (cwV 1 hts gX9_pips_X1_piecesOf rfl rfl rfl (by decide +kernel) ⟨Nat.le_of_ble_eq_true rfl, Nat.le_of_ble_eq_true rfl⟩) rfl rfl rfl hl.1 rfl (Nat.le_of_ble_eq_true rfl) dX9_pips_20 ⟨Nat.zero_le _, Nat.zero_le _⟩) hP hD hS hA rfl rfl (by decide) (by decide) rfl (by decide) (fun H locs hP hD hS => ?_)
    obtain ⟨r3, hc23, hm⟩ := k_bds hm
    refine k_i_0 (k_rS (As := [.long r2]) (rest := []) ⟨hx, hb, hml, hown, hts⟩ hK hN k_P0 (k_D0 (A := A)) (zX3_sumOfWays hc23) (va_cwS 1 hts gX9_pips_X3_sumOfWays rfl rfl rfl (by decide +kernel) ⟨Nat.le_of_ble_eq_true rfl, Nat.le_of_ble_eq_true rfl⟩) rfl hl.1 rfl (Nat.le_of_ble_eq_true rfl) dX9_pips_23 ⟨Nat.zero_le _, Nat.zero_le _⟩) hP hS hA (fun H locs hP hS => ?_)
    cases hm
  · have hm := k_ip cc4 hm
    cases hm
    exact k_throw (own := RX9) (ik := 72) (ic := 74) (cls := "java/lang/IndexOutOfBoundsException") hx hb hst hown (hts (.classLink RX9 72 "java/lang/IndexOutOfBoundsException") (by decide +kernel)) (hts (.initialized "java/lang/IndexOutOfBoundsException") (by decide +kernel)) (fun w hw => hts w (List.mem_cons_of_mem _ (by simp only [List.mem_append]; simp only [hw, or_true, true_or]))) (by decide +kernel) (by decide +kernel) (by decide +kernel) hq hS (hl.1.trans hml.symm) dX9_pips_7 dX9_pips_10 dX9_pips_11 dX9_pips_14 (fun x hx => (hex x hx).elim) (Nat.le_of_ble_eq_true rfl) (Nat.le_of_ble_eq_true rfl) (Nat.le_of_ble_eq_true rfl) (Nat.le_of_ble_eq_true rfl) hlocks hK hP hD

abbrev rmT9_blots : Room := { frames := 6, cells := 1, slots := 6, locals := 81 }
set_option maxHeartbeats 4000000 in
set_option maxRecDepth 100000 in
theorem zT9_blots {l : Launch} {D : va_G} {cI cJ cC cG : ClassId} {sz : Nat} {h9 hn h0 : Nat} {ap q ht pa pb pc : Nat → Nat} {jk : JT} {hasS : Bool} {cnt : Int32} {snp : GT} {G : Nat → GT} {c_mover : Int32} {c_phase : Int32} {c_dice : Int32} {c_stake : Int32} {c_cube : Int32} {c_pieces0 : Int64} {c_pieces1 : Int64} {c_score0 : Int32} {c_score1 : Int32} {c_hits0 : Int32} {c_hits1 : Int32} {c_stopped : Bool} {c_stopPart : Int32} {t_signs : Nat → Int32} {t_length : Int32} {a1 : Int32} {E : String} (hst : l.stackTraces = false) (hm : mT9_blots c_pieces0 c_pieces1 a1 = some E) : k_MT l yX9_blots wsX9_blots rmT9_blots D (kT cI cJ cC cG) sz ([.ref h9, .int a1] : List Value) (wX cI cJ cC cG h9 hn ap q ht h0 pa pb pc jk hasS cnt snp G c_mover c_phase c_dice c_stake c_cube c_pieces0 c_pieces1 c_score0 c_score1 c_hits0 c_hits1 c_stopped c_stopPart t_signs t_length)  E := by
  refine k_st_T (cc := cX9_blots) (maxL := 2) (by decide) rfl (Nat.le_of_ble_eq_true rfl) ?_
  intro p e z m below meth c A hx hb hr hml hts hown hlocks hsz hN hA hK hP hD hS hq hex ls hl
  have hown : z.vm.findClass RX9 = some m.cls := hown
  have hinX9 : ∀ w ∈ wsX90, w ∈ wsX9_blots := by decide +kernel
  have fl10 := hts (.fieldLink RX9 10 "MagpieRuns" "now" "LMagpieRuns$Game;") (by decide +kernel)
  have hl : lv_has ls 2 [(0, .ref h9), (1, .int a1)] := hl
  unfold mT9_blots at hm
  refine lv_iload_n hx hb dX9_blots_0 rfl (lv_at hl 1 rfl) ?_
  obtain ⟨r1, hc1, hm⟩ := k_bds hm
  refine k_i_0 (k_rS (As := [.int a1]) (rest := []) ⟨hx, hb, hml, hown, hts⟩ hK hN k_P0 (k_D0 (A := A)) (zX9_isPlayer hc1) (va_cwS 1 hts gX9_blots_X9_isPlayer rfl rfl rfl (by decide +kernel) ⟨Nat.le_of_ble_eq_true rfl, Nat.le_of_ble_eq_true rfl⟩) rfl hl.1 rfl (Nat.le_of_ble_eq_true rfl) dX9_blots_1 ⟨Nat.zero_le _, Nat.zero_le _⟩) hP hS hA (fun H locs hP hS => ?_)
  refine lv_if_ne (tgt := 15) hx hb dX9_blots_4 (by decide) (fun cc4 => ?_) (fun cc4 => ?_)
  · have hm := k_in cc4 hm
    refine lv_aload_n hx hb dX9_blots_15 rfl (lv_at hl 0 rfl) ?_
    refine va_get (D := D) (ci := 5) (v := .ref hn) (C := RX9) (T := TX9) (N := 4) hx hb hts hinX9 hown hK hP 0 rfl rfl 0 (by decide) fl10 (fun _ h9 => h9) rfl dX9_blots_16 ?_
    refine lv_iload_n hx hb dX9_blots_19 rfl (lv_at hl 1 rfl) ?_
    obtain ⟨r2, hc20, hm⟩ := k_bds hm
    have hPc : va_P D vwCl (wG hn c_mover c_phase c_dice c_stake c_cube c_pieces0 c_pieces1 c_score0 c_score1 c_hits0 c_hits1 c_stopped c_stopPart) _ := k_Psub hP [1] rfl
    have hDc : va_D A (wG hn c_mover c_phase c_dice c_stake c_cube c_pieces0 c_pieces1 c_score0 c_score1 c_hits0 c_hits1 c_stopped c_stopPart) := hD.sub [1] (by decide) rfl
    refine k_l_c (Wf := (wX cI cJ cC cG h9 hn ap q ht h0 pa pb pc jk hasS cnt snp G c_mover c_phase c_dice c_stake c_cube c_pieces0 c_pieces1 c_score0 c_score1 c_hits0 c_hits1 c_stopped c_stopPart t_signs t_length)) [1] [0, 2, 3, 4, 5, 6, 7, 8, 9, 10, 11, 12, 13, 14, 15, 16, 17, 18, 19, 20, 21, 22, 23, 24] [0, 24, 1, 2, 3, 4, 5, 6, 7, 8, 9, 10, 11, 12, 13, 14, 15, 16, 17, 18, 19, 20, 21, 22, 23] (k_rV (As := [.int a1]) (rest := []) ⟨hx, hb, hml, hown, hts⟩ hK hN hPc hDc (zX1_piecesOf hc20) (cwV 1 hts gX9_blots_X1_piecesOf rfl rfl rfl (by decide +kernel) ⟨Nat.le_of_ble_eq_true rfl, Nat.le_of_ble_eq_true rfl⟩) rfl rfl rfl hl.1 rfl (Nat.le_of_ble_eq_true rfl) dX9_blots_20 ⟨Nat.zero_le _, Nat.zero_le _⟩) hP hD hS hA rfl rfl (by decide) (by decide) rfl (by decide) (fun H locs hP hD hS => ?_)
    obtain ⟨r3, hc23, hm⟩ := k_bds hm
    refine k_i_0 (k_rS (As := [.long r2]) (rest := []) ⟨hx, hb, hml, hown, hts⟩ hK hN k_P0 (k_D0 (A := A)) (zX3_singles hc23) (va_cwS 1 hts gX9_blots_X3_singles rfl rfl rfl (by decide +kernel) ⟨Nat.le_of_ble_eq_true rfl, Nat.le_of_ble_eq_true rfl⟩) rfl hl.1 rfl (Nat.le_of_ble_eq_true rfl) dX9_blots_23 ⟨Nat.zero_le _, Nat.zero_le _⟩) hP hS hA (fun H locs hP hS => ?_)
    cases hm
  · have hm := k_ip cc4 hm
    cases hm
    exact k_throw (own := RX9) (ik := 72) (ic := 74) (cls := "java/lang/IndexOutOfBoundsException") hx hb hst hown (hts (.classLink RX9 72 "java/lang/IndexOutOfBoundsException") (by decide +kernel)) (hts (.initialized "java/lang/IndexOutOfBoundsException") (by decide +kernel)) (fun w hw => hts w (List.mem_cons_of_mem _ (by simp only [List.mem_append]; simp only [hw, or_true, true_or]))) (by decide +kernel) (by decide +kernel) (by decide +kernel) hq hS (hl.1.trans hml.symm) dX9_blots_7 dX9_blots_10 dX9_blots_11 dX9_blots_14 (fun x hx => (hex x hx).elim) (Nat.le_of_ble_eq_true rfl) (Nat.le_of_ble_eq_true rfl) (Nat.le_of_ble_eq_true rfl) (Nat.le_of_ble_eq_true rfl) hlocks hK hP hD

abbrev rmT9_blockade : Room := { frames := 6, cells := 1, slots := 6, locals := 81 }
set_option maxHeartbeats 4000000 in
set_option maxRecDepth 100000 in
theorem zT9_blockade {l : Launch} {D : va_G} {cI cJ cC cG : ClassId} {sz : Nat} {h9 hn h0 : Nat} {ap q ht pa pb pc : Nat → Nat} {jk : JT} {hasS : Bool} {cnt : Int32} {snp : GT} {G : Nat → GT} {c_mover : Int32} {c_phase : Int32} {c_dice : Int32} {c_stake : Int32} {c_cube : Int32} {c_pieces0 : Int64} {c_pieces1 : Int64} {c_score0 : Int32} {c_score1 : Int32} {c_hits0 : Int32} {c_hits1 : Int32} {c_stopped : Bool} {c_stopPart : Int32} {t_signs : Nat → Int32} {t_length : Int32} {a1 : Int32} {E : String} (hst : l.stackTraces = false) (hm : mT9_blockade c_pieces0 c_pieces1 a1 = some E) : k_MT l yX9_blockade wsX9_blockade rmT9_blockade D (kT cI cJ cC cG) sz ([.ref h9, .int a1] : List Value) (wX cI cJ cC cG h9 hn ap q ht h0 pa pb pc jk hasS cnt snp G c_mover c_phase c_dice c_stake c_cube c_pieces0 c_pieces1 c_score0 c_score1 c_hits0 c_hits1 c_stopped c_stopPart t_signs t_length)  E := by
  refine k_st_T (cc := cX9_blockade) (maxL := 2) (by decide) rfl (Nat.le_of_ble_eq_true rfl) ?_
  intro p e z m below meth c A hx hb hr hml hts hown hlocks hsz hN hA hK hP hD hS hq hex ls hl
  have hown : z.vm.findClass RX9 = some m.cls := hown
  have hinX9 : ∀ w ∈ wsX90, w ∈ wsX9_blockade := by decide +kernel
  have fl10 := hts (.fieldLink RX9 10 "MagpieRuns" "now" "LMagpieRuns$Game;") (by decide +kernel)
  have hl : lv_has ls 2 [(0, .ref h9), (1, .int a1)] := hl
  unfold mT9_blockade at hm
  refine lv_iload_n hx hb dX9_blockade_0 rfl (lv_at hl 1 rfl) ?_
  obtain ⟨r1, hc1, hm⟩ := k_bds hm
  refine k_i_0 (k_rS (As := [.int a1]) (rest := []) ⟨hx, hb, hml, hown, hts⟩ hK hN k_P0 (k_D0 (A := A)) (zX9_isPlayer hc1) (va_cwS 1 hts gX9_blockade_X9_isPlayer rfl rfl rfl (by decide +kernel) ⟨Nat.le_of_ble_eq_true rfl, Nat.le_of_ble_eq_true rfl⟩) rfl hl.1 rfl (Nat.le_of_ble_eq_true rfl) dX9_blockade_1 ⟨Nat.zero_le _, Nat.zero_le _⟩) hP hS hA (fun H locs hP hS => ?_)
  refine lv_if_ne (tgt := 15) hx hb dX9_blockade_4 (by decide) (fun cc4 => ?_) (fun cc4 => ?_)
  · have hm := k_in cc4 hm
    refine lv_aload_n hx hb dX9_blockade_15 rfl (lv_at hl 0 rfl) ?_
    refine va_get (D := D) (ci := 5) (v := .ref hn) (C := RX9) (T := TX9) (N := 4) hx hb hts hinX9 hown hK hP 0 rfl rfl 0 (by decide) fl10 (fun _ h9 => h9) rfl dX9_blockade_16 ?_
    refine lv_iload_n hx hb dX9_blockade_19 rfl (lv_at hl 1 rfl) ?_
    obtain ⟨r2, hc20, hm⟩ := k_bds hm
    have hPc : va_P D vwCl (wG hn c_mover c_phase c_dice c_stake c_cube c_pieces0 c_pieces1 c_score0 c_score1 c_hits0 c_hits1 c_stopped c_stopPart) _ := k_Psub hP [1] rfl
    have hDc : va_D A (wG hn c_mover c_phase c_dice c_stake c_cube c_pieces0 c_pieces1 c_score0 c_score1 c_hits0 c_hits1 c_stopped c_stopPart) := hD.sub [1] (by decide) rfl
    refine k_l_c (Wf := (wX cI cJ cC cG h9 hn ap q ht h0 pa pb pc jk hasS cnt snp G c_mover c_phase c_dice c_stake c_cube c_pieces0 c_pieces1 c_score0 c_score1 c_hits0 c_hits1 c_stopped c_stopPart t_signs t_length)) [1] [0, 2, 3, 4, 5, 6, 7, 8, 9, 10, 11, 12, 13, 14, 15, 16, 17, 18, 19, 20, 21, 22, 23, 24] [0, 24, 1, 2, 3, 4, 5, 6, 7, 8, 9, 10, 11, 12, 13, 14, 15, 16, 17, 18, 19, 20, 21, 22, 23] (k_rV (As := [.int a1]) (rest := []) ⟨hx, hb, hml, hown, hts⟩ hK hN hPc hDc (zX1_piecesOf hc20) (cwV 1 hts gX9_blockade_X1_piecesOf rfl rfl rfl (by decide +kernel) ⟨Nat.le_of_ble_eq_true rfl, Nat.le_of_ble_eq_true rfl⟩) rfl rfl rfl hl.1 rfl (Nat.le_of_ble_eq_true rfl) dX9_blockade_20 ⟨Nat.zero_le _, Nat.zero_le _⟩) hP hD hS hA rfl rfl (by decide) (by decide) rfl (by decide) (fun H locs hP hD hS => ?_)
    obtain ⟨r3, hc23, hm⟩ := k_bds hm
    refine k_i_0 (k_rS (As := [.long r2]) (rest := []) ⟨hx, hb, hml, hown, hts⟩ hK hN k_P0 (k_D0 (A := A)) (zX3_longestWall hc23) (va_cwS 1 hts gX9_blockade_X3_longestWall rfl rfl rfl (by decide +kernel) ⟨Nat.le_of_ble_eq_true rfl, Nat.le_of_ble_eq_true rfl⟩) rfl hl.1 rfl (Nat.le_of_ble_eq_true rfl) dX9_blockade_23 ⟨Nat.zero_le _, Nat.zero_le _⟩) hP hS hA (fun H locs hP hS => ?_)
    cases hm
  · have hm := k_ip cc4 hm
    cases hm
    exact k_throw (own := RX9) (ik := 72) (ic := 74) (cls := "java/lang/IndexOutOfBoundsException") hx hb hst hown (hts (.classLink RX9 72 "java/lang/IndexOutOfBoundsException") (by decide +kernel)) (hts (.initialized "java/lang/IndexOutOfBoundsException") (by decide +kernel)) (fun w hw => hts w (List.mem_cons_of_mem _ (by simp only [List.mem_append]; simp only [hw, or_true, true_or]))) (by decide +kernel) (by decide +kernel) (by decide +kernel) hq hS (hl.1.trans hml.symm) dX9_blockade_7 dX9_blockade_10 dX9_blockade_11 dX9_blockade_14 (fun x hx => (hex x hx).elim) (Nat.le_of_ble_eq_true rfl) (Nat.le_of_ble_eq_true rfl) (Nat.le_of_ble_eq_true rfl) (Nat.le_of_ble_eq_true rfl) hlocks hK hP hD

abbrev rmT9_score : Room := { frames := 6, cells := 1, slots := 6, locals := 81 }
set_option maxHeartbeats 4000000 in
set_option maxRecDepth 100000 in
theorem zT9_score {l : Launch} {D : va_G} {cI cJ cC cG : ClassId} {sz : Nat} {h9 hn h0 : Nat} {ap q ht pa pb pc : Nat → Nat} {jk : JT} {hasS : Bool} {cnt : Int32} {snp : GT} {G : Nat → GT} {c_mover : Int32} {c_phase : Int32} {c_dice : Int32} {c_stake : Int32} {c_cube : Int32} {c_pieces0 : Int64} {c_pieces1 : Int64} {c_score0 : Int32} {c_score1 : Int32} {c_hits0 : Int32} {c_hits1 : Int32} {c_stopped : Bool} {c_stopPart : Int32} {t_signs : Nat → Int32} {t_length : Int32} {a1 : Int32} {E : String} (hst : l.stackTraces = false) (hm : mT9_score c_score0 c_score1 a1 = some E) : k_MT l yX9_score wsX9_score rmT9_score D (kT cI cJ cC cG) sz ([.ref h9, .int a1] : List Value) (wX cI cJ cC cG h9 hn ap q ht h0 pa pb pc jk hasS cnt snp G c_mover c_phase c_dice c_stake c_cube c_pieces0 c_pieces1 c_score0 c_score1 c_hits0 c_hits1 c_stopped c_stopPart t_signs t_length)  E := by
  refine k_st_T (cc := cX9_score) (maxL := 2) (by decide) rfl (Nat.le_of_ble_eq_true rfl) ?_
  intro p e z m below meth c A hx hb hr hml hts hown hlocks hsz hN hA hK hP hD hS hq hex ls hl
  have hown : z.vm.findClass RX9 = some m.cls := hown
  have hinX9 : ∀ w ∈ wsX90, w ∈ wsX9_score := by decide +kernel
  have fl10 := hts (.fieldLink RX9 10 "MagpieRuns" "now" "LMagpieRuns$Game;") (by decide +kernel)
  have hl : lv_has ls 2 [(0, .ref h9), (1, .int a1)] := hl
  unfold mT9_score at hm
  refine lv_iload_n hx hb dX9_score_0 rfl (lv_at hl 1 rfl) ?_
  obtain ⟨r1, hc1, hm⟩ := k_bds hm
  refine k_i_0 (k_rS (As := [.int a1]) (rest := []) ⟨hx, hb, hml, hown, hts⟩ hK hN k_P0 (k_D0 (A := A)) (zX9_isPlayer hc1) (va_cwS 1 hts gX9_score_X9_isPlayer rfl rfl rfl (by decide +kernel) ⟨Nat.le_of_ble_eq_true rfl, Nat.le_of_ble_eq_true rfl⟩) rfl hl.1 rfl (Nat.le_of_ble_eq_true rfl) dX9_score_1 ⟨Nat.zero_le _, Nat.zero_le _⟩) hP hS hA (fun H locs hP hS => ?_)
  refine lv_if_ne (tgt := 15) hx hb dX9_score_4 (by decide) (fun cc4 => ?_) (fun cc4 => ?_)
  · have hm := k_in cc4 hm
    refine lv_aload_n hx hb dX9_score_15 rfl (lv_at hl 0 rfl) ?_
    refine va_get (D := D) (ci := 5) (v := .ref hn) (C := RX9) (T := TX9) (N := 4) hx hb hts hinX9 hown hK hP 0 rfl rfl 0 (by decide) fl10 (fun _ h9 => h9) rfl dX9_score_16 ?_
    refine lv_iload_n hx hb dX9_score_19 rfl (lv_at hl 1 rfl) ?_
    obtain ⟨r2, hc20, hm⟩ := k_bds hm
    have hPc : va_P D vwCl (wG hn c_mover c_phase c_dice c_stake c_cube c_pieces0 c_pieces1 c_score0 c_score1 c_hits0 c_hits1 c_stopped c_stopPart) _ := k_Psub hP [1] rfl
    have hDc : va_D A (wG hn c_mover c_phase c_dice c_stake c_cube c_pieces0 c_pieces1 c_score0 c_score1 c_hits0 c_hits1 c_stopped c_stopPart) := hD.sub [1] (by decide) rfl
    refine k_i_c (Wf := (wX cI cJ cC cG h9 hn ap q ht h0 pa pb pc jk hasS cnt snp G c_mover c_phase c_dice c_stake c_cube c_pieces0 c_pieces1 c_score0 c_score1 c_hits0 c_hits1 c_stopped c_stopPart t_signs t_length)) [1] [0, 2, 3, 4, 5, 6, 7, 8, 9, 10, 11, 12, 13, 14, 15, 16, 17, 18, 19, 20, 21, 22, 23, 24] [0, 24, 1, 2, 3, 4, 5, 6, 7, 8, 9, 10, 11, 12, 13, 14, 15, 16, 17, 18, 19, 20, 21, 22, 23] (k_rV (As := [.int a1]) (rest := []) ⟨hx, hb, hml, hown, hts⟩ hK hN hPc hDc (zX1_scoreOf hc20) (cwV 1 hts gX9_score_X1_scoreOf rfl rfl rfl (by decide +kernel) ⟨Nat.le_of_ble_eq_true rfl, Nat.le_of_ble_eq_true rfl⟩) rfl rfl rfl hl.1 rfl (Nat.le_of_ble_eq_true rfl) dX9_score_20 ⟨Nat.zero_le _, Nat.zero_le _⟩) hP hD hS hA rfl rfl (by decide) (by decide) rfl (by decide) (fun H locs hP hD hS => ?_)
    cases hm
  · have hm := k_ip cc4 hm
    cases hm
    exact k_throw (own := RX9) (ik := 72) (ic := 74) (cls := "java/lang/IndexOutOfBoundsException") hx hb hst hown (hts (.classLink RX9 72 "java/lang/IndexOutOfBoundsException") (by decide +kernel)) (hts (.initialized "java/lang/IndexOutOfBoundsException") (by decide +kernel)) (fun w hw => hts w (List.mem_cons_of_mem _ (by simp only [List.mem_append]; simp only [hw, or_true, true_or]))) (by decide +kernel) (by decide +kernel) (by decide +kernel) hq hS (hl.1.trans hml.symm) dX9_score_7 dX9_score_10 dX9_score_11 dX9_score_14 (fun x hx => (hex x hx).elim) (Nat.le_of_ble_eq_true rfl) (Nat.le_of_ble_eq_true rfl) (Nat.le_of_ble_eq_true rfl) (Nat.le_of_ble_eq_true rfl) hlocks hK hP hD

abbrev rmT9_hits : Room := { frames := 6, cells := 1, slots := 6, locals := 81 }
set_option maxHeartbeats 4000000 in
set_option maxRecDepth 100000 in
theorem zT9_hits {l : Launch} {D : va_G} {cI cJ cC cG : ClassId} {sz : Nat} {h9 hn h0 : Nat} {ap q ht pa pb pc : Nat → Nat} {jk : JT} {hasS : Bool} {cnt : Int32} {snp : GT} {G : Nat → GT} {c_mover : Int32} {c_phase : Int32} {c_dice : Int32} {c_stake : Int32} {c_cube : Int32} {c_pieces0 : Int64} {c_pieces1 : Int64} {c_score0 : Int32} {c_score1 : Int32} {c_hits0 : Int32} {c_hits1 : Int32} {c_stopped : Bool} {c_stopPart : Int32} {t_signs : Nat → Int32} {t_length : Int32} {a1 : Int32} {E : String} (hst : l.stackTraces = false) (hm : mT9_hits c_hits0 c_hits1 a1 = some E) : k_MT l yX9_hits wsX9_hits rmT9_hits D (kT cI cJ cC cG) sz ([.ref h9, .int a1] : List Value) (wX cI cJ cC cG h9 hn ap q ht h0 pa pb pc jk hasS cnt snp G c_mover c_phase c_dice c_stake c_cube c_pieces0 c_pieces1 c_score0 c_score1 c_hits0 c_hits1 c_stopped c_stopPart t_signs t_length)  E := by
  refine k_st_T (cc := cX9_hits) (maxL := 2) (by decide) rfl (Nat.le_of_ble_eq_true rfl) ?_
  intro p e z m below meth c A hx hb hr hml hts hown hlocks hsz hN hA hK hP hD hS hq hex ls hl
  have hown : z.vm.findClass RX9 = some m.cls := hown
  have hinX9 : ∀ w ∈ wsX90, w ∈ wsX9_hits := by decide +kernel
  have fl10 := hts (.fieldLink RX9 10 "MagpieRuns" "now" "LMagpieRuns$Game;") (by decide +kernel)
  have hl : lv_has ls 2 [(0, .ref h9), (1, .int a1)] := hl
  unfold mT9_hits at hm
  refine lv_iload_n hx hb dX9_hits_0 rfl (lv_at hl 1 rfl) ?_
  obtain ⟨r1, hc1, hm⟩ := k_bds hm
  refine k_i_0 (k_rS (As := [.int a1]) (rest := []) ⟨hx, hb, hml, hown, hts⟩ hK hN k_P0 (k_D0 (A := A)) (zX9_isPlayer hc1) (va_cwS 1 hts gX9_hits_X9_isPlayer rfl rfl rfl (by decide +kernel) ⟨Nat.le_of_ble_eq_true rfl, Nat.le_of_ble_eq_true rfl⟩) rfl hl.1 rfl (Nat.le_of_ble_eq_true rfl) dX9_hits_1 ⟨Nat.zero_le _, Nat.zero_le _⟩) hP hS hA (fun H locs hP hS => ?_)
  refine lv_if_ne (tgt := 15) hx hb dX9_hits_4 (by decide) (fun cc4 => ?_) (fun cc4 => ?_)
  · have hm := k_in cc4 hm
    refine lv_aload_n hx hb dX9_hits_15 rfl (lv_at hl 0 rfl) ?_
    refine va_get (D := D) (ci := 5) (v := .ref hn) (C := RX9) (T := TX9) (N := 4) hx hb hts hinX9 hown hK hP 0 rfl rfl 0 (by decide) fl10 (fun _ h9 => h9) rfl dX9_hits_16 ?_
    refine lv_iload_n hx hb dX9_hits_19 rfl (lv_at hl 1 rfl) ?_
    obtain ⟨r2, hc20, hm⟩ := k_bds hm
    have hPc : va_P D vwCl (wG hn c_mover c_phase c_dice c_stake c_cube c_pieces0 c_pieces1 c_score0 c_score1 c_hits0 c_hits1 c_stopped c_stopPart) _ := k_Psub hP [1] rfl
    have hDc : va_D A (wG hn c_mover c_phase c_dice c_stake c_cube c_pieces0 c_pieces1 c_score0 c_score1 c_hits0 c_hits1 c_stopped c_stopPart) := hD.sub [1] (by decide) rfl
    refine k_i_c (Wf := (wX cI cJ cC cG h9 hn ap q ht h0 pa pb pc jk hasS cnt snp G c_mover c_phase c_dice c_stake c_cube c_pieces0 c_pieces1 c_score0 c_score1 c_hits0 c_hits1 c_stopped c_stopPart t_signs t_length)) [1] [0, 2, 3, 4, 5, 6, 7, 8, 9, 10, 11, 12, 13, 14, 15, 16, 17, 18, 19, 20, 21, 22, 23, 24] [0, 24, 1, 2, 3, 4, 5, 6, 7, 8, 9, 10, 11, 12, 13, 14, 15, 16, 17, 18, 19, 20, 21, 22, 23] (k_rV (As := [.int a1]) (rest := []) ⟨hx, hb, hml, hown, hts⟩ hK hN hPc hDc (zX1_hitsOf hc20) (cwV 1 hts gX9_hits_X1_hitsOf rfl rfl rfl (by decide +kernel) ⟨Nat.le_of_ble_eq_true rfl, Nat.le_of_ble_eq_true rfl⟩) rfl rfl rfl hl.1 rfl (Nat.le_of_ble_eq_true rfl) dX9_hits_20 ⟨Nat.zero_le _, Nat.zero_le _⟩) hP hD hS hA rfl rfl (by decide) (by decide) rfl (by decide) (fun H locs hP hD hS => ?_)
    cases hm
  · have hm := k_ip cc4 hm
    cases hm
    exact k_throw (own := RX9) (ik := 72) (ic := 74) (cls := "java/lang/IndexOutOfBoundsException") hx hb hst hown (hts (.classLink RX9 72 "java/lang/IndexOutOfBoundsException") (by decide +kernel)) (hts (.initialized "java/lang/IndexOutOfBoundsException") (by decide +kernel)) (fun w hw => hts w (List.mem_cons_of_mem _ (by simp only [List.mem_append]; simp only [hw, or_true, true_or]))) (by decide +kernel) (by decide +kernel) (by decide +kernel) hq hS (hl.1.trans hml.symm) dX9_hits_7 dX9_hits_10 dX9_hits_11 dX9_hits_14 (fun x hx => (hex x hx).elim) (Nat.le_of_ble_eq_true rfl) (Nat.le_of_ble_eq_true rfl) (Nat.le_of_ble_eq_true rfl) (Nat.le_of_ble_eq_true rfl) hlocks hK hP hD

abbrev rmT9_whyNoStep : Room := { frames := 12, cells := 1, slots := 6, locals := 364 }
set_option maxHeartbeats 4000000 in
set_option maxRecDepth 100000 in
theorem zT9_whyNoStep {l : Launch} {D : va_G} {cI cJ cC cG : ClassId} {sz : Nat} {h9 hn h0 : Nat} {ap q ht pa pb pc : Nat → Nat} {jk : JT} {hasS : Bool} {cnt : Int32} {snp : GT} {G : Nat → GT} {c_mover : Int32} {c_phase : Int32} {c_dice : Int32} {c_stake : Int32} {c_cube : Int32} {c_pieces0 : Int64} {c_pieces1 : Int64} {c_score0 : Int32} {c_score1 : Int32} {c_hits0 : Int32} {c_hits1 : Int32} {c_stopped : Bool} {c_stopPart : Int32} {t_signs : Nat → Int32} {t_length : Int32} {a1 : Int32} {a2 : Int32} {E : String} (hst : l.stackTraces = false) (hm : mT9_whyNoStep c_mover c_dice c_pieces0 c_pieces1 a1 a2 = some E) : k_MT l yX9_whyNoStep wsX9_whyNoStep rmT9_whyNoStep D (kT cI cJ cC cG) sz ([.ref h9, .int a1, .int a2] : List Value) (wX cI cJ cC cG h9 hn ap q ht h0 pa pb pc jk hasS cnt snp G c_mover c_phase c_dice c_stake c_cube c_pieces0 c_pieces1 c_score0 c_score1 c_hits0 c_hits1 c_stopped c_stopPart t_signs t_length)  E := by
  refine k_st_T (cc := cX9_whyNoStep) (maxL := 3) (by decide) rfl (Nat.le_of_ble_eq_true rfl) ?_
  intro p e z m below meth c A hx hb hr hml hts hown hlocks hsz hN hA hK hP hD hS hq hex ls hl
  have hown : z.vm.findClass RX9 = some m.cls := hown
  have hinX9 : ∀ w ∈ wsX90, w ∈ wsX9_whyNoStep := by decide +kernel
  have fl10 := hts (.fieldLink RX9 10 "MagpieRuns" "now" "LMagpieRuns$Game;") (by decide +kernel)
  have hl : lv_has ls 3 [(0, .ref h9), (1, .int a1), (2, .int a2)] := hl
  unfold mT9_whyNoStep at hm
  refine lv_iload_n hx hb dX9_whyNoStep_0 rfl (lv_at hl 1 rfl) ?_
  obtain ⟨r1, hc1, hm⟩ := k_bds hm
  refine k_i_0 (k_rS (As := [.int a1]) (rest := []) ⟨hx, hb, hml, hown, hts⟩ hK hN k_P0 (k_D0 (A := A)) (zX9_isPointOrBar hc1) (va_cwS 1 hts gX9_whyNoStep_X9_isPointOrBar rfl rfl rfl (by decide +kernel) ⟨Nat.le_of_ble_eq_true rfl, Nat.le_of_ble_eq_true rfl⟩) rfl hl.1 rfl (Nat.le_of_ble_eq_true rfl) dX9_whyNoStep_1 ⟨Nat.zero_le _, Nat.zero_le _⟩) hP hS hA (fun H locs hP hS => ?_)
  refine lv_if_ne (tgt := 15) hx hb dX9_whyNoStep_4 (by decide) (fun cc4 => ?_) (fun cc4 => ?_)
  · have hm := k_in cc4 hm
    refine lv_iload_n hx hb dX9_whyNoStep_15 rfl (lv_at hl 2 rfl) ?_
    obtain ⟨r2, hc16, hm⟩ := k_bds hm
    refine k_i_0 (k_rS (As := [.int a2]) (rest := []) ⟨hx, hb, hml, hown, hts⟩ hK hN k_P0 (k_D0 (A := A)) (zX0_isDie hc16) (va_cwS 1 hts gX9_whyNoStep_X0_isDie rfl rfl rfl (by decide +kernel) ⟨Nat.le_of_ble_eq_true rfl, Nat.le_of_ble_eq_true rfl⟩) rfl hl.1 rfl (Nat.le_of_ble_eq_true rfl) dX9_whyNoStep_16 ⟨Nat.zero_le _, Nat.zero_le _⟩) hP hS hA (fun H locs hP hS => ?_)
    refine lv_if_ne (tgt := 30) hx hb dX9_whyNoStep_19 (by decide) (fun cc19 => ?_) (fun cc19 => ?_)
    · have hm := k_in cc19 hm
      refine lv_aload_n hx hb dX9_whyNoStep_30 rfl (lv_at hl 0 rfl) ?_
      refine va_get (D := D) (ci := 5) (v := .ref hn) (C := RX9) (T := TX9) (N := 4) hx hb hts hinX9 hown hK hP 0 rfl rfl 0 (by decide) fl10 (fun _ h9 => h9) rfl dX9_whyNoStep_31 ?_
      refine lv_iload_n hx hb dX9_whyNoStep_34 rfl (lv_at hl 1 rfl) ?_
      refine lv_iload_n hx hb dX9_whyNoStep_35 rfl (lv_at hl 2 rfl) ?_
      obtain ⟨r3, hc36, hm⟩ := k_bds hm
      have hPc : va_P D vwCl (wG hn c_mover c_phase c_dice c_stake c_cube c_pieces0 c_pieces1 c_score0 c_score1 c_hits0 c_hits1 c_stopped c_stopPart) _ := k_Psub hP [1] rfl
      have hDc : va_D A (wG hn c_mover c_phase c_dice c_stake c_cube c_pieces0 c_pieces1 c_score0 c_score1 c_hits0 c_hits1 c_stopped c_stopPart) := hD.sub [1] (by decide) rfl
      refine k_i_c (Wf := (wX cI cJ cC cG h9 hn ap q ht h0 pa pb pc jk hasS cnt snp G c_mover c_phase c_dice c_stake c_cube c_pieces0 c_pieces1 c_score0 c_score1 c_hits0 c_hits1 c_stopped c_stopPart t_signs t_length)) [1] [0, 2, 3, 4, 5, 6, 7, 8, 9, 10, 11, 12, 13, 14, 15, 16, 17, 18, 19, 20, 21, 22, 23, 24] [0, 24, 1, 2, 3, 4, 5, 6, 7, 8, 9, 10, 11, 12, 13, 14, 15, 16, 17, 18, 19, 20, 21, 22, 23] (k_rV (As := [.int a1, .int a2]) (rest := []) ⟨hx, hb, hml, hown, hts⟩ hK hN hPc hDc (zX1_reasonAgainst hc36) (cwV 2 hts gX9_whyNoStep_X1_reasonAgainst rfl rfl rfl (by decide +kernel) ⟨Nat.le_of_ble_eq_true rfl, Nat.le_of_ble_eq_true rfl⟩) rfl rfl rfl hl.1 rfl (Nat.le_of_ble_eq_true rfl) dX9_whyNoStep_36 ⟨Nat.zero_le _, Nat.zero_le _⟩) hP hD hS hA rfl rfl (by decide) (by decide) rfl (by decide) (fun H locs hP hD hS => ?_)
      cases hm
    · have hm := k_ip cc19 hm
      cases hm
      exact k_throw (own := RX9) (ik := 43) (ic := 45) (cls := "java/lang/IllegalArgumentException") hx hb hst hown (hts (.classLink RX9 43 "java/lang/IllegalArgumentException") (by decide +kernel)) (hts (.initialized "java/lang/IllegalArgumentException") (by decide +kernel)) (fun w hw => hts w (List.mem_cons_of_mem _ (by simp only [List.mem_append]; simp only [hw, or_true, true_or]))) (by decide +kernel) (by decide +kernel) (by decide +kernel) hq hS (hl.1.trans hml.symm) dX9_whyNoStep_22 dX9_whyNoStep_25 dX9_whyNoStep_26 dX9_whyNoStep_29 (fun x hx => (hex x hx).elim) (Nat.le_of_ble_eq_true rfl) (Nat.le_of_ble_eq_true rfl) (Nat.le_of_ble_eq_true rfl) (Nat.le_of_ble_eq_true rfl) hlocks hK hP hD
  · have hm := k_ip cc4 hm
    cases hm
    exact k_throw (own := RX9) (ik := 72) (ic := 74) (cls := "java/lang/IndexOutOfBoundsException") hx hb hst hown (hts (.classLink RX9 72 "java/lang/IndexOutOfBoundsException") (by decide +kernel)) (hts (.initialized "java/lang/IndexOutOfBoundsException") (by decide +kernel)) (fun w hw => hts w (List.mem_cons_of_mem _ (by simp only [List.mem_append]; simp only [hw, or_true, true_or]))) (by decide +kernel) (by decide +kernel) (by decide +kernel) hq hS (hl.1.trans hml.symm) dX9_whyNoStep_7 dX9_whyNoStep_10 dX9_whyNoStep_11 dX9_whyNoStep_14 (fun x hx => (hex x hx).elim) (Nat.le_of_ble_eq_true rfl) (Nat.le_of_ble_eq_true rfl) (Nat.le_of_ble_eq_true rfl) (Nat.le_of_ble_eq_true rfl) hlocks hK hP hD

abbrev rmT9_playsWith : Room := { frames := 6, cells := 1, slots := 6, locals := 81 }
set_option maxHeartbeats 4000000 in
set_option maxRecDepth 100000 in
theorem zT9_playsWith {l : Launch} {D : va_G} {cI cJ cC cG : ClassId} {sz : Nat} {h9 hn h0 : Nat} {ap q ht pa pb pc : Nat → Nat} {jk : JT} {hasS : Bool} {cnt : Int32} {snp : GT} {G : Nat → GT} {c_mover : Int32} {c_phase : Int32} {c_dice : Int32} {c_stake : Int32} {c_cube : Int32} {c_pieces0 : Int64} {c_pieces1 : Int64} {c_score0 : Int32} {c_score1 : Int32} {c_hits0 : Int32} {c_hits1 : Int32} {c_stopped : Bool} {c_stopPart : Int32} {t_signs : Nat → Int32} {t_length : Int32} {a1 : Int32} {a2 : Int32} {E : String} (hst : l.stackTraces = false) (hm : mT9_playsWith c_mover c_pieces0 c_pieces1 a1 a2 = some E) : k_MT l yX9_playsWith wsX9_playsWith rmT9_playsWith D (kT cI cJ cC cG) sz ([.ref h9, .int a1, .int a2] : List Value) (wX cI cJ cC cG h9 hn ap q ht h0 pa pb pc jk hasS cnt snp G c_mover c_phase c_dice c_stake c_cube c_pieces0 c_pieces1 c_score0 c_score1 c_hits0 c_hits1 c_stopped c_stopPart t_signs t_length)  E := by
  refine k_st_T (cc := cX9_playsWith) (maxL := 4) (by decide) rfl (Nat.le_of_ble_eq_true rfl) ?_
  intro p e z m below meth c A hx hb hr hml hts hown hlocks hsz hN hA hK hP hD hS hq hex ls hl
  have hown : z.vm.findClass RX9 = some m.cls := hown
  have hinX9 : ∀ w ∈ wsX90, w ∈ wsX9_playsWith := by decide +kernel
  have fl10 := hts (.fieldLink RX9 10 "MagpieRuns" "now" "LMagpieRuns$Game;") (by decide +kernel)
  have fl33 := hts (.fieldLink RX9 33 "MagpieRuns" "counter" "LMagpieRuns$Plays;") (by decide +kernel)
  have hl : lv_has ls 4 [(0, .ref h9), (1, .int a1), (2, .int a2)] := hl
  have J_14 : ∀ (H : Heap) (locs : List Loc), va_P D vwCl (wX cI cJ cC cG h9 hn ap q ht h0 pa pb pc jk hasS cnt snp G c_mover c_phase c_dice c_stake c_cube c_pieces0 c_pieces1 c_score0 c_score1 c_hits0 c_hits1 c_stopped c_stopPart t_signs t_length) H → va_D A (wX cI cJ cC cG h9 hn ap q ht h0 pa pb pc jk hasS cnt snp G c_mover c_phase c_dice c_stake c_cube c_pieces0 c_pieces1 c_score0 c_score1 c_hits0 c_hits1 c_stopped c_stopPart t_signs t_length) → va_S A z.heap H locs → ∀ ls : Array Slot, lv_has ls 4 [] → mT9_playsWith_14 c_mover c_pieces0 c_pieces1 a1 a2  = some E → W p l e rmT9_playsWith z m ([.ref h9, .int a1, .int a2] : List Value).toArray below meth c H locs 0 0 (k_QT below ([.ref h9, .int a1, .int a2] : List Value) D (kT cI cJ cC cG) z A (wX cI cJ cC cG h9 hn ap q ht h0 pa pb pc jk hasS cnt snp G c_mover c_phase c_dice c_stake c_cube c_pieces0 c_pieces1 c_score0 c_score1 c_hits0 c_hits1 c_stopped c_stopPart t_signs t_length) E) (F0 m 14 ls []) := by
    intro  H locs hP hD hS ls hl hm
    unfold mT9_playsWith_14 at hm
    cases hm
    exact k_throw (own := RX9) (ik := 43) (ic := 45) (cls := "java/lang/IllegalArgumentException") hx hb hst hown (hts (.classLink RX9 43 "java/lang/IllegalArgumentException") (by decide +kernel)) (hts (.initialized "java/lang/IllegalArgumentException") (by decide +kernel)) (fun w hw => hts w (List.mem_cons_of_mem _ (by simp only [List.mem_append]; simp only [hw, or_true, true_or]))) (by decide +kernel) (by decide +kernel) (by decide +kernel) hq hS (hl.1.trans hml.symm) dX9_playsWith_14 dX9_playsWith_17 dX9_playsWith_18 dX9_playsWith_21 (fun x hx => (hex x hx).elim) (Nat.le_of_ble_eq_true rfl) (Nat.le_of_ble_eq_true rfl) (Nat.le_of_ble_eq_true rfl) (Nat.le_of_ble_eq_true rfl) hlocks hK hP hD
  unfold mT9_playsWith at hm
  refine lv_iload_n hx hb dX9_playsWith_0 rfl (lv_at hl 1 rfl) ?_
  obtain ⟨r1, hc1, hm⟩ := k_bds hm
  refine k_i_0 (k_rS (As := [.int a1]) (rest := []) ⟨hx, hb, hml, hown, hts⟩ hK hN k_P0 (k_D0 (A := A)) (zX0_isDie hc1) (va_cwS 1 hts gX9_playsWith_X0_isDie rfl rfl rfl (by decide +kernel) ⟨Nat.le_of_ble_eq_true rfl, Nat.le_of_ble_eq_true rfl⟩) rfl hl.1 rfl (Nat.le_of_ble_eq_true rfl) dX9_playsWith_1 ⟨Nat.zero_le _, Nat.zero_le _⟩) hP hS hA (fun H locs hP hS => ?_)
  refine lv_if_eq (tgt := 14) hx hb dX9_playsWith_4 (by decide) (fun cc4 => ?_) (fun cc4 => ?_)
  · have hm := k_ip cc4 hm
    exact J_14  _ _ hP hD hS _ (lv_sub hl [] rfl) hm
  · have hm := k_in cc4 hm
    refine lv_iload_n hx hb dX9_playsWith_7 rfl (lv_at hl 2 rfl) ?_
    obtain ⟨r2, hc8, hm⟩ := k_bds hm
    refine k_i_0 (k_rS (As := [.int a2]) (rest := []) ⟨hx, hb, hml, hown, hts⟩ hK hN k_P0 (k_D0 (A := A)) (zX0_isDie hc8) (va_cwS 1 hts gX9_playsWith_X0_isDie rfl rfl rfl (by decide +kernel) ⟨Nat.le_of_ble_eq_true rfl, Nat.le_of_ble_eq_true rfl⟩) rfl hl.1 rfl (Nat.le_of_ble_eq_true rfl) dX9_playsWith_8 ⟨Nat.zero_le _, Nat.zero_le _⟩) hP hS hA (fun H locs hP hS => ?_)
    refine lv_if_ne (tgt := 22) hx hb dX9_playsWith_11 (by decide) (fun cc11 => ?_) (fun cc11 => ?_)
    · have hm := k_in cc11 hm
      refine lv_iload_n hx hb dX9_playsWith_22 rfl (lv_at hl 1 rfl) ?_
      refine lv_iload_n hx hb dX9_playsWith_23 rfl (lv_at hl 2 rfl) ?_
      obtain ⟨r3, hc24, hm⟩ := k_bds hm
      refine k_i_0 (k_rS (As := [.int a1, .int a2]) (rest := []) ⟨hx, hb, hml, hown, hts⟩ hK hN k_P0 (k_D0 (A := A)) (zX0_rolled hc24) (va_cwS 2 hts gX9_playsWith_X0_rolled rfl rfl rfl (by decide +kernel) ⟨Nat.le_of_ble_eq_true rfl, Nat.le_of_ble_eq_true rfl⟩) rfl hl.1 rfl (Nat.le_of_ble_eq_true rfl) dX9_playsWith_24 ⟨Nat.zero_le _, Nat.zero_le _⟩) hP hS hA (fun H locs hP hS => ?_)
      refine lv_istore_n (lv' := [(3, .int r3), (0, .ref h9), (1, .int a1), (2, .int a2)]) hx hb dX9_playsWith_27 rfl hl (by decide) rfl (fun ls hl => ?_)
      refine lv_aload_n hx hb dX9_playsWith_28 rfl (lv_at hl 1 rfl) ?_
      refine va_get (D := D) (ci := 5) (v := .ref h0) (C := RX9) (T := TX9) (N := 4) hx hb hts hinX9 hown hK hP 0 rfl rfl 3 (by decide) fl33 (fun _ h9 => h9) rfl dX9_playsWith_29 ?_
      refine lv_aload_n hx hb dX9_playsWith_32 rfl (lv_at hl 1 rfl) ?_
      refine va_get (D := D) (ci := 5) (v := .ref hn) (C := RX9) (T := TX9) (N := 4) hx hb hts hinX9 hown hK hP 0 rfl rfl 0 (by decide) fl10 (fun _ h9 => h9) rfl dX9_playsWith_33 ?_
      obtain ⟨r4, hc36, hm⟩ := k_bds hm
      have hPc : va_P D vwCl (wG hn c_mover c_phase c_dice c_stake c_cube c_pieces0 c_pieces1 c_score0 c_score1 c_hits0 c_hits1 c_stopped c_stopPart) _ := k_Psub hP [1] rfl
      have hDc : va_D A (wG hn c_mover c_phase c_dice c_stake c_cube c_pieces0 c_pieces1 c_score0 c_score1 c_hits0 c_hits1 c_stopped c_stopPart) := hD.sub [1] (by decide) rfl
      refine k_l_c (Wf := (wX cI cJ cC cG h9 hn ap q ht h0 pa pb pc jk hasS cnt snp G c_mover c_phase c_dice c_stake c_cube c_pieces0 c_pieces1 c_score0 c_score1 c_hits0 c_hits1 c_stopped c_stopPart t_signs t_length)) [1] [0, 2, 3, 4, 5, 6, 7, 8, 9, 10, 11, 12, 13, 14, 15, 16, 17, 18, 19, 20, 21, 22, 23, 24] [0, 24, 1, 2, 3, 4, 5, 6, 7, 8, 9, 10, 11, 12, 13, 14, 15, 16, 17, 18, 19, 20, 21, 22, 23] (k_rV (As := []) (rest := [.ref h0]) ⟨hx, hb, hml, hown, hts⟩ hK hN hPc hDc (zX1_moversPieces hc36) (cwV 0 hts gX9_playsWith_X1_moversPieces rfl rfl rfl (by decide +kernel) ⟨Nat.le_of_ble_eq_true rfl, Nat.le_of_ble_eq_true rfl⟩) rfl rfl rfl hl.1 rfl (Nat.le_of_ble_eq_true rfl) dX9_playsWith_36 ⟨Nat.zero_le _, Nat.zero_le _⟩) hP hD hS hA rfl rfl (by decide) (by decide) rfl (by decide) (fun H locs hP hD hS => ?_)
      refine lv_aload_n hx hb dX9_playsWith_39 rfl (lv_at hl 1 rfl) ?_
      refine va_get (D := D) (ci := 5) (v := .ref hn) (C := RX9) (T := TX9) (N := 4) hx hb hts hinX9 hown hK hP 0 rfl rfl 0 (by decide) fl10 (fun _ h9 => h9) rfl dX9_playsWith_40 ?_
      obtain ⟨r5, hc43, hm⟩ := k_bds hm
      have hPc : va_P D vwCl (wG hn c_mover c_phase c_dice c_stake c_cube c_pieces0 c_pieces1 c_score0 c_score1 c_hits0 c_hits1 c_stopped c_stopPart) _ := k_Psub hP [1] rfl
      have hDc : va_D A (wG hn c_mover c_phase c_dice c_stake c_cube c_pieces0 c_pieces1 c_score0 c_score1 c_hits0 c_hits1 c_stopped c_stopPart) := hD.sub [1] (by decide) rfl
      refine k_l_c (Wf := (wX cI cJ cC cG h9 hn ap q ht h0 pa pb pc jk hasS cnt snp G c_mover c_phase c_dice c_stake c_cube c_pieces0 c_pieces1 c_score0 c_score1 c_hits0 c_hits1 c_stopped c_stopPart t_signs t_length)) [1] [0, 2, 3, 4, 5, 6, 7, 8, 9, 10, 11, 12, 13, 14, 15, 16, 17, 18, 19, 20, 21, 22, 23, 24] [0, 24, 1, 2, 3, 4, 5, 6, 7, 8, 9, 10, 11, 12, 13, 14, 15, 16, 17, 18, 19, 20, 21, 22, 23] (k_rV (As := []) (rest := [.long r4, .ref h0]) ⟨hx, hb, hml, hown, hts⟩ hK hN hPc hDc (zX1_othersPieces hc43) (cwV 0 hts gX9_playsWith_X1_othersPieces rfl rfl rfl (by decide +kernel) ⟨Nat.le_of_ble_eq_true rfl, Nat.le_of_ble_eq_true rfl⟩) rfl rfl rfl hl.1 rfl (Nat.le_of_ble_eq_true rfl) dX9_playsWith_43 ⟨Nat.zero_le _, Nat.zero_le _⟩) hP hD hS hA rfl rfl (by decide) (by decide) rfl (by decide) (fun H locs hP hD hS => ?_)
      refine lv_iload_n hx hb dX9_playsWith_46 rfl (lv_at hl 0 rfl) ?_
      refine lv_iconst (v := 0) hx hb dX9_playsWith_47 (by decide) ?_
      cases hm
    · have hm := k_ip cc11 hm
      exact J_14  _ _ hP hD hS _ (lv_sub hl [] rfl) hm

abbrev rmT9_shots : Room := { frames := 6, cells := 1, slots := 6, locals := 81 }
set_option maxHeartbeats 4000000 in
set_option maxRecDepth 100000 in
theorem zT9_shots {l : Launch} {D : va_G} {cI cJ cC cG : ClassId} {sz : Nat} {h9 hn h0 : Nat} {ap q ht pa pb pc : Nat → Nat} {jk : JT} {hasS : Bool} {cnt : Int32} {snp : GT} {G : Nat → GT} {c_mover : Int32} {c_phase : Int32} {c_dice : Int32} {c_stake : Int32} {c_cube : Int32} {c_pieces0 : Int64} {c_pieces1 : Int64} {c_score0 : Int32} {c_score1 : Int32} {c_hits0 : Int32} {c_hits1 : Int32} {c_stopped : Bool} {c_stopPart : Int32} {t_signs : Nat → Int32} {t_length : Int32} {a1 : Int32} {E : String} (hst : l.stackTraces = false) (hm : mT9_shots c_pieces0 c_pieces1 a1 = some E) : k_MT l yX9_shots wsX9_shots rmT9_shots D (kT cI cJ cC cG) sz ([.ref h9, .int a1] : List Value) (wX cI cJ cC cG h9 hn ap q ht h0 pa pb pc jk hasS cnt snp G c_mover c_phase c_dice c_stake c_cube c_pieces0 c_pieces1 c_score0 c_score1 c_hits0 c_hits1 c_stopped c_stopPart t_signs t_length)  E := by
  refine k_st_T (cc := cX9_shots) (maxL := 2) (by decide) rfl (Nat.le_of_ble_eq_true rfl) ?_
  intro p e z m below meth c A hx hb hr hml hts hown hlocks hsz hN hA hK hP hD hS hq hex ls hl
  have hown : z.vm.findClass RX9 = some m.cls := hown
  have hl : lv_has ls 2 [(0, .ref h9), (1, .int a1)] := hl
  unfold mT9_shots at hm
  refine lv_iload_n hx hb dX9_shots_0 rfl (lv_at hl 1 rfl) ?_
  obtain ⟨r1, hc1, hm⟩ := k_bds hm
  refine k_i_0 (k_rS (As := [.int a1]) (rest := []) ⟨hx, hb, hml, hown, hts⟩ hK hN k_P0 (k_D0 (A := A)) (zX9_isPoint hc1) (va_cwS 1 hts gX9_shots_X9_isPoint rfl rfl rfl (by decide +kernel) ⟨Nat.le_of_ble_eq_true rfl, Nat.le_of_ble_eq_true rfl⟩) rfl hl.1 rfl (Nat.le_of_ble_eq_true rfl) dX9_shots_1 ⟨Nat.zero_le _, Nat.zero_le _⟩) hP hS hA (fun H locs hP hS => ?_)
  refine lv_if_ne (tgt := 15) hx hb dX9_shots_4 (by decide) (fun cc4 => ?_) (fun cc4 => ?_)
  · have hm := k_in cc4 hm
    refine lv_aload_n hx hb dX9_shots_15 rfl (lv_at hl 0 rfl) ?_
    refine lv_iload_n hx hb dX9_shots_16 rfl (lv_at hl 1 rfl) ?_
    cases hm
  · have hm := k_ip cc4 hm
    cases hm
    exact k_throw (own := RX9) (ik := 72) (ic := 74) (cls := "java/lang/IndexOutOfBoundsException") hx hb hst hown (hts (.classLink RX9 72 "java/lang/IndexOutOfBoundsException") (by decide +kernel)) (hts (.initialized "java/lang/IndexOutOfBoundsException") (by decide +kernel)) (fun w hw => hts w (List.mem_cons_of_mem _ (by simp only [List.mem_append]; simp only [hw, or_true, true_or]))) (by decide +kernel) (by decide +kernel) (by decide +kernel) hq hS (hl.1.trans hml.symm) dX9_shots_7 dX9_shots_10 dX9_shots_11 dX9_shots_14 (fun x hx => (hex x hx).elim) (Nat.le_of_ble_eq_true rfl) (Nat.le_of_ble_eq_true rfl) (Nat.le_of_ble_eq_true rfl) (Nat.le_of_ble_eq_true rfl) hlocks hK hP hD

abbrev rmT9_shotsByKinds : Room := { frames := 6, cells := 1, slots := 6, locals := 81 }
set_option maxHeartbeats 4000000 in
set_option maxRecDepth 100000 in
theorem zT9_shotsByKinds {l : Launch} {D : va_G} {cI cJ cC cG : ClassId} {sz : Nat} {h9 hn h0 : Nat} {ap q ht pa pb pc : Nat → Nat} {jk : JT} {hasS : Bool} {cnt : Int32} {snp : GT} {G : Nat → GT} {c_mover : Int32} {c_phase : Int32} {c_dice : Int32} {c_stake : Int32} {c_cube : Int32} {c_pieces0 : Int64} {c_pieces1 : Int64} {c_score0 : Int32} {c_score1 : Int32} {c_hits0 : Int32} {c_hits1 : Int32} {c_stopped : Bool} {c_stopPart : Int32} {t_signs : Nat → Int32} {t_length : Int32} {a1 : Int32} {E : String} (hst : l.stackTraces = false) (hm : mT9_shotsByKinds c_pieces0 c_pieces1 a1 = some E) : k_MT l yX9_shotsByKinds wsX9_shotsByKinds rmT9_shotsByKinds D (kT cI cJ cC cG) sz ([.ref h9, .int a1] : List Value) (wX cI cJ cC cG h9 hn ap q ht h0 pa pb pc jk hasS cnt snp G c_mover c_phase c_dice c_stake c_cube c_pieces0 c_pieces1 c_score0 c_score1 c_hits0 c_hits1 c_stopped c_stopPart t_signs t_length)  E := by
  refine k_st_T (cc := cX9_shotsByKinds) (maxL := 2) (by decide) rfl (Nat.le_of_ble_eq_true rfl) ?_
  intro p e z m below meth c A hx hb hr hml hts hown hlocks hsz hN hA hK hP hD hS hq hex ls hl
  have hown : z.vm.findClass RX9 = some m.cls := hown
  have hl : lv_has ls 2 [(0, .ref h9), (1, .int a1)] := hl
  unfold mT9_shotsByKinds at hm
  refine lv_iload_n hx hb dX9_shotsByKinds_0 rfl (lv_at hl 1 rfl) ?_
  obtain ⟨r1, hc1, hm⟩ := k_bds hm
  refine k_i_0 (k_rS (As := [.int a1]) (rest := []) ⟨hx, hb, hml, hown, hts⟩ hK hN k_P0 (k_D0 (A := A)) (zX9_isPoint hc1) (va_cwS 1 hts gX9_shotsByKinds_X9_isPoint rfl rfl rfl (by decide +kernel) ⟨Nat.le_of_ble_eq_true rfl, Nat.le_of_ble_eq_true rfl⟩) rfl hl.1 rfl (Nat.le_of_ble_eq_true rfl) dX9_shotsByKinds_1 ⟨Nat.zero_le _, Nat.zero_le _⟩) hP hS hA (fun H locs hP hS => ?_)
  refine lv_if_ne (tgt := 15) hx hb dX9_shotsByKinds_4 (by decide) (fun cc4 => ?_) (fun cc4 => ?_)
  · have hm := k_in cc4 hm
    refine lv_aload_n hx hb dX9_shotsByKinds_15 rfl (lv_at hl 0 rfl) ?_
    refine lv_iload_n hx hb dX9_shotsByKinds_16 rfl (lv_at hl 1 rfl) ?_
    cases hm
  · have hm := k_ip cc4 hm
    cases hm
    exact k_throw (own := RX9) (ik := 72) (ic := 74) (cls := "java/lang/IndexOutOfBoundsException") hx hb hst hown (hts (.classLink RX9 72 "java/lang/IndexOutOfBoundsException") (by decide +kernel)) (hts (.initialized "java/lang/IndexOutOfBoundsException") (by decide +kernel)) (fun w hw => hts w (List.mem_cons_of_mem _ (by simp only [List.mem_append]; simp only [hw, or_true, true_or]))) (by decide +kernel) (by decide +kernel) (by decide +kernel) hq hS (hl.1.trans hml.symm) dX9_shotsByKinds_7 dX9_shotsByKinds_10 dX9_shotsByKinds_11 dX9_shotsByKinds_14 (fun x hx => (hex x hx).elim) (Nat.le_of_ble_eq_true rfl) (Nat.le_of_ble_eq_true rfl) (Nat.le_of_ble_eq_true rfl) (Nat.le_of_ble_eq_true rfl) hlocks hK hP hD

abbrev rmT9_entering : Room := { frames := 6, cells := 1, slots := 6, locals := 81 }
set_option maxHeartbeats 4000000 in
set_option maxRecDepth 100000 in
theorem zT9_entering {l : Launch} {D : va_G} {cI cJ cC cG : ClassId} {sz : Nat} {h9 hn h0 : Nat} {ap q ht pa pb pc : Nat → Nat} {jk : JT} {hasS : Bool} {cnt : Int32} {snp : GT} {G : Nat → GT} {c_mover : Int32} {c_phase : Int32} {c_dice : Int32} {c_stake : Int32} {c_cube : Int32} {c_pieces0 : Int64} {c_pieces1 : Int64} {c_score0 : Int32} {c_score1 : Int32} {c_hits0 : Int32} {c_hits1 : Int32} {c_stopped : Bool} {c_stopPart : Int32} {t_signs : Nat → Int32} {t_length : Int32} {a1 : Int32} {E : String} (hst : l.stackTraces = false) (hm : mT9_entering c_pieces0 c_pieces1 a1 = some E) : k_MT l yX9_entering wsX9_entering rmT9_entering D (kT cI cJ cC cG) sz ([.ref h9, .int a1] : List Value) (wX cI cJ cC cG h9 hn ap q ht h0 pa pb pc jk hasS cnt snp G c_mover c_phase c_dice c_stake c_cube c_pieces0 c_pieces1 c_score0 c_score1 c_hits0 c_hits1 c_stopped c_stopPart t_signs t_length)  E := by
  refine k_st_T (cc := cX9_entering) (maxL := 2) (by decide) rfl (Nat.le_of_ble_eq_true rfl) ?_
  intro p e z m below meth c A hx hb hr hml hts hown hlocks hsz hN hA hK hP hD hS hq hex ls hl
  have hown : z.vm.findClass RX9 = some m.cls := hown
  have hinX9 : ∀ w ∈ wsX90, w ∈ wsX9_entering := by decide +kernel
  have fl10 := hts (.fieldLink RX9 10 "MagpieRuns" "now" "LMagpieRuns$Game;") (by decide +kernel)
  have hl : lv_has ls 2 [(0, .ref h9), (1, .int a1)] := hl
  unfold mT9_entering at hm
  refine lv_iload_n hx hb dX9_entering_0 rfl (lv_at hl 1 rfl) ?_
  obtain ⟨r1, hc1, hm⟩ := k_bds hm
  refine k_i_0 (k_rS (As := [.int a1]) (rest := []) ⟨hx, hb, hml, hown, hts⟩ hK hN k_P0 (k_D0 (A := A)) (zX9_isPlayer hc1) (va_cwS 1 hts gX9_entering_X9_isPlayer rfl rfl rfl (by decide +kernel) ⟨Nat.le_of_ble_eq_true rfl, Nat.le_of_ble_eq_true rfl⟩) rfl hl.1 rfl (Nat.le_of_ble_eq_true rfl) dX9_entering_1 ⟨Nat.zero_le _, Nat.zero_le _⟩) hP hS hA (fun H locs hP hS => ?_)
  refine lv_if_ne (tgt := 15) hx hb dX9_entering_4 (by decide) (fun cc4 => ?_) (fun cc4 => ?_)
  · have hm := k_in cc4 hm
    refine lv_aload_n hx hb dX9_entering_15 rfl (lv_at hl 0 rfl) ?_
    refine va_get (D := D) (ci := 5) (v := .ref hn) (C := RX9) (T := TX9) (N := 4) hx hb hts hinX9 hown hK hP 0 rfl rfl 0 (by decide) fl10 (fun _ h9 => h9) rfl dX9_entering_16 ?_
    refine lv_iconst (v := 1) hx hb dX9_entering_19 (by decide) ?_
    refine lv_iload_n hx hb dX9_entering_20 rfl (lv_at hl 1 rfl) ?_
    refine lv_isub hx hb dX9_entering_21 ?_
    obtain ⟨r2, hc22, hm⟩ := k_bds hm
    have hPc : va_P D vwCl (wG hn c_mover c_phase c_dice c_stake c_cube c_pieces0 c_pieces1 c_score0 c_score1 c_hits0 c_hits1 c_stopped c_stopPart) _ := k_Psub hP [1] rfl
    have hDc : va_D A (wG hn c_mover c_phase c_dice c_stake c_cube c_pieces0 c_pieces1 c_score0 c_score1 c_hits0 c_hits1 c_stopped c_stopPart) := hD.sub [1] (by decide) rfl
    refine k_l_c (Wf := (wX cI cJ cC cG h9 hn ap q ht h0 pa pb pc jk hasS cnt snp G c_mover c_phase c_dice c_stake c_cube c_pieces0 c_pieces1 c_score0 c_score1 c_hits0 c_hits1 c_stopped c_stopPart t_signs t_length)) [1] [0, 2, 3, 4, 5, 6, 7, 8, 9, 10, 11, 12, 13, 14, 15, 16, 17, 18, 19, 20, 21, 22, 23, 24] [0, 24, 1, 2, 3, 4, 5, 6, 7, 8, 9, 10, 11, 12, 13, 14, 15, 16, 17, 18, 19, 20, 21, 22, 23] (k_rV (As := [.int (1 - a1)]) (rest := []) ⟨hx, hb, hml, hown, hts⟩ hK hN hPc hDc (zX1_piecesOf hc22) (cwV 1 hts gX9_entering_X1_piecesOf rfl rfl rfl (by decide +kernel) ⟨Nat.le_of_ble_eq_true rfl, Nat.le_of_ble_eq_true rfl⟩) rfl rfl rfl hl.1 rfl (Nat.le_of_ble_eq_true rfl) dX9_entering_22 ⟨Nat.zero_le _, Nat.zero_le _⟩) hP hD hS hA rfl rfl (by decide) (by decide) rfl (by decide) (fun H locs hP hD hS => ?_)
    obtain ⟨r3, hc25, hm⟩ := k_bds hm
    refine k_i_0 (k_rS (As := [.long r2]) (rest := []) ⟨hx, hb, hml, hown, hts⟩ hK hN k_P0 (k_D0 (A := A)) (zX6_rollsThatEnter hc25) (va_cwS 1 hts gX9_entering_X6_rollsThatEnter rfl rfl rfl (by decide +kernel) ⟨Nat.le_of_ble_eq_true rfl, Nat.le_of_ble_eq_true rfl⟩) rfl hl.1 rfl (Nat.le_of_ble_eq_true rfl) dX9_entering_25 ⟨Nat.zero_le _, Nat.zero_le _⟩) hP hS hA (fun H locs hP hS => ?_)
    cases hm
  · have hm := k_ip cc4 hm
    cases hm
    exact k_throw (own := RX9) (ik := 72) (ic := 74) (cls := "java/lang/IndexOutOfBoundsException") hx hb hst hown (hts (.classLink RX9 72 "java/lang/IndexOutOfBoundsException") (by decide +kernel)) (hts (.initialized "java/lang/IndexOutOfBoundsException") (by decide +kernel)) (fun w hw => hts w (List.mem_cons_of_mem _ (by simp only [List.mem_append]; simp only [hw, or_true, true_or]))) (by decide +kernel) (by decide +kernel) (by decide +kernel) hq hS (hl.1.trans hml.symm) dX9_entering_7 dX9_entering_10 dX9_entering_11 dX9_entering_14 (fun x hx => (hex x hx).elim) (Nat.le_of_ble_eq_true rfl) (Nat.le_of_ble_eq_true rfl) (Nat.le_of_ble_eq_true rfl) (Nat.le_of_ble_eq_true rfl) hlocks hK hP hD

abbrev rmT9_blotsBehind : Room := { frames := 12, cells := 1, slots := 6, locals := 364 }
set_option maxHeartbeats 4000000 in
set_option maxRecDepth 100000 in
theorem zT9_blotsBehind {l : Launch} {D : va_G} {cI cJ cC cG : ClassId} {sz : Nat} {h9 hn h0 : Nat} {ap q ht pa pb pc : Nat → Nat} {jk : JT} {hasS : Bool} {cnt : Int32} {snp : GT} {G : Nat → GT} {c_mover : Int32} {c_phase : Int32} {c_dice : Int32} {c_stake : Int32} {c_cube : Int32} {c_pieces0 : Int64} {c_pieces1 : Int64} {c_score0 : Int32} {c_score1 : Int32} {c_hits0 : Int32} {c_hits1 : Int32} {c_stopped : Bool} {c_stopPart : Int32} {t_signs : Nat → Int32} {t_length : Int32} {a1 : Int32} {a2 : Int32} {E : String} (hst : l.stackTraces = false) (hm : mT9_blotsBehind c_mover c_dice c_pieces0 c_pieces1 a1 a2 = some E) : k_MT l yX9_blotsBehind wsX9_blotsBehind rmT9_blotsBehind D (kT cI cJ cC cG) sz ([.ref h9, .int a1, .int a2] : List Value) (wX cI cJ cC cG h9 hn ap q ht h0 pa pb pc jk hasS cnt snp G c_mover c_phase c_dice c_stake c_cube c_pieces0 c_pieces1 c_score0 c_score1 c_hits0 c_hits1 c_stopped c_stopPart t_signs t_length)  E := by
  refine k_st_T (cc := cX9_blotsBehind) (maxL := 4) (by decide) rfl (Nat.le_of_ble_eq_true rfl) ?_
  intro p e z m below meth c A hx hb hr hml hts hown hlocks hsz hN hA hK hP hD hS hq hex ls hl
  have hown : z.vm.findClass RX9 = some m.cls := hown
  have hinX1 : ∀ w ∈ wsX10, w ∈ wsX9_blotsBehind := by decide +kernel
  have hinX9 : ∀ w ∈ wsX90, w ∈ wsX9_blotsBehind := by decide +kernel
  have fl10 := hts (.fieldLink RX9 10 "MagpieRuns" "now" "LMagpieRuns$Game;") (by decide +kernel)
  have fl89 := hts (.fieldLink RX9 89 "MagpieRuns$Game" "mover" "I") (by decide +kernel)
  have hl : lv_has ls 4 [(0, .ref h9), (1, .int a1), (2, .int a2)] := hl
  unfold mT9_blotsBehind at hm
  refine lv_iload_n hx hb dX9_blotsBehind_0 rfl (lv_at hl 1 rfl) ?_
  obtain ⟨r1, hc1, hm⟩ := k_bds hm
  refine k_i_0 (k_rS (As := [.int a1]) (rest := []) ⟨hx, hb, hml, hown, hts⟩ hK hN k_P0 (k_D0 (A := A)) (zX9_isPointOrBar hc1) (va_cwS 1 hts gX9_blotsBehind_X9_isPointOrBar rfl rfl rfl (by decide +kernel) ⟨Nat.le_of_ble_eq_true rfl, Nat.le_of_ble_eq_true rfl⟩) rfl hl.1 rfl (Nat.le_of_ble_eq_true rfl) dX9_blotsBehind_1 ⟨Nat.zero_le _, Nat.zero_le _⟩) hP hS hA (fun H locs hP hS => ?_)
  refine lv_if_ne (tgt := 15) hx hb dX9_blotsBehind_4 (by decide) (fun cc4 => ?_) (fun cc4 => ?_)
  · have hm := k_in cc4 hm
    refine lv_iload_n hx hb dX9_blotsBehind_15 rfl (lv_at hl 2 rfl) ?_
    obtain ⟨r2, hc16, hm⟩ := k_bds hm
    refine k_i_0 (k_rS (As := [.int a2]) (rest := []) ⟨hx, hb, hml, hown, hts⟩ hK hN k_P0 (k_D0 (A := A)) (zX0_isDie hc16) (va_cwS 1 hts gX9_blotsBehind_X0_isDie rfl rfl rfl (by decide +kernel) ⟨Nat.le_of_ble_eq_true rfl, Nat.le_of_ble_eq_true rfl⟩) rfl hl.1 rfl (Nat.le_of_ble_eq_true rfl) dX9_blotsBehind_16 ⟨Nat.zero_le _, Nat.zero_le _⟩) hP hS hA (fun H locs hP hS => ?_)
    refine lv_if_ne (tgt := 30) hx hb dX9_blotsBehind_19 (by decide) (fun cc19 => ?_) (fun cc19 => ?_)
    · have hm := k_in cc19 hm
      refine lv_aload_n hx hb dX9_blotsBehind_30 rfl (lv_at hl 0 rfl) ?_
      refine va_get (D := D) (ci := 5) (v := .ref hn) (C := RX9) (T := TX9) (N := 4) hx hb hts hinX9 hown hK hP 0 rfl rfl 0 (by decide) fl10 (fun _ h9 => h9) rfl dX9_blotsBehind_31 ?_
      refine lv_iload_n hx hb dX9_blotsBehind_34 rfl (lv_at hl 1 rfl) ?_
      refine lv_iload_n hx hb dX9_blotsBehind_35 rfl (lv_at hl 2 rfl) ?_
      obtain ⟨r3, hc36, hm⟩ := k_bds hm
      have hPc : va_P D vwCl (wG hn c_mover c_phase c_dice c_stake c_cube c_pieces0 c_pieces1 c_score0 c_score1 c_hits0 c_hits1 c_stopped c_stopPart) _ := k_Psub hP [1] rfl
      have hDc : va_D A (wG hn c_mover c_phase c_dice c_stake c_cube c_pieces0 c_pieces1 c_score0 c_score1 c_hits0 c_hits1 c_stopped c_stopPart) := hD.sub [1] (by decide) rfl
      refine k_i_c (Wf := (wX cI cJ cC cG h9 hn ap q ht h0 pa pb pc jk hasS cnt snp G c_mover c_phase c_dice c_stake c_cube c_pieces0 c_pieces1 c_score0 c_score1 c_hits0 c_hits1 c_stopped c_stopPart t_signs t_length)) [1] [0, 2, 3, 4, 5, 6, 7, 8, 9, 10, 11, 12, 13, 14, 15, 16, 17, 18, 19, 20, 21, 22, 23, 24] [0, 24, 1, 2, 3, 4, 5, 6, 7, 8, 9, 10, 11, 12, 13, 14, 15, 16, 17, 18, 19, 20, 21, 22, 23] (k_rV (As := [.int a1, .int a2]) (rest := []) ⟨hx, hb, hml, hown, hts⟩ hK hN hPc hDc (zX1_reasonAgainst hc36) (cwV 2 hts gX9_blotsBehind_X1_reasonAgainst rfl rfl rfl (by decide +kernel) ⟨Nat.le_of_ble_eq_true rfl, Nat.le_of_ble_eq_true rfl⟩) rfl rfl rfl hl.1 rfl (Nat.le_of_ble_eq_true rfl) dX9_blotsBehind_36 ⟨Nat.zero_le _, Nat.zero_le _⟩) hP hD hS hA rfl rfl (by decide) (by decide) rfl (by decide) (fun H locs hP hD hS => ?_)
      refine lv_if_eq (tgt := 50) hx hb dX9_blotsBehind_39 (by decide) (fun cc39 => ?_) (fun cc39 => ?_)
      · have hm := k_ip cc39 hm
        refine lv_aload_n hx hb dX9_blotsBehind_50 rfl (lv_at hl 0 rfl) ?_
        refine va_get (D := D) (ci := 5) (v := .ref hn) (C := RX9) (T := TX9) (N := 4) hx hb hts hinX9 hown hK hP 0 rfl rfl 0 (by decide) fl10 (fun _ h9 => h9) rfl dX9_blotsBehind_51 ?_
        refine va_get (D := D) (ci := 0) (v := .int c_mover) (C := RX1) (T := TX1) (N := 13) hx hb hts hinX1 hown hK hP 1 rfl rfl 0 (by decide) fl89 (fun _ h9 => h9) rfl dX9_blotsBehind_54 ?_
        refine lv_iload_n hx hb dX9_blotsBehind_57 rfl (lv_at hl 1 rfl) ?_
        obtain ⟨r4, hc58, hm⟩ := k_bds hm
        refine k_i_0 (k_rS (As := [.int c_mover, .int a1]) (rest := []) ⟨hx, hb, hml, hown, hts⟩ hK hN k_P0 (k_D0 (A := A)) (zX1_wayOf hc58) (va_cwS 2 hts gX9_blotsBehind_X1_wayOf rfl rfl rfl (by decide +kernel) ⟨Nat.le_of_ble_eq_true rfl, Nat.le_of_ble_eq_true rfl⟩) rfl hl.1 rfl (Nat.le_of_ble_eq_true rfl) dX9_blotsBehind_58 ⟨Nat.zero_le _, Nat.zero_le _⟩) hP hS hA (fun H locs hP hS => ?_)
        refine lv_istore_n (lv' := [(3, .int r4), (0, .ref h9), (1, .int a1), (2, .int a2)]) hx hb dX9_blotsBehind_61 rfl hl (by decide) rfl (fun ls hl => ?_)
        refine lv_aload_n hx hb dX9_blotsBehind_62 rfl (lv_at hl 1 rfl) ?_
        refine va_get (D := D) (ci := 5) (v := .ref hn) (C := RX9) (T := TX9) (N := 4) hx hb hts hinX9 hown hK hP 0 rfl rfl 0 (by decide) fl10 (fun _ h9 => h9) rfl dX9_blotsBehind_63 ?_
        obtain ⟨r5, hc66, hm⟩ := k_bds hm
        have hPc : va_P D vwCl (wG hn c_mover c_phase c_dice c_stake c_cube c_pieces0 c_pieces1 c_score0 c_score1 c_hits0 c_hits1 c_stopped c_stopPart) _ := k_Psub hP [1] rfl
        have hDc : va_D A (wG hn c_mover c_phase c_dice c_stake c_cube c_pieces0 c_pieces1 c_score0 c_score1 c_hits0 c_hits1 c_stopped c_stopPart) := hD.sub [1] (by decide) rfl
        refine k_l_c (Wf := (wX cI cJ cC cG h9 hn ap q ht h0 pa pb pc jk hasS cnt snp G c_mover c_phase c_dice c_stake c_cube c_pieces0 c_pieces1 c_score0 c_score1 c_hits0 c_hits1 c_stopped c_stopPart t_signs t_length)) [1] [0, 2, 3, 4, 5, 6, 7, 8, 9, 10, 11, 12, 13, 14, 15, 16, 17, 18, 19, 20, 21, 22, 23, 24] [0, 24, 1, 2, 3, 4, 5, 6, 7, 8, 9, 10, 11, 12, 13, 14, 15, 16, 17, 18, 19, 20, 21, 22, 23] (k_rV (As := []) (rest := []) ⟨hx, hb, hml, hown, hts⟩ hK hN hPc hDc (zX1_moversPieces hc66) (cwV 0 hts gX9_blotsBehind_X1_moversPieces rfl rfl rfl (by decide +kernel) ⟨Nat.le_of_ble_eq_true rfl, Nat.le_of_ble_eq_true rfl⟩) rfl rfl rfl hl.1 rfl (Nat.le_of_ble_eq_true rfl) dX9_blotsBehind_66 ⟨Nat.zero_le _, Nat.zero_le _⟩) hP hD hS hA rfl rfl (by decide) (by decide) rfl (by decide) (fun H locs hP hD hS => ?_)
        refine lv_iload_n hx hb dX9_blotsBehind_69 rfl (lv_at hl 0 rfl) ?_
        refine lv_iload_n hx hb dX9_blotsBehind_70 rfl (lv_at hl 3 rfl) ?_
        obtain ⟨r6, hc71, hm⟩ := k_bds hm
        refine k_l_0 (k_rS (As := [.long r5, .int r4, .int a2]) (rest := []) ⟨hx, hb, hml, hown, hts⟩ hK hN k_P0 (k_D0 (A := A)) (zX7_mineBehind hc71) (va_cwS 3 hts gX9_blotsBehind_X7_mineBehind rfl rfl rfl (by decide +kernel) ⟨Nat.le_of_ble_eq_true rfl, Nat.le_of_ble_eq_true rfl⟩) rfl hl.1 rfl (Nat.le_of_ble_eq_true rfl) dX9_blotsBehind_71 ⟨Nat.zero_le _, Nat.zero_le _⟩) hP hS hA (fun H locs hP hS => ?_)
        obtain ⟨r7, hc74, hm⟩ := k_bds hm
        refine k_i_0 (k_rS (As := [.long r6]) (rest := []) ⟨hx, hb, hml, hown, hts⟩ hK hN k_P0 (k_D0 (A := A)) (zX3_singles hc74) (va_cwS 1 hts gX9_blotsBehind_X3_singles rfl rfl rfl (by decide +kernel) ⟨Nat.le_of_ble_eq_true rfl, Nat.le_of_ble_eq_true rfl⟩) rfl hl.1 rfl (Nat.le_of_ble_eq_true rfl) dX9_blotsBehind_74 ⟨Nat.zero_le _, Nat.zero_le _⟩) hP hS hA (fun H locs hP hS => ?_)
        cases hm
      · have hm := k_in cc39 hm
        cases hm
        exact k_throw (own := RX9) (ik := 50) (ic := 52) (cls := "java/lang/IllegalStateException") hx hb hst hown (hts (.classLink RX9 50 "java/lang/IllegalStateException") (by decide +kernel)) (hts (.initialized "java/lang/IllegalStateException") (by decide +kernel)) (fun w hw => hts w (List.mem_cons_of_mem _ (by simp only [List.mem_append]; simp only [hw, or_true, true_or]))) (by decide +kernel) (by decide +kernel) (by decide +kernel) hq hS (hl.1.trans hml.symm) dX9_blotsBehind_42 dX9_blotsBehind_45 dX9_blotsBehind_46 dX9_blotsBehind_49 (fun x hx => (hex x hx).elim) (Nat.le_of_ble_eq_true rfl) (Nat.le_of_ble_eq_true rfl) (Nat.le_of_ble_eq_true rfl) (Nat.le_of_ble_eq_true rfl) hlocks hK hP hD
    · have hm := k_ip cc19 hm
      cases hm
      exact k_throw (own := RX9) (ik := 43) (ic := 45) (cls := "java/lang/IllegalArgumentException") hx hb hst hown (hts (.classLink RX9 43 "java/lang/IllegalArgumentException") (by decide +kernel)) (hts (.initialized "java/lang/IllegalArgumentException") (by decide +kernel)) (fun w hw => hts w (List.mem_cons_of_mem _ (by simp only [List.mem_append]; simp only [hw, or_true, true_or]))) (by decide +kernel) (by decide +kernel) (by decide +kernel) hq hS (hl.1.trans hml.symm) dX9_blotsBehind_22 dX9_blotsBehind_25 dX9_blotsBehind_26 dX9_blotsBehind_29 (fun x hx => (hex x hx).elim) (Nat.le_of_ble_eq_true rfl) (Nat.le_of_ble_eq_true rfl) (Nat.le_of_ble_eq_true rfl) (Nat.le_of_ble_eq_true rfl) hlocks hK hP hD
  · have hm := k_ip cc4 hm
    cases hm
    exact k_throw (own := RX9) (ik := 72) (ic := 74) (cls := "java/lang/IndexOutOfBoundsException") hx hb hst hown (hts (.classLink RX9 72 "java/lang/IndexOutOfBoundsException") (by decide +kernel)) (hts (.initialized "java/lang/IndexOutOfBoundsException") (by decide +kernel)) (fun w hw => hts w (List.mem_cons_of_mem _ (by simp only [List.mem_append]; simp only [hw, or_true, true_or]))) (by decide +kernel) (by decide +kernel) (by decide +kernel) hq hS (hl.1.trans hml.symm) dX9_blotsBehind_7 dX9_blotsBehind_10 dX9_blotsBehind_11 dX9_blotsBehind_14 (fun x hx => (hex x hx).elim) (Nat.le_of_ble_eq_true rfl) (Nat.le_of_ble_eq_true rfl) (Nat.le_of_ble_eq_true rfl) (Nat.le_of_ble_eq_true rfl) hlocks hK hP hD
