def mX0_isDie (a0 : Int32) : Option (Bool) :=
  if a0 < 1 then (some (false)) else (if 6 < a0 then (some (false)) else (some (true)))

def mX0_rolled (a0 : Int32) (a1 : Int32) : Option (Int32) :=
  if a0 = a1 then (some (((a0 ||| (a1 <<< ((3 : Int32) &&& 31))) ||| ((a0 ||| (a1 <<< ((3 : Int32) &&& 31))) <<< ((6 : Int32) &&& 31))))) else (some ((a0 ||| (a1 <<< ((3 : Int32) &&& 31)))))

def mX0_at (a0 : Int32) (a1 : Int32) : Option (Int32) :=
  some (((k_iushr a0 (3 * a1)) &&& 7))

def mX0_count_4 (a0 : Int32) (k4 : (Int32) → (Int32) → Option (Int32)) (l1 : Int32) (l2 : Int32) : Option (Int32) :=
  if 4 ≤ l2 then (some (l1)) else (k_bd (mX0_at a0 l2) (fun r1 => if r1 = 0 then (k4 (l1 + 0) (l2 + 1)) else (k4 (l1 + 1) (l2 + 1))))
def mX0_count (a0 : Int32) : Option (Int32) :=
  k_fix (fun _ _ => none) (mX0_count_4 a0) k_F 0 0

def mX0_kinds (a0 : Int32) : Option (Int32) :=
  if a0 = 0 then (some ((0 : Int32))) else (k_bd (mX0_at a0 1) (fun r1 => if r1 = 0 then (some ((1 : Int32))) else (k_bd (mX0_at a0 0) (fun r2 => k_bd (mX0_at a0 1) (fun r3 => if r2 = r3 then (some ((1 : Int32))) else (some ((2 : Int32))))))))

def mX0_has (a0 : Int32) (a1 : Int32) : Option (Bool) :=
  if (a0 &&& 7) = a1 then (some (true)) else (if ((k_iushr a0 3) &&& 7) = a1 then (some (true)) else (some (false)))

def mX0_without (a0 : Int32) (a1 : Int32) : Option (Int32) :=
  k_bd (mX0_at a0 0) (fun r1 => if r1 = a1 then (some ((k_iushr a0 3))) else (k_bd (mX0_at a0 1) (fun r2 => if r2 = a1 then (k_bd (mX0_at a0 0) (fun r3 => some (r3))) else (some (a0)))))

def mX0_turned (a0 : Int32) : Option (Int32) :=
  k_bd (mX0_kinds a0) (fun r1 => if r1 = 2 then (k_bd (mX0_at a0 1) (fun r2 => k_bd (mX0_at a0 0) (fun r3 => k_bd (mX0_rolled r2 r3) (fun r4 => some (r4))))) else (some (a0)))

def mX0_greater (a0 : Int32) : Option (Int32) :=
  k_bd (mX0_at a0 0) (fun r1 => k_bd (mX0_at a0 1) (fun r2 => some ((k_max r1 r2))))

def mX3_on (a0 : Int64) (a2 : Int32) : Option (Int32) :=
  some (((Int64.toInt32 (k_lushr a0 (3 * a2))) &&& 7))

def mX3_moved (a0 : Int64) (a2 : Int32) (a3 : Int32) : Option (Int64) :=
  some (((a0 - (k_lshl 1 (3 * a2))) + (k_lshl 1 (3 * a3))))

def mX3_anyBeyond (a0 : Int64) (a2 : Int32) : Option (Bool) :=
  if (lg_cmp (k_lushr a0 ((3 * a2) + 3)) 0) = 0 then (some (false)) else (some (true))

def mX3_allOff (a0 : Int64) : Option (Bool) :=
  k_bd (mX3_anyBeyond a0 0) (fun r1 => if (k_b r1) = 0 then (some (true)) else (some (false)))

def mX3_across (a0 : Int64) (a2 : Int32) : Option (Int32) :=
  some (((Int64.toInt32 (k_lushr a0 (3 * (17 - a2)))) &&& 7))

def mX3_sumOfWays_4 (a0 : Int64) (k4 : (Int32) → (Int32) → Option (Int32)) (l2 : Int32) (l3 : Int32) : Option (Int32) :=
  if 17 < l3 then (some (l2)) else (k_bd (mX3_on a0 l3) (fun r1 => k4 (l2 + (l3 * r1)) (l3 + 1)))
def mX3_sumOfWays (a0 : Int64) : Option (Int32) :=
  k_fix (fun _ _ => none) (mX3_sumOfWays_4 a0) k_F 0 1

def mX3_singles_4 (a0 : Int64) (k4 : (Int32) → (Int32) → Option (Int32)) (l2 : Int32) (l3 : Int32) : Option (Int32) :=
  if 16 < l3 then (some (l2)) else (k_bd (mX3_on a0 l3) (fun r1 => if r1 = 1 then (k4 (l2 + 1) (l3 + 1)) else (k4 (l2 + 0) (l3 + 1))))
def mX3_singles (a0 : Int64) : Option (Int32) :=
  k_fix (fun _ _ => none) (mX3_singles_4 a0) k_F 0 1

def mX3_longestWall_31 (a0 : Int64) (k7 : (Int32) → (Int32) → (Int32) → Option (Int32)) (t0 : Int32) (l2 : Int32) (l4 : Int32) : Option (Int32) :=
  k7 (k_max l2 t0) t0 (l4 + 1)
def mX3_longestWall_7 (a0 : Int64) (k7 : (Int32) → (Int32) → (Int32) → Option (Int32)) (l2 : Int32) (l3 : Int32) (l4 : Int32) : Option (Int32) :=
  if 16 < l4 then (some (l2)) else (k_bd (mX3_on a0 l4) (fun r1 => if r1 < 2 then (mX3_longestWall_31 a0 k7 0 l2 l4) else (mX3_longestWall_31 a0 k7 (l3 + 1) l2 l4)))
def mX3_longestWall (a0 : Int64) : Option (Int32) :=
  k_fix (fun _ _ _ => none) (mX3_longestWall_7 a0) k_F 0 0 1

def mX7_ban_88 (a0 : Int64) (a2 : Int64) (a4 : Int32) (a5 : Int32) (a6 : Int32) (t0 : Bool) : Option (Int32) :=
  if (k_b t0) = 0 then (k_bd (mX3_anyBeyond a0 4) (fun r1 => if (k_b r1) = 0 then (some ((0 : Int32))) else (some ((5 : Int32))))) else (some ((5 : Int32)))
def mX7_ban_87 (a0 : Int64) (a2 : Int64) (a4 : Int32) (a5 : Int32) (a6 : Int32) : Option (Int32) :=
  mX7_ban_88 a0 a2 a4 a5 a6 false
def mX7_ban_41 (a0 : Int64) (a2 : Int64) (a4 : Int32) (a5 : Int32) (a6 : Int32) : Option (Int32) :=
  if a5 ≤ a6 then (if a6 ≤ a5 then (mX7_ban_87 a0 a2 a4 a5 a6 ) else (k_bd (mX3_anyBeyond a0 a5) (fun r2 => if (k_b r2) = 0 then (mX7_ban_87 a0 a2 a4 a5 a6 ) else (mX7_ban_88 a0 a2 a4 a5 a6 true)))) else (k_bd (mX3_across a2 (a5 - a6)) (fun r3 => if r3 < 2 then (some ((0 : Int32))) else (some ((4 : Int32)))))
def mX7_ban (a0 : Int64) (a2 : Int64) (a4 : Int32) (a5 : Int32) (a6 : Int32) : Option (Int32) :=
  k_bd (mX0_has a4 a6) (fun r4 => if (k_b r4) = 0 then (some ((1 : Int32))) else (k_bd (mX3_on a0 a5) (fun r5 => if r5 = 0 then (some ((2 : Int32))) else (if a5 = 17 then (mX7_ban_41 a0 a2 a4 a5 a6 ) else (k_bd (mX3_on a0 17) (fun r6 => if r6 ≤ 0 then (mX7_ban_41 a0 a2 a4 a5 a6 ) else (some ((3 : Int32)))))))))

def mX7_mineBehind (a0 : Int64) (a2 : Int32) (a3 : Int32) : Option (Int64) :=
  k_bd (mX3_moved a0 a2 (k_max (0 : Int32) (a2 - a3))) (fun r1 => some (r1))

def mX7_theirsBehind (a0 : Int64) (a2 : Int32) (a3 : Int32) : Option (Int64) :=
  if a2 ≤ a3 then (some (a0)) else (k_bd (mX3_across a0 (a2 - a3)) (fun r1 => if r1 = 1 then (k_bd (mX3_moved a0 (17 - (a2 - a3)) 17) (fun r2 => some (r2))) else (some (a0))))

def mX7_reachOf_42 (kR : (Int64) → (Int64) → (Int32) → (Int32) → Option (Int32)) (a0 : Int64) (a2 : Int64) (a4 : Int32) (a5 : Int32) (k26 : (Int32) → (Int32) → (Int32) → Option (Int32)) (k42 : (Int32) → (Int32) → (Int32) → (Int32) → Option (Int32)) (l6 : Int32) (l7 : Int32) (l8 : Int32) (l9 : Int32) : Option (Int32) :=
  k_bd (mX0_kinds a4) (fun r1 => if r1 ≤ l9 then (k26 l6 l7 (l8 + (-1))) else (k_bd (mX0_at a4 l9) (fun r2 => k_bd (mX7_ban a0 a2 a4 l8 r2) (fun r3 => if r3 = 0 then (k_bd (mX7_mineBehind a0 l8 r2) (fun r4 => k_bd (mX7_theirsBehind a2 l8 r2) (fun r5 => k_bd (mX0_without a4 r2) (fun r6 => k_bd (kR r4 r5 r6 (a5 - 1)) (fun r7 => k42 l6 (k_max l7 (1 + r7)) l8 (l9 + 1)))))) else (k42 l6 l7 l8 (l9 + 1))))))
def mX7_reachOf_26 (kR : (Int64) → (Int64) → (Int32) → (Int32) → Option (Int32)) (a0 : Int64) (a2 : Int64) (a4 : Int32) (a5 : Int32) (k26 : (Int32) → (Int32) → (Int32) → Option (Int32)) (l6 : Int32) (l7 : Int32) (l8 : Int32) : Option (Int32) :=
  if l8 < 1 then (some (l7)) else (if l6 ≤ l7 then (some (l7)) else (k_fix (fun _ _ _ _ => none) (mX7_reachOf_42 kR a0 a2 a4 a5 k26) k_F l6 l7 l8 0))
def mX7_reachOf_S (kR : (Int64) → (Int64) → (Int32) → (Int32) → Option (Int32)) (a0 : Int64) (a2 : Int64) (a4 : Int32) (a5 : Int32) : Option (Int32) :=
  if a4 = 0 then (some ((0 : Int32))) else (if 0 < a5 then (k_bd (mX0_count a4) (fun r8 => k_fix (fun _ _ _ => none) (mX7_reachOf_26 kR a0 a2 a4 a5) k_F r8 0 17)) else (some ((0 : Int32))))
def mX7_reachOf (fu : Nat) (a0 : Int64) (a2 : Int64) (a4 : Int32) (a5 : Int32) : Option (Int32) := k_fix (fun _ _ _ _ => none) mX7_reachOf_S fu a0 a2 a4 a5

def mX7_isAnyAllowed_3 (a0 : Int64) (a2 : Int64) (a4 : Int32) (a5 : Int32) (k3 : (Int32) → Option (Bool)) (l6 : Int32) : Option (Bool) :=
  if 17 < l6 then (some (false)) else (k_bd (mX7_ban a0 a2 a4 l6 a5) (fun r1 => if r1 = 0 then (some (true)) else (k3 (l6 + 1))))
def mX7_isAnyAllowed (a0 : Int64) (a2 : Int64) (a4 : Int32) (a5 : Int32) : Option (Bool) :=
  k_fix (fun _ => none) (mX7_isAnyAllowed_3 a0 a2 a4 a5) k_F 1

def mX7_reason_82 (a0 : Int64) (a2 : Int64) (a4 : Int32) (a5 : Int32) (a6 : Int32) (a7 : Int32) (t0 : Bool) : Option (Int32) :=
  if (k_b t0) = 0 then (some ((0 : Int32))) else (k_bd (mX0_greater a4) (fun r1 => if r1 ≤ a6 then (some ((0 : Int32))) else (k_bd (mX0_greater a4) (fun r2 => k_bd (mX7_isAnyAllowed a0 a2 a4 r2) (fun r3 => if (k_b r3) = 0 then (some ((0 : Int32))) else (some ((6 : Int32))))))))
def mX7_reason_81 (a0 : Int64) (a2 : Int64) (a4 : Int32) (a5 : Int32) (a6 : Int32) (a7 : Int32) : Option (Int32) :=
  mX7_reason_82 a0 a2 a4 a5 a6 a7 false
def mX7_reason (a0 : Int64) (a2 : Int64) (a4 : Int32) (a5 : Int32) (a6 : Int32) (a7 : Int32) : Option (Int32) :=
  k_bd (mX7_ban a0 a2 a4 a5 a6) (fun r4 => if r4 = 0 then (k_bd (mX7_mineBehind a0 a5 a6) (fun r5 => k_bd (mX7_theirsBehind a2 a5 a6) (fun r6 => k_bd (mX0_without a4 a6) (fun r7 => k_bd (mX7_reachOf 6 r5 r6 r7 4) (fun r8 => if (a7 - 1) ≤ r8 then (k_bd (mX0_kinds a4) (fun r9 => if r9 = 2 then (if a7 = 1 then (mX7_reason_82 a0 a2 a4 a5 a6 a7 true) else (mX7_reason_81 a0 a2 a4 a5 a6 a7 )) else (mX7_reason_81 a0 a2 a4 a5 a6 a7 ))) else (some ((6 : Int32)))))))) else (some (r4)))

def mX7_countPossible_26 (a0 : Int64) (a2 : Int64) (a4 : Int32) (k16 : (Int32) → (Int32) → (Int32) → Option (Int32)) (k26 : (Int32) → (Int32) → (Int32) → (Int32) → Option (Int32)) (l5 : Int32) (l6 : Int32) (l7 : Int32) (l8 : Int32) : Option (Int32) :=
  k_bd (mX0_kinds a4) (fun r1 => if r1 ≤ l8 then (k16 l5 l6 (l7 + 1)) else (k_bd (mX0_at a4 l8) (fun r2 => k_bd (mX7_reason a0 a2 a4 l7 r2 l5) (fun r3 => if r3 = 0 then (k26 l5 (l6 + 1) l7 (l8 + 1)) else (k26 l5 (l6 + 0) l7 (l8 + 1))))))
def mX7_countPossible_16 (a0 : Int64) (a2 : Int64) (a4 : Int32) (k16 : (Int32) → (Int32) → (Int32) → Option (Int32)) (l5 : Int32) (l6 : Int32) (l7 : Int32) : Option (Int32) :=
  if 17 < l7 then (some (l6)) else (k_fix (fun _ _ _ _ => none) (mX7_countPossible_26 a0 a2 a4 k16) k_F l5 l6 l7 0)
def mX7_countPossible (a0 : Int64) (a2 : Int64) (a4 : Int32) : Option (Int32) :=
  k_bd (mX7_reachOf 6 a0 a2 a4 4) (fun r4 => k_fix (fun _ _ _ => none) (mX7_countPossible_16 a0 a2 a4) k_F r4 0 1)

def mX6_walksInto_6 (a0 : Int32) (a1 : Int64) (a3 : Int32) (a4 : Int32) (k6 : (Int32) → (Int32) → Option (Bool)) (l5 : Int32) (l6 : Int32) : Option (Bool) :=
  if 4 ≤ l6 then (some (false)) else (k_bd (mX0_at a4 l6) (fun r1 => if r1 = 0 then (some (false)) else (k_bd (mX0_at a4 l6) (fun r2 => if (l5 - r2) = a3 then (some (true)) else (if (l5 - r2) < a3 then (some (false)) else (k_bd (mX3_across a1 (l5 - r2)) (fun r3 => if r3 < 2 then (k6 (l5 - r2) (l6 + 1)) else (some (false)))))))))
def mX6_walksInto (a0 : Int32) (a1 : Int64) (a3 : Int32) (a4 : Int32) : Option (Bool) :=
  k_fix (fun _ _ => none) (mX6_walksInto_6 a0 a1 a3 a4) k_F a0 0

def mX6_hitsInOrder_92 (a0 : Int64) (a2 : Int64) (a4 : Int32) (a5 : Int32) (k92 : (Int64) → (Int32) → (Int32) → Option (Bool)) (l6 : Int64) (l8 : Int32) (l9 : Int32) : Option (Bool) :=
  if 16 < l9 then (some (false)) else (k_bd (mX3_on l6 l9) (fun r1 => if r1 ≤ 0 then (k92 l6 l8 (l9 + 1)) else (k_bd (mX6_walksInto l9 a2 a4 l8) (fun r2 => if (k_b r2) = 0 then (k92 l6 l8 (l9 + 1)) else (some (true))))))
def mX6_hitsInOrder_86 (a0 : Int64) (a2 : Int64) (a4 : Int32) (a5 : Int32) (l6 : Int64) (l8 : Int32) : Option (Bool) :=
  k_fix (fun _ _ _ => none) (mX6_hitsInOrder_92 a0 a2 a4 a5) k_F l6 l8 (a4 + 1)
def mX6_hitsInOrder_10 (a0 : Int64) (a2 : Int64) (a4 : Int32) (a5 : Int32) (k10 : (Int64) → (Int32) → (Int32) → Option (Bool)) (l6 : Int64) (l8 : Int32) (l9 : Int32) : Option (Bool) :=
  if 4 ≤ l9 then (mX6_hitsInOrder_86 a0 a2 a4 a5 l6 l8) else (if l8 = 0 then (mX6_hitsInOrder_86 a0 a2 a4 a5 l6 l8) else (k_bd (mX3_on l6 17) (fun r3 => if r3 ≤ 0 then (mX6_hitsInOrder_86 a0 a2 a4 a5 l6 l8) else (k_bd (mX0_at l8 0) (fun r4 => if (17 - r4) = a4 then (some (true)) else (k_bd (mX3_across a2 (17 - r4)) (fun r5 => if r5 < 2 then (k_bd (mX3_moved l6 17 (17 - r4)) (fun r6 => k10 r6 (k_iushr l8 3) (l9 + 1))) else (some (false)))))))))
def mX6_hitsInOrder (a0 : Int64) (a2 : Int64) (a4 : Int32) (a5 : Int32) : Option (Bool) :=
  k_fix (fun _ _ _ => none) (mX6_hitsInOrder_10 a0 a2 a4 a5) k_F a0 a5 0

def mX6_canHit (a0 : Int64) (a2 : Int64) (a4 : Int32) (a5 : Int32) : Option (Bool) :=
  k_bd (mX6_hitsInOrder a0 a2 a4 a5) (fun r1 => if (k_b r1) = 0 then (k_bd (mX0_turned a5) (fun r2 => k_bd (mX6_hitsInOrder a0 a2 a4 r2) (fun r3 => if (k_b r3) = 0 then (some (false)) else (some (true))))) else (some (true)))

def mX6_rollByRoll_16 (a0 : Int64) (a2 : Int64) (a4 : Int32) (k6 : (Int32) → (Int32) → Option (Int32)) (k16 : (Int32) → (Int32) → (Int32) → Option (Int32)) (l5 : Int32) (l6 : Int32) (l7 : Int32) : Option (Int32) :=
  if 6 < l7 then (k6 l5 (l6 + 1)) else (k_bd (mX0_rolled l6 l7) (fun r1 => k_bd (mX6_canHit a0 a2 a4 r1) (fun r2 => if (k_b r2) = 0 then (k16 (l5 + 0) l6 (l7 + 1)) else (k16 (l5 + 1) l6 (l7 + 1)))))
def mX6_rollByRoll_6 (a0 : Int64) (a2 : Int64) (a4 : Int32) (k6 : (Int32) → (Int32) → Option (Int32)) (l5 : Int32) (l6 : Int32) : Option (Int32) :=
  if 6 < l6 then (some (l5)) else (k_fix (fun _ _ _ => none) (mX6_rollByRoll_16 a0 a2 a4 k6) k_F l5 l6 1)
def mX6_rollByRoll (a0 : Int64) (a2 : Int64) (a4 : Int32) : Option (Int32) :=
  k_fix (fun _ _ => none) (mX6_rollByRoll_6 a0 a2 a4) k_F 0 1

def mX6_kindByKind_36 (a0 : Int64) (a2 : Int64) (a4 : Int32) (k6 : (Int32) → (Int32) → Option (Int32)) (k17 : (Int32) → (Int32) → (Int32) → Option (Int32)) (t0 : Int32) (l5 : Int32) (l6 : Int32) (l7 : Int32) : Option (Int32) :=
  k_bd (mX0_rolled l6 l7) (fun r1 => k_bd (mX6_canHit a0 a2 a4 r1) (fun r2 => if (k_b r2) = 0 then (k17 (l5 + 0) l6 (l7 + 1)) else (k17 (l5 + t0) l6 (l7 + 1))))
def mX6_kindByKind_17 (a0 : Int64) (a2 : Int64) (a4 : Int32) (k6 : (Int32) → (Int32) → Option (Int32)) (k17 : (Int32) → (Int32) → (Int32) → Option (Int32)) (l5 : Int32) (l6 : Int32) (l7 : Int32) : Option (Int32) :=
  if 6 < l7 then (k6 l5 (l6 + 1)) else (if l6 = l7 then (mX6_kindByKind_36 a0 a2 a4 k6 k17 1 l5 l6 l7) else (mX6_kindByKind_36 a0 a2 a4 k6 k17 2 l5 l6 l7))
def mX6_kindByKind_6 (a0 : Int64) (a2 : Int64) (a4 : Int32) (k6 : (Int32) → (Int32) → Option (Int32)) (l5 : Int32) (l6 : Int32) : Option (Int32) :=
  if 6 < l6 then (some (l5)) else (k_fix (fun _ _ _ => none) (mX6_kindByKind_17 a0 a2 a4 k6) k_F l5 l6 l6)
def mX6_kindByKind (a0 : Int64) (a2 : Int64) (a4 : Int32) : Option (Int32) :=
  k_fix (fun _ _ => none) (mX6_kindByKind_6 a0 a2 a4) k_F 0 1

def mX6_rollsThatEnter_4 (a0 : Int64) (k4 : (Int32) → (Int32) → Option (Int32)) (l2 : Int32) (l3 : Int32) : Option (Int32) :=
  if 6 < l3 then (some ((36 - (l2 * l2)))) else (k_bd (mX3_across a0 (17 - l3)) (fun r1 => if r1 < 2 then (k4 (l2 + 0) (l3 + 1)) else (k4 (l2 + 1) (l3 + 1))))
def mX6_rollsThatEnter (a0 : Int64) : Option (Int32) :=
  k_fix (fun _ _ => none) (mX6_rollsThatEnter_4 a0) k_F 0 1

