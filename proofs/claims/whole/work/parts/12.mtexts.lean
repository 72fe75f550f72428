def mX5_isIn (c_size : Int32) (a1 : Int32) : Option (Bool) :=
  if a1 < 0 then (some (false)) else (if c_size ≤ a1 then (some (false)) else (if 128 ≤ a1 then (some (false)) else (some (true))))

def mX5_mineAt (c_mine : Nat → Int64) (c_size : Int32) (a1 : Int32) : Option (Int64) :=
  k_bd (mX5_isIn c_size a1) (fun r1 => if (k_b r1) = 0 then (some (0)) else (k_g a1 128 (some ((c_mine (Int32.toNatClampNeg a1))))))

def mX5_theirsAt (c_theirs : Nat → Int64) (c_size : Int32) (a1 : Int32) : Option (Int64) :=
  k_bd (mX5_isIn c_size a1) (fun r1 => if (k_b r1) = 0 then (some (0)) else (k_g a1 128 (some ((c_theirs (Int32.toNatClampNeg a1))))))

def mX5_diceAt (c_dice : Nat → Int32) (c_size : Int32) (a1 : Int32) : Option (Int32) :=
  k_bd (mX5_isIn c_size a1) (fun r1 => if (k_b r1) = 0 then (some ((0 : Int32))) else (k_g a1 128 (some ((c_dice (Int32.toNatClampNeg a1))))))

def mX5_clear (c_size : Int32) : Option ((Int32)) :=
  some (0)

def mX5_add_63 (a1 : Int64) (a3 : Int64) (a5 : Int32) (c_mine : Nat → Int64) (c_theirs : Nat → Int64) (c_dice : Nat → Int32) (c_size : Int32) : Option ((Nat → Int64) × (Nat → Int64) × (Nat → Int32) × (Int32)) :=
  if c_size < 0 then (some (c_mine, c_theirs, c_dice, c_size)) else (if 128 ≤ c_size then (some (c_mine, c_theirs, c_dice, c_size)) else (k_g c_size 128 (k_g c_size 128 (k_g c_size 128 (some ((vp_updL c_mine (Int32.toNatClampNeg c_size) a1), (vp_updL c_theirs (Int32.toNatClampNeg c_size) a3), (upd c_dice (Int32.toNatClampNeg c_size) a5), (c_size + 1)))))))
def mX5_add_3 (a1 : Int64) (a3 : Int64) (a5 : Int32) (k3 : (Int32) → (Nat → Int64) → (Nat → Int64) → (Nat → Int32) → (Int32) → Option ((Nat → Int64) × (Nat → Int64) × (Nat → Int32) × (Int32))) (l6 : Int32) (c_mine : Nat → Int64) (c_theirs : Nat → Int64) (c_dice : Nat → Int32) (c_size : Int32) : Option ((Nat → Int64) × (Nat → Int64) × (Nat → Int32) × (Int32)) :=
  if c_size ≤ l6 then (mX5_add_63 a1 a3 a5 c_mine c_theirs c_dice c_size) else (if 128 ≤ l6 then (mX5_add_63 a1 a3 a5 c_mine c_theirs c_dice c_size) else (k_g l6 128 (if (lg_cmp (c_mine (Int32.toNatClampNeg l6)) a1) = 0 then (k_g l6 128 (if (lg_cmp (c_theirs (Int32.toNatClampNeg l6)) a3) = 0 then (k_g l6 128 (if (c_dice (Int32.toNatClampNeg l6)) = a5 then (some (c_mine, c_theirs, c_dice, c_size)) else (k3 (l6 + 1) c_mine c_theirs c_dice c_size))) else (k3 (l6 + 1) c_mine c_theirs c_dice c_size))) else (k3 (l6 + 1) c_mine c_theirs c_dice c_size))))
def mX5_add (c_mine : Nat → Int64) (c_theirs : Nat → Int64) (c_dice : Nat → Int32) (c_size : Int32) (a1 : Int64) (a3 : Int64) (a5 : Int32) : Option ((Nat → Int64) × (Nat → Int64) × (Nat → Int32) × (Int32)) :=
  k_fix (fun _ _ _ _ _ => none) (mX5_add_3 a1 a3 a5) k_F 0 c_mine c_theirs c_dice c_size

def mX8_isFull (c_length : Int32) : Option (Bool) :=
  if c_length < 60 then (some (false)) else (some (true))

def mX8_put (c_signs : Nat → Int32) (c_length : Int32) (a1 : Int32) : Option ((Nat → Int32) × (Int32)) :=
  if c_length < 0 then (some (c_signs, c_length)) else (if 60 ≤ c_length then (some (c_signs, c_length)) else (k_g c_length 60 (some ((upd c_signs (Int32.toNatClampNeg c_length) (vp_nar .char a1)), (c_length + 1)))))

def mX8_empty (c_length : Int32) : Option ((Int32)) :=
  some (0)

def mX8_at (c_signs : Nat → Int32) (c_length : Int32) (a1 : Int32) : Option (Int32) :=
  if a1 < 0 then (some ((0 : Int32))) else (if c_length ≤ a1 then (some ((0 : Int32))) else (if 60 ≤ a1 then (some ((0 : Int32))) else (k_g a1 60 (k_gn (decide (vp_nar .char (c_signs (Int32.toNatClampNeg a1)) = (c_signs (Int32.toNatClampNeg a1)))) (some ((c_signs (Int32.toNatClampNeg a1))))))))

def mX8_endOfPart_6 (c_signs : Nat → Int32) (c_length : Int32) (a1 : Int32) (k6 : (Int32) → Option (Int32)) (l2 : Int32) : Option (Int32) :=
  if c_length ≤ l2 then (some (c_length)) else (k_bd (mX8_at c_signs c_length l2) (fun r1 => if r1 = 59 then (some (l2)) else (k6 (l2 + 1))))
def mX8_endOfPart (c_signs : Nat → Int32) (c_length : Int32) (a1 : Int32) : Option (Int32) :=
  k_fix (fun _ => none) (mX8_endOfPart_6 c_signs c_length a1) k_F (k_max (0 : Int32) a1)

def mX8_digitAt (c_signs : Nat → Int32) (c_length : Int32) (a1 : Int32) : Option (Int32) :=
  k_bd (mX8_at c_signs c_length a1) (fun r1 => some ((r1 - 48)))

def mX8_isDigit (a0 : Int32) : Option (Bool) :=
  if a0 < 48 then (some (false)) else (if 57 < a0 then (some (false)) else (some (true)))

def mX8_numberAt (c_signs : Nat → Int32) (c_length : Int32) (a1 : Int32) : Option (Int32) :=
  k_bd (mX8_digitAt c_signs c_length a1) (fun r1 => k_bd (mX8_at c_signs c_length (a1 + 1)) (fun r2 => k_bd (mX8_isDigit r2) (fun r3 => if (k_b r3) = 0 then (some (r1)) else (k_bd (mX8_digitAt c_signs c_length (a1 + 1)) (fun r4 => some (((10 * r1) + r4)))))))

def mX8_awaitedBehindDot (a0 : Int32) : Option (Int32) :=
  if a0 = 46 then (some ((2 : Int32))) else (some ((7 : Int32)))

def mX8_awaitedInPart (a0 : Int32) : Option (Int32) :=
  if a0 = 98 then (some ((5 : Int32))) else (if a0 = 100 then (some ((6 : Int32))) else (if a0 = 101 then (some ((6 : Int32))) else (if a0 = 109 then (some ((3 : Int32))) else (if a0 = 110 then (some ((6 : Int32))) else (if a0 = 114 then (some ((1 : Int32))) else (if a0 = 116 then (some ((6 : Int32))) else (if a0 = 120 then (some ((6 : Int32))) else (some ((7 : Int32))))))))))

def mX8_isDieSign (a0 : Int32) : Option (Bool) :=
  if a0 < 49 then (some (false)) else (if 54 < a0 then (some (false)) else (some (true)))

def mX8_awaitedBehindDigit (a0 : Int32) : Option (Int32) :=
  if a0 = 49 then (some ((4 : Int32))) else (k_bd (mX8_isDigit a0) (fun r1 => if (k_b r1) = 0 then (some ((7 : Int32))) else (some ((5 : Int32)))))

def mX8_awaitedBehind_99 (a0 : Int32) (a1 : Int32) : Option (Int32) :=
  k_bd (mX8_awaitedBehindDot a1) (fun r1 => some (r1))
def mX8_awaitedBehind (a0 : Int32) (a1 : Int32) : Option (Int32) :=
  if a0 = 0 then (k_bd (mX8_awaitedInPart a1) (fun r2 => some (r2))) else (if a0 = 1 then (k_bd (mX8_isDieSign a1) (fun r3 => if (k_b r3) = 0 then (some ((7 : Int32))) else (some ((2 : Int32))))) else (if a0 = 2 then (k_bd (mX8_isDieSign a1) (fun r4 => if (k_b r4) = 0 then (some ((7 : Int32))) else (some ((6 : Int32))))) else (if a0 = 3 then (k_bd (mX8_awaitedBehindDigit a1) (fun r5 => some (r5))) else (if a0 = 4 then (if a1 < 48 then (mX8_awaitedBehind_99 a0 a1 ) else (if 53 < a1 then (mX8_awaitedBehind_99 a0 a1 ) else (some ((5 : Int32))))) else (if a0 = 5 then (k_bd (mX8_awaitedBehindDot a1) (fun r6 => some (r6))) else (if a0 = 6 then (if a1 = 59 then (some ((0 : Int32))) else (some ((7 : Int32)))) else (some ((7 : Int32)))))))))

def mX8_firstWrong_4 (c_signs : Nat → Int32) (c_length : Int32) (k4 : (Int32) → (Int32) → Option (Int32)) (l1 : Int32) (l2 : Int32) : Option (Int32) :=
  if c_length ≤ l2 then (some (c_length)) else (k_bd (mX8_at c_signs c_length l2) (fun r1 => k_bd (mX8_awaitedBehind l1 r1) (fun r2 => if r2 = 7 then (some (l2)) else (k4 r2 (l2 + 1)))))
def mX8_firstWrong (c_signs : Nat → Int32) (c_length : Int32) : Option (Int32) :=
  k_fix (fun _ _ => none) (mX8_firstWrong_4 c_signs c_length) k_F 0 0

def mX8_isGame_4 (c_signs : Nat → Int32) (c_length : Int32) (k4 : (Int32) → (Int32) → Option (Bool)) (l1 : Int32) (l2 : Int32) : Option (Bool) :=
  if c_length ≤ l2 then (if l1 = 6 then (some (true)) else (some (false))) else (k_bd (mX8_at c_signs c_length l2) (fun r1 => k_bd (mX8_awaitedBehind l1 r1) (fun r2 => k4 r2 (l2 + 1))))
def mX8_isGame (c_signs : Nat → Int32) (c_length : Int32) : Option (Bool) :=
  k_fix (fun _ _ => none) (mX8_isGame_4 c_signs c_length) k_F 0 0

