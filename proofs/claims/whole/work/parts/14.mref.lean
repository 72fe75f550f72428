def mX10_thrown (c_thrown : Int32) : Option (Int32) :=
  some (c_thrown)

def mX10_throwing (c_thrown : Int32) (a1 : Int32) : Option (Int32 × (Int32)) :=
  some ((0 : Int32), a1)

def mX10_in (a0 : Int32) (a1 : Int32) (a2 : Int32) : Option (Bool) :=
  if a0 < a1 then (some (false)) else (if a2 < a0 then (some (false)) else (some (true)))

def mX10_isPlayer (a0 : Int32) : Option (Bool) :=
  k_bd (mX10_in a0 0 1) (fun r1 => some (r1))

def mX10_isPoint (a0 : Int32) : Option (Bool) :=
  k_bd (mX10_in a0 0 15) (fun r1 => some (r1))

def mX10_save_50 (c_s : Nat → Int32) (k50 : (Int32) → (Nat → Int32) → (Int32) → Option ((Nat → Int32) × (Int32))) (l1 : Int32) (c_before : Nat → Int32) (c_known : Int32) : Option ((Nat → Int32) × (Int32)) :=
  if 51 ≤ l1 then (some (c_before, (c_known + 1))) else (k_g l1 51 (k_g ((51 * c_known) + l1) 255 (k50 (l1 + 1) (upd c_before (Int32.toNatClampNeg ((51 * c_known) + l1)) (c_s (Int32.toNatClampNeg l1))) c_known)))
def mX10_save_48 (c_s : Nat → Int32) (c_before : Nat → Int32) (c_known : Int32) : Option ((Nat → Int32) × (Int32)) :=
  k_fix (fun _ _ _ => none) (mX10_save_50 c_s) k_F 0 c_before c_known
def mX10_save_10 (c_s : Nat → Int32) (k10 : (Int32) → (Nat → Int32) → (Int32) → Option ((Nat → Int32) × (Int32))) (l1 : Int32) (c_before : Nat → Int32) (c_known : Int32) : Option ((Nat → Int32) × (Int32)) :=
  if 204 ≤ l1 then (mX10_save_48 c_s c_before (c_known - 1)) else (k_g (51 + l1) 255 (k_g l1 255 (k10 (l1 + 1) (upd c_before (Int32.toNatClampNeg l1) (c_before (Int32.toNatClampNeg (51 + l1)))) c_known)))
def mX10_save (c_s : Nat → Int32) (c_before : Nat → Int32) (c_known : Int32) : Option ((Nat → Int32) × (Int32)) :=
  if c_known = 5 then (k_fix (fun _ _ _ => none) (mX10_save_10 c_s) k_F 0 c_before c_known) else (mX10_save_48 c_s c_before c_known)

def mX10_at (c_s : Nat → Int32) (a1 : Int32) (a2 : Int32) : Option (Int32) :=
  k_g (((18 * a1) + a2) + 1) 51 (some ((c_s (Int32.toNatClampNeg (((18 * a1) + a2) + 1)))))

def mX10_grow (c_s : Nat → Int32) (a1 : Int32) (a2 : Int32) (a3 : Int32) : Option ((Nat → Int32)) :=
  k_g (((18 * a1) + a2) + 1) 51 (k_g (((18 * a1) + a2) + 1) 51 (some ((upd c_s (Int32.toNatClampNeg (((18 * a1) + a2) + 1)) ((c_s (Int32.toNatClampNeg (((18 * a1) + a2) + 1))) + a3)))))

def mX10_clearDice_10 (k10 : (Int32) → (Nat → Int32) → Option ((Nat → Int32))) (l1 : Int32) (c_s : Nat → Int32) : Option ((Nat → Int32)) :=
  if 4 ≤ l1 then (some (c_s)) else (k_g (39 + l1) 51 (k10 (l1 + 1) (upd c_s (Int32.toNatClampNeg (39 + l1)) 0)))
def mX10_clearDice (c_s : Nat → Int32) : Option ((Nat → Int32)) :=
  k_fix (fun _ _ => none) (mX10_clearDice_10) k_F 0 (upd c_s 38 0)

def mX10_begins_2 (a1 : Int32) (k2 : (Int32) → (Nat → Int32) → Option ((Nat → Int32))) (l2 : Int32) (c_s : Nat → Int32) : Option ((Nat → Int32)) :=
  if 36 ≤ l2 then (k_bd (mX10_grow c_s 0 0 2) (fun w1 => k_bd (mX10_grow w1 0 4 2) (fun w2 => k_bd (mX10_grow w2 0 7 2) (fun w3 => k_bd (mX10_grow w3 1 15 2) (fun w4 => k_bd (mX10_grow w4 1 11 2) (fun w5 => k_bd (mX10_grow w5 1 8 2) (fun w6 => k_bd (mX10_clearDice (upd (upd (upd (upd w6 36 a1) 37 0) 43 1) 44 (-1))) (fun w7 => some (w7))))))))) else (k_g l2 51 (k2 (l2 + 1) (upd c_s (Int32.toNatClampNeg l2) 0)))
def mX10_begins (c_s : Nat → Int32) (a1 : Int32) : Option ((Nat → Int32)) :=
  k_fix (fun _ _ => none) (mX10_begins_2 a1) k_F 0 c_s

def mX10_way (a0 : Int32) (a1 : Int32) : Option (Int32) :=
  if a1 = (-1) then (some ((17 : Int32))) else (if a1 = 16 then (some ((0 : Int32))) else (if a0 = 0 then (some ((16 - a1))) else (some ((a1 + 1)))))

def mX10_target_25 (a0 : Int32) (a1 : Int32) (a2 : Int32) (t0 : Int32) : Option (Int32) :=
  if 0 ≤ t0 then (if t0 ≤ 16 then (some (t0)) else (some ((16 : Int32)))) else (some ((16 : Int32)))
def mX10_target (a0 : Int32) (a1 : Int32) (a2 : Int32) : Option (Int32) :=
  if a0 = 0 then (mX10_target_25 a0 a1 a2 (a1 + a2)) else (if a1 = (-1) then (mX10_target_25 a0 a1 a2 (16 - a2)) else (mX10_target_25 a0 a1 a2 (a1 - a2)))

def mX10_isBlock (c_s : Nat → Int32) (a1 : Int32) (a2 : Int32) : Option (Bool) :=
  if a2 = 16 then (some (false)) else (k_bd (mX10_at c_s a1 a2) (fun r1 => if r1 ≤ 1 then (some (false)) else (some (true))))

def mX10_longest_28 (c_s : Nat → Int32) (a1 : Int32) (k4 : (Int32) → (Int32) → Option (Int32)) (t0 : Int32) (l2 : Int32) (l3 : Int32) : Option (Int32) :=
  if t0 ≤ l2 then (k4 l2 (l3 + 1)) else (k4 t0 (l3 + 1))
def mX10_longest_4 (c_s : Nat → Int32) (a1 : Int32) (k4 : (Int32) → (Int32) → Option (Int32)) (l2 : Int32) (l3 : Int32) : Option (Int32) :=
  if 16 ≤ l3 then (some (l2)) else (k_bd (mX10_at c_s a1 l3) (fun r1 => if r1 ≤ 0 then (mX10_longest_28 c_s a1 k4 0 l2 l3) else (k_bd (mX10_way a1 l3) (fun r2 => mX10_longest_28 c_s a1 k4 r2 l2 l3))))
def mX10_longest (c_s : Nat → Int32) (a1 : Int32) : Option (Int32) :=
  k_fix (fun _ _ => none) (mX10_longest_4 c_s a1) k_F 0 (-1)

def mX10_refused_85 (c_s : Nat → Int32) (a1 : Int32) (a2 : Int32) (a3 : Int32) (t0 : Bool) (l4 : Int32) : Option (Int32) :=
  if l4 = 16 then (if (k_b t0) = 0 then (some ((0 : Int32))) else (some ((5 : Int32)))) else (some ((0 : Int32)))
def mX10_refused_84 (c_s : Nat → Int32) (a1 : Int32) (a2 : Int32) (a3 : Int32) (l4 : Int32) : Option (Int32) :=
  mX10_refused_85 c_s a1 a2 a3 false l4
def mX10_refused_27 (c_s : Nat → Int32) (a1 : Int32) (a2 : Int32) (a3 : Int32) : Option (Int32) :=
  k_bd (mX10_target a1 a2 a3) (fun r1 => k_bd (mX10_isBlock c_s (1 - a1) r1) (fun r2 => if (k_b r2) = 0 then (k_bd (mX10_longest c_s a1) (fun r3 => if 4 < r3 then (mX10_refused_85 c_s a1 a2 a3 true r1) else (k_bd (mX10_way a1 a2) (fun r4 => if a3 ≤ r4 then (mX10_refused_84 c_s a1 a2 a3 r1) else (k_bd (mX10_longest c_s a1) (fun r5 => k_bd (mX10_way a1 a2) (fun r6 => if r5 ≤ r6 then (mX10_refused_84 c_s a1 a2 a3 r1) else (mX10_refused_85 c_s a1 a2 a3 true r1)))))))) else (some ((4 : Int32)))))
def mX10_refused (c_s : Nat → Int32) (a1 : Int32) (a2 : Int32) (a3 : Int32) : Option (Int32) :=
  k_bd (mX10_at c_s a1 a2) (fun r7 => if r7 = 0 then (some ((2 : Int32))) else (if a2 = (-1) then (mX10_refused_27 c_s a1 a2 a3 ) else (k_bd (mX10_at c_s a1 (-1)) (fun r8 => if r8 ≤ 0 then (mX10_refused_27 c_s a1 a2 a3 ) else (some ((3 : Int32)))))))

def mX10_moves_59 (a1 : Int32) (a2 : Int32) (a3 : Int32) (l4 : Int32) (l5 : Bool) (c_s : Nat → Int32) : Option (Bool × (Nat → Int32)) :=
  k_bd (mX10_grow c_s a1 a2 (-1)) (fun w1 => k_bd (mX10_grow w1 a1 l4 1) (fun w2 => some (l5, w2)))
def mX10_moves_33 (a1 : Int32) (a2 : Int32) (a3 : Int32) (t0 : Bool) (l4 : Int32) (c_s : Nat → Int32) : Option (Bool × (Nat → Int32)) :=
  if (k_b t0) = 0 then (mX10_moves_59 a1 a2 a3 l4 t0 c_s) else (k_bd (mX10_grow c_s (1 - a1) l4 (-1)) (fun w3 => k_bd (mX10_grow w3 (1 - a1) (-1) 1) (fun w4 => mX10_moves_59 a1 a2 a3 l4 t0 w4)))
def mX10_moves_32 (a1 : Int32) (a2 : Int32) (a3 : Int32) (l4 : Int32) (c_s : Nat → Int32) : Option (Bool × (Nat → Int32)) :=
  mX10_moves_33 a1 a2 a3 false l4 c_s
def mX10_moves (c_s : Nat → Int32) (a1 : Int32) (a2 : Int32) (a3 : Int32) : Option (Bool × (Nat → Int32)) :=
  k_bd (mX10_target a1 a2 a3) (fun r5 => if r5 = 16 then (mX10_moves_32 a1 a2 a3 r5 c_s) else (k_bd (mX10_at c_s (1 - a1) r5) (fun r6 => if r6 = 1 then (mX10_moves_33 a1 a2 a3 true r5 c_s) else (mX10_moves_32 a1 a2 a3 r5 c_s))))

def mX10_isAny_2 (c_s : Nat → Int32) (a1 : Int32) (a2 : Int32) (k2 : (Int32) → Option (Bool)) (l3 : Int32) : Option (Bool) :=
  if 16 ≤ l3 then (some (false)) else (k_bd (mX10_refused c_s a1 l3 a2) (fun r1 => if r1 = 0 then (some (true)) else (k2 (l3 + 1))))
def mX10_isAny (c_s : Nat → Int32) (a1 : Int32) (a2 : Int32) : Option (Bool) :=
  k_fix (fun _ => none) (mX10_isAny_2 c_s a1 a2) k_F (-1)

def mX10_lays_2 (c_s : Nat → Int32) (a1 : Int32) (k2 : (Int32) → (Nat → Int32) → Option ((Nat → Int32))) (l2 : Int32) (c_laid : Nat → Int32) : Option ((Nat → Int32)) :=
  if 36 ≤ l2 then (some (c_laid)) else (k_g l2 51 (k_g ((36 * a1) + l2) 108 (k2 (l2 + 1) (upd c_laid (Int32.toNatClampNeg ((36 * a1) + l2)) (c_s (Int32.toNatClampNeg l2))))))
def mX10_lays (c_s : Nat → Int32) (c_laid : Nat → Int32) (a1 : Int32) : Option ((Nat → Int32)) :=
  k_fix (fun _ _ => none) (mX10_lays_2 c_s a1) k_F 0 c_laid

def mX10_takesUp_2 (c_laid : Nat → Int32) (a1 : Int32) (k2 : (Int32) → (Nat → Int32) → Option ((Nat → Int32))) (l2 : Int32) (c_s : Nat → Int32) : Option ((Nat → Int32)) :=
  if 36 ≤ l2 then (some (c_s)) else (k_g ((36 * a1) + l2) 108 (k_g l2 51 (k2 (l2 + 1) (upd c_s (Int32.toNatClampNeg l2) (c_laid (Int32.toNatClampNeg ((36 * a1) + l2)))))))
def mX10_takesUp (c_s : Nat → Int32) (c_laid : Nat → Int32) (a1 : Int32) : Option ((Nat → Int32)) :=
  k_fix (fun _ _ => none) (mX10_takesUp_2 c_laid a1) k_F 0 c_s

def mX10_isSecond (c_s : Nat → Int32) (c_laid : Nat → Int32) (a1 : Int32) (a2 : Int32) (a3 : Int32) (a4 : Int32) : Option (Bool × (Nat → Int32) × (Nat → Int32)) :=
  k_bd (mX10_lays c_s c_laid 2) (fun w1 => k_bd2 (mX10_moves c_s a1 a2 a3) (fun r2 w3 => k_bd (mX10_isAny w3 a1 a4) (fun r4 => k_bd (mX10_takesUp w3 w1 2) (fun w5 => some (r4, w5, w1)))))

def mX10_isBoth_3 (a1 : Int32) (a2 : Int32) (a3 : Int32) (k3 : (Int32) → (Nat → Int32) → (Nat → Int32) → Option (Bool × (Nat → Int32) × (Nat → Int32))) (l4 : Int32) (c_s : Nat → Int32) (c_laid : Nat → Int32) : Option (Bool × (Nat → Int32) × (Nat → Int32)) :=
  if 16 ≤ l4 then (some (false, c_s, c_laid)) else (k_bd (mX10_refused c_s a1 l4 a2) (fun r1 => if r1 = 0 then (k_bd3 (mX10_isSecond c_s c_laid a1 l4 a2 a3) (fun r2 w3 w4 => if (k_b r2) = 0 then (k3 (l4 + 1) w3 w4) else (some (true, w3, w4)))) else (k3 (l4 + 1) c_s c_laid)))
def mX10_isBoth (c_s : Nat → Int32) (c_laid : Nat → Int32) (a1 : Int32) (a2 : Int32) (a3 : Int32) : Option (Bool × (Nat → Int32) × (Nat → Int32)) :=
  k_fix (fun _ _ _ => none) (mX10_isBoth_3 a1 a2 a3) k_F (-1) c_s c_laid

def mX10_areUnlike (c_s : Nat → Int32) : Option (Bool) :=
  if (c_s 38) = 2 then (if (c_s 39) = (c_s 40) then (some (false)) else (some (true))) else (some (false))

def mX10_reaches_150 (l2 : Int32) (c_s : Nat → Int32) (c_laid : Nat → Int32) : Option (Int32 × (Nat → Int32) × (Nat → Int32)) :=
  k_bd (mX10_takesUp c_s c_laid 0) (fun w1 => some (l2, w1, c_laid))
def mX10_reaches_88 (k88 : (Int32) → (Int32) → (Int32) → (Nat → Int32) → (Nat → Int32) → Option (Int32 × (Nat → Int32) × (Nat → Int32))) (l1 : Int32) (l2 : Int32) (l3 : Int32) (c_s : Nat → Int32) (c_laid : Nat → Int32) : Option (Int32 × (Nat → Int32) × (Nat → Int32)) :=
  if (c_s 38) ≤ l2 then (mX10_reaches_150 l2 c_s c_laid) else (if 16 ≤ l3 then (mX10_reaches_150 l2 c_s c_laid) else (k_bd (mX10_refused c_s l1 l3 (c_s 39)) (fun r2 => if r2 = 0 then (k_bd2 (mX10_moves c_s l1 l3 (c_s 39)) (fun r3 w4 => k88 l1 (l2 + 1) (-1) w4 c_laid)) else (k88 l1 l2 (l3 + 1) c_s c_laid))))
def mX10_reaches (c_s : Nat → Int32) (c_laid : Nat → Int32) : Option (Int32 × (Nat → Int32) × (Nat → Int32)) :=
  k_bd (mX10_areUnlike c_s) (fun r5 => if (k_b r5) = 0 then (k_bd (mX10_lays c_s c_laid 0) (fun w6 => k_fix (fun _ _ _ _ _ => none) (mX10_reaches_88) k_F (c_s 36) 0 (-1) c_s w6)) else (k_bd3 (mX10_isBoth c_s c_laid (c_s 36) (c_s 39) (c_s 40)) (fun r7 w8 w9 => if (k_b r7) = 0 then (k_bd3 (mX10_isBoth w8 w9 (c_s 36) (c_s 40) (c_s 39)) (fun r10 w11 w12 => if (k_b r10) = 0 then (k_bd (mX10_isAny w11 (c_s 36) (c_s 39)) (fun r13 => if (k_b r13) = 0 then (k_bd (mX10_isAny w11 (c_s 36) (c_s 40)) (fun r14 => if (k_b r14) = 0 then (some ((0 : Int32), w11, w12)) else (some ((1 : Int32), w11, w12)))) else (some ((1 : Int32), w11, w12)))) else (some ((2 : Int32), w11, w12)))) else (some ((2 : Int32), w8, w9)))))

def mX10_isBarred (c_s : Nat → Int32) (c_laid : Nat → Int32) (a1 : Int32) (a2 : Int32) (a3 : Int32) : Option (Bool × (Nat → Int32) × (Nat → Int32)) :=
  k_bd (mX10_areUnlike c_s) (fun r1 => if (k_b r1) = 0 then (some (false, c_s, c_laid)) else (if a3 = 2 then (k_bd3 (mX10_isSecond c_s c_laid (c_s 36) a1 a2 (((c_s 39) + (c_s 40)) - a2)) (fun r3 w4 w5 => if (k_b r3) = 0 then (some (true, w4, w5)) else (some (false, w4, w5)))) else (if (((c_s 39) + (c_s 40)) - a2) ≤ a2 then (some (false, c_s, c_laid)) else (k_bd (mX10_isAny c_s (c_s 36) (((c_s 39) + (c_s 40)) - a2)) (fun r2 => if (k_b r2) = 0 then (some (false, c_s, c_laid)) else (some (true, c_s, c_laid)))))))

def mX10_isLeft_4 (c_s : Nat → Int32) (a1 : Int32) (k4 : (Bool) → (Int32) → Option (Bool)) (l2 : Bool) (l3 : Int32) : Option (Bool) :=
  if (c_s 38) ≤ l3 then (some (l2)) else (if (k_b l2) = 0 then (k_g (39 + l3) 51 (if (c_s (Int32.toNatClampNeg (39 + l3))) = a1 then (k4 true (l3 + 1)) else (k4 false (l3 + 1)))) else (k4 true (l3 + 1)))
def mX10_isLeft (c_s : Nat → Int32) (a1 : Int32) : Option (Bool) :=
  k_fix (fun _ _ => none) (mX10_isLeft_4 c_s a1) k_F false 0

def mX10_why (c_s : Nat → Int32) (c_laid : Nat → Int32) (a1 : Int32) (a2 : Int32) : Option (Int32 × (Nat → Int32) × (Nat → Int32)) :=
  k_bd (mX10_isLeft c_s a2) (fun r1 => if (k_b r1) = 0 then (some ((1 : Int32), c_s, c_laid)) else (k_bd (mX10_refused c_s (c_s 36) a1 a2) (fun r2 => if r2 ≤ 0 then (k_bd3 (mX10_reaches c_s c_laid) (fun r3 w4 w5 => k_bd3 (mX10_isBarred w4 w5 a1 a2 r3) (fun r6 w7 w8 => if (k_b r6) = 0 then (some ((0 : Int32), w7, w8)) else (some ((6 : Int32), w7, w8))))) else (some (r2, c_s, c_laid)))))

def mX10_uses_34 (a1 : Int32) (k34 : (Int32) → (Nat → Int32) → Option ((Nat → Int32))) (l3 : Int32) (c_s : Nat → Int32) : Option ((Nat → Int32)) :=
  if 3 ≤ l3 then (some ((upd c_s 42 0))) else (k_g ((39 + l3) + 1) 51 (k_g (39 + l3) 51 (k34 (l3 + 1) (upd c_s (Int32.toNatClampNeg (39 + l3)) (c_s (Int32.toNatClampNeg ((39 + l3) + 1)))))))
def mX10_uses_2 (a1 : Int32) (k2 : (Int32) → (Nat → Int32) → Option ((Nat → Int32))) (l2 : Int32) (c_s : Nat → Int32) : Option ((Nat → Int32)) :=
  k_g (39 + l2) 51 (if (c_s (Int32.toNatClampNeg (39 + l2))) = a1 then (k_fix (fun _ _ => none) (mX10_uses_34 a1) k_F l2 (upd c_s 38 ((c_s 38) - 1))) else (k2 (l2 + 1) c_s))
def mX10_uses (c_s : Nat → Int32) (a1 : Int32) : Option ((Nat → Int32)) :=
  k_fix (fun _ _ => none) (mX10_uses_2 a1) k_F 0 c_s

def mX10_rolls_57 (a1 : Int32) (a2 : Int32) (k27 : (Int32) → (Nat → Int32) → Option (Int32 × (Nat → Int32))) (t0 : Int32) (t1 : Int32) (l3 : Int32) (c_s : Nat → Int32) : Option (Int32 × (Nat → Int32)) :=
  k_g t1 51 (k27 (l3 + 1) (upd c_s (Int32.toNatClampNeg t1) t0))
def mX10_rolls_27 (a1 : Int32) (a2 : Int32) (k27 : (Int32) → (Nat → Int32) → Option (Int32 × (Nat → Int32))) (l3 : Int32) (c_s : Nat → Int32) : Option (Int32 × (Nat → Int32)) :=
  if (c_s 38) ≤ l3 then (some ((c_s 38), c_s)) else (if (k_irem l3 2) = 0 then (mX10_rolls_57 a1 a2 k27 a1 (39 + l3) l3 c_s) else (mX10_rolls_57 a1 a2 k27 a2 (39 + l3) l3 c_s))
def mX10_rolls_24 (a1 : Int32) (a2 : Int32) (t0 : Int32) (t1 : Int32) (c_s : Nat → Int32) : Option (Int32 × (Nat → Int32)) :=
  k_g t1 51 (k_fix (fun _ _ => none) (mX10_rolls_27 a1 a2) k_F 0 (upd c_s (Int32.toNatClampNeg t1) t0))
def mX10_rolls (c_s : Nat → Int32) (a1 : Int32) (a2 : Int32) : Option (Int32 × (Nat → Int32)) :=
  if a1 = a2 then (mX10_rolls_24 a1 a2 4 38 (upd c_s 37 1)) else (mX10_rolls_24 a1 a2 2 38 (upd c_s 37 1))

def mX10_steps_109 (a1 : Int32) (a2 : Int32) (t0 : Int32) (t1 : Int32) (t2 : Int32) (l4 : Bool) (c_s : Nat → Int32) : Option (Bool × (Nat → Int32)) :=
  k_g t2 51 (some (l4, (upd c_s (Int32.toNatClampNeg t2) (t1 + t0))))
def mX10_steps_37 (a1 : Int32) (a2 : Int32) (t0 : Bool) (t1 : Int32) (t2 : Int32) (l3 : Int32) (l4 : Bool) (c_s : Nat → Int32) : Option (Bool × (Nat → Int32)) :=
  k_g t2 51 (k_bd (mX10_uses (upd c_s (Int32.toNatClampNeg t2) (t1 + (k_b t0))) a2) (fun w1 => k_bd (mX10_at w1 l3 16) (fun r2 => if r2 = 6 then (k_bd (mX10_clearDice (upd w1 37 3)) (fun w3 => k_g (45 + l3) 51 (k_bd (mX10_at w3 (1 - l3) 16) (fun r4 => if r4 = 0 then (mX10_steps_109 a1 a2 (2 * (w3 43)) (w3 (Int32.toNatClampNeg (45 + l3))) (45 + l3) l4 w3) else (mX10_steps_109 a1 a2 (w3 43) (w3 (Int32.toNatClampNeg (45 + l3))) (45 + l3) l4 w3))))) else (some (l4, w1)))))
def mX10_steps (c_s : Nat → Int32) (a1 : Int32) (a2 : Int32) : Option (Bool × (Nat → Int32)) :=
  k_bd2 (mX10_moves c_s (c_s 36) a1 a2) (fun r5 w6 => k_g (48 - (c_s 36)) 51 (if (k_b r5) = 0 then (mX10_steps_37 a1 a2 false (w6 (Int32.toNatClampNeg (48 - (c_s 36)))) (48 - (c_s 36)) (c_s 36) r5 w6) else (mX10_steps_37 a1 a2 true (w6 (Int32.toNatClampNeg (48 - (c_s 36)))) (48 - (c_s 36)) (c_s 36) r5 w6)))

def mX10_canEnd (c_s : Nat → Int32) (c_laid : Nat → Int32) : Option (Bool × (Nat → Int32) × (Nat → Int32)) :=
  if (c_s 37) = 1 then (k_bd3 (mX10_reaches c_s c_laid) (fun r1 w2 w3 => if r1 = 0 then (some (true, w2, w3)) else (some (false, w2, w3)))) else (some (false, c_s, c_laid))

def mX10_ends (c_s : Nat → Int32) : Option (Int32 × (Nat → Int32)) :=
  k_bd (mX10_clearDice c_s) (fun w1 => some (((upd (upd w1 37 0) 36 (1 - ((upd w1 37 0) 36))) 36), (upd (upd w1 37 0) 36 (1 - ((upd w1 37 0) 36)))))

def mX10_canOffer (c_s : Nat → Int32) : Option (Bool) :=
  if (c_s 37) = 0 then (if (c_s 44) = (1 - (c_s 36)) then (some (false)) else (if 32 < (c_s 43) then (some (false)) else (some (true)))) else (some (false))

def mX10_offers (c_s : Nat → Int32) : Option (Int32 × (Nat → Int32)) :=
  some ((2 * ((upd c_s 37 2) 43)), (upd c_s 37 2))

def mX10_doubles (c_s : Nat → Int32) : Option (Int32 × (Nat → Int32)) :=
  some (((upd (upd (upd c_s 37 0) 43 (((upd c_s 37 0) 43) * 2)) 44 (1 - ((upd (upd c_s 37 0) 43 (((upd c_s 37 0) 43) * 2)) 36))) 43), (upd (upd (upd c_s 37 0) 43 (((upd c_s 37 0) 43) * 2)) 44 (1 - ((upd (upd c_s 37 0) 43 (((upd c_s 37 0) 43) * 2)) 36))))

def mX10_drops (c_s : Nat → Int32) : Option (Int32 × (Nat → Int32)) :=
  k_g (45 + ((upd c_s 37 3) 36)) 51 (k_g (45 + ((upd c_s 37 3) 36)) 51 (k_g (45 + ((upd (upd c_s 37 3) (Int32.toNatClampNeg (45 + ((upd c_s 37 3) 36))) (((upd c_s 37 3) (Int32.toNatClampNeg (45 + ((upd c_s 37 3) 36)))) + ((upd c_s 37 3) 43))) 36)) 51 (some (((upd (upd c_s 37 3) (Int32.toNatClampNeg (45 + ((upd c_s 37 3) 36))) (((upd c_s 37 3) (Int32.toNatClampNeg (45 + ((upd c_s 37 3) 36)))) + ((upd c_s 37 3) 43))) (Int32.toNatClampNeg (45 + ((upd (upd c_s 37 3) (Int32.toNatClampNeg (45 + ((upd c_s 37 3) 36))) (((upd c_s 37 3) (Int32.toNatClampNeg (45 + ((upd c_s 37 3) 36)))) + ((upd c_s 37 3) 43))) 36)))), (upd (upd c_s 37 3) (Int32.toNatClampNeg (45 + ((upd c_s 37 3) 36))) (((upd c_s 37 3) (Int32.toNatClampNeg (45 + ((upd c_s 37 3) 36)))) + ((upd c_s 37 3) 43)))))))

def mX10_anew (c_s : Nat → Int32) : Option (Int32 × (Nat → Int32)) :=
  k_bd (mX10_begins c_s (1 - (c_s 36))) (fun w1 => some ((w1 36), w1))

def mX10_pip_4 (c_s : Nat → Int32) (a1 : Int32) (k4 : (Int32) → (Int32) → Option (Int32)) (l2 : Int32) (l3 : Int32) : Option (Int32) :=
  if 16 ≤ l3 then (some (l2)) else (k_bd (mX10_at c_s a1 l3) (fun r1 => k_bd (mX10_way a1 l3) (fun r2 => k4 (l2 + (r1 * r2)) (l3 + 1))))
def mX10_pip (c_s : Nat → Int32) (a1 : Int32) : Option (Int32) :=
  k_fix (fun _ _ => none) (mX10_pip_4 c_s a1) k_F 0 (-1)

def mX10_roll_25 (a1 : Int32) (a2 : Int32) (c_s : Nat → Int32) (c_before : Nat → Int32) (c_known : Int32) (c_thrown : Int32) : Option (Int32 × (Nat → Int32) × (Nat → Int32) × (Int32) × (Int32)) :=
  k_bd2 (mX10_throwing c_thrown 1) (fun r1 w2 => some (r1, c_s, c_before, c_known, w2))
def mX10_roll (c_s : Nat → Int32) (c_before : Nat → Int32) (c_known : Int32) (c_thrown : Int32) (a1 : Int32) (a2 : Int32) : Option (Int32 × (Nat → Int32) × (Nat → Int32) × (Int32) × (Int32)) :=
  k_bd (mX10_in a1 1 6) (fun r3 => if (k_b r3) = 0 then (mX10_roll_25 a1 a2 c_s c_before c_known 0) else (k_bd (mX10_in a2 1 6) (fun r4 => if (k_b r4) = 0 then (mX10_roll_25 a1 a2 c_s c_before c_known 0) else (if (c_s 37) = 0 then (k_bd2 (mX10_save c_s c_before c_known) (fun w5 w6 => k_bd2 (mX10_rolls c_s a1 a2) (fun r7 w8 => some (r7, w8, w5, w6, 0)))) else (k_bd2 (mX10_throwing 0 2) (fun r9 w10 => some (r9, c_s, c_before, c_known, w10)))))))

def mX10_fault (a0 : Int32) (a1 : Int32) : Option (Int32) :=
  k_bd (mX10_in a0 (-1) 15) (fun r1 => if (k_b r1) = 0 then (some ((1 : Int32))) else (k_bd (mX10_in a1 1 6) (fun r2 => if (k_b r2) = 0 then (some ((2 : Int32))) else (some ((0 : Int32))))))

def mX10_step_30 (a1 : Int32) (a2 : Int32) (c_s : Nat → Int32) (c_before : Nat → Int32) (c_known : Int32) (c_thrown : Int32) (c_laid : Nat → Int32) : Option (Bool × (Nat → Int32) × (Nat → Int32) × (Int32) × (Int32) × (Nat → Int32)) :=
  if c_thrown ≤ 0 then (k_bd2 (mX10_save c_s c_before c_known) (fun w1 w2 => k_bd2 (mX10_steps c_s a1 a2) (fun r3 w4 => some (r3, w4, w1, w2, c_thrown, c_laid)))) else (some (false, c_s, c_before, c_known, c_thrown, c_laid))
def mX10_step (c_s : Nat → Int32) (c_before : Nat → Int32) (c_known : Int32) (c_thrown : Int32) (c_laid : Nat → Int32) (a1 : Int32) (a2 : Int32) : Option (Bool × (Nat → Int32) × (Nat → Int32) × (Int32) × (Int32) × (Nat → Int32)) :=
  k_bd (mX10_fault a1 a2) (fun r5 => if r5 = 0 then (k_bd3 (mX10_why c_s c_laid a1 a2) (fun r6 w7 w8 => if r6 = 0 then (mX10_step_30 a1 a2 w7 c_before c_known r5 w8) else (mX10_step_30 a1 a2 w7 c_before c_known 3 w8))) else (mX10_step_30 a1 a2 c_s c_before c_known r5 c_laid))

def mX10_endTurn (c_s : Nat → Int32) (c_before : Nat → Int32) (c_known : Int32) (c_thrown : Int32) (c_laid : Nat → Int32) : Option (Int32 × (Nat → Int32) × (Nat → Int32) × (Int32) × (Int32) × (Nat → Int32)) :=
  k_bd3 (mX10_canEnd c_s c_laid) (fun r1 w2 w3 => if (k_b r1) = 0 then (k_bd2 (mX10_throwing 0 1) (fun r8 w9 => some (r8, w2, c_before, c_known, w9, w3))) else (k_bd2 (mX10_save w2 c_before c_known) (fun w4 w5 => k_bd2 (mX10_ends w2) (fun r6 w7 => some (r6, w7, w4, w5, 0, w3)))))

def mX10_carry_32 (a1 : Int32) (a2 : Int32) (a3 : Int32) (c_s : Nat → Int32) (c_before : Nat → Int32) (c_known : Int32) (c_thrown : Int32) : Option (Int32 × (Nat → Int32) × (Nat → Int32) × (Int32) × (Int32)) :=
  k_bd2 (mX10_throwing c_thrown 1) (fun r1 w2 => some (r1, c_s, c_before, c_known, w2))
def mX10_carry_122 (a1 : Int32) (a2 : Int32) (a3 : Int32) (c_s : Nat → Int32) (c_before : Nat → Int32) (c_known : Int32) (c_thrown : Int32) : Option (Int32 × (Nat → Int32) × (Nat → Int32) × (Int32) × (Int32)) :=
  k_bd2 (mX10_throwing c_thrown 2) (fun r3 w4 => some (r3, c_s, c_before, c_known, w4))
def mX10_carry_91 (a1 : Int32) (a2 : Int32) (a3 : Int32) (t0 : Bool) (l4 : Bool) (c_s : Nat → Int32) (c_before : Nat → Int32) (c_known : Int32) (c_thrown : Int32) : Option (Int32 × (Nat → Int32) × (Nat → Int32) × (Int32) × (Int32)) :=
  k_bd (mX10_at c_s a1 a2) (fun r5 => if r5 = 0 then (mX10_carry_122 a1 a2 a3 c_s c_before c_known c_thrown) else (if (k_b l4) = 0 then (if (k_b t0) = 0 then (if (c_s 37) = 0 then (k_bd2 (mX10_save c_s c_before c_known) (fun w6 w7 => k_bd (mX10_grow c_s a1 a2 (-1)) (fun w8 => k_bd (mX10_grow w8 a1 a3 1) (fun w9 => k_bd (mX10_pip w9 a1) (fun r10 => some (r10, w9, w6, w7, c_thrown)))))) else (mX10_carry_122 a1 a2 a3 c_s c_before c_known c_thrown)) else (mX10_carry_122 a1 a2 a3 c_s c_before c_known c_thrown)) else (mX10_carry_122 a1 a2 a3 c_s c_before c_known c_thrown)))
def mX10_carry_90 (a1 : Int32) (a2 : Int32) (a3 : Int32) (l4 : Bool) (c_s : Nat → Int32) (c_before : Nat → Int32) (c_known : Int32) (c_thrown : Int32) : Option (Int32 × (Nat → Int32) × (Nat → Int32) × (Int32) × (Int32)) :=
  mX10_carry_91 a1 a2 a3 false l4 c_s c_before c_known c_thrown
def mX10_carry_61 (a1 : Int32) (a2 : Int32) (a3 : Int32) (t0 : Bool) (c_s : Nat → Int32) (c_before : Nat → Int32) (c_known : Int32) (c_thrown : Int32) : Option (Int32 × (Nat → Int32) × (Nat → Int32) × (Int32) × (Int32)) :=
  if a3 = 16 then (if a2 = 16 then (mX10_carry_90 a1 a2 a3 t0 c_s c_before c_known c_thrown) else (k_bd (mX10_at c_s a1 16) (fun r11 => if r11 = 5 then (mX10_carry_91 a1 a2 a3 true t0 c_s c_before c_known c_thrown) else (mX10_carry_90 a1 a2 a3 t0 c_s c_before c_known c_thrown)))) else (mX10_carry_90 a1 a2 a3 t0 c_s c_before c_known c_thrown)
def mX10_carry_60 (a1 : Int32) (a2 : Int32) (a3 : Int32) (c_s : Nat → Int32) (c_before : Nat → Int32) (c_known : Int32) (c_thrown : Int32) : Option (Int32 × (Nat → Int32) × (Nat → Int32) × (Int32) × (Int32)) :=
  mX10_carry_61 a1 a2 a3 false c_s c_before c_known c_thrown
def mX10_carry (c_s : Nat → Int32) (c_before : Nat → Int32) (c_known : Int32) (c_thrown : Int32) (a1 : Int32) (a2 : Int32) (a3 : Int32) : Option (Int32 × (Nat → Int32) × (Nat → Int32) × (Int32) × (Int32)) :=
  k_bd (mX10_isPlayer a1) (fun r12 => if (k_b r12) = 0 then (mX10_carry_32 a1 a2 a3 c_s c_before c_known 0) else (k_bd (mX10_in a2 (-1) 16) (fun r13 => if (k_b r13) = 0 then (mX10_carry_32 a1 a2 a3 c_s c_before c_known 0) else (k_bd (mX10_in a3 (-1) 16) (fun r14 => if (k_b r14) = 0 then (mX10_carry_32 a1 a2 a3 c_s c_before c_known 0) else (k_bd (mX10_isPoint a3) (fun r15 => if (k_b r15) = 0 then (mX10_carry_60 a1 a2 a3 c_s c_before c_known 0) else (k_bd (mX10_at c_s (1 - a1) a3) (fun r16 => if r16 ≤ 0 then (mX10_carry_60 a1 a2 a3 c_s c_before c_known 0) else (mX10_carry_61 a1 a2 a3 true c_s c_before c_known 0))))))))))

def mX10_offer (c_s : Nat → Int32) (c_before : Nat → Int32) (c_known : Int32) (c_thrown : Int32) : Option (Int32 × (Nat → Int32) × (Nat → Int32) × (Int32) × (Int32)) :=
  k_bd (mX10_canOffer c_s) (fun r1 => if (k_b r1) = 0 then (k_bd2 (mX10_throwing 0 1) (fun r6 w7 => some (r6, c_s, c_before, c_known, w7))) else (k_bd2 (mX10_save c_s c_before c_known) (fun w2 w3 => k_bd2 (mX10_offers c_s) (fun r4 w5 => some (r4, w5, w2, w3, 0)))))

def mX10_take (c_s : Nat → Int32) (c_before : Nat → Int32) (c_known : Int32) (c_thrown : Int32) : Option (Int32 × (Nat → Int32) × (Nat → Int32) × (Int32) × (Int32)) :=
  if (c_s 37) = 2 then (k_bd2 (mX10_save c_s c_before c_known) (fun w1 w2 => k_bd2 (mX10_doubles c_s) (fun r3 w4 => some (r3, w4, w1, w2, 0)))) else (k_bd2 (mX10_throwing 0 1) (fun r5 w6 => some (r5, c_s, c_before, c_known, w6)))

def mX10_drop (c_s : Nat → Int32) (c_before : Nat → Int32) (c_known : Int32) (c_thrown : Int32) : Option (Int32 × (Nat → Int32) × (Nat → Int32) × (Int32) × (Int32)) :=
  if (c_s 37) = 2 then (k_bd2 (mX10_save c_s c_before c_known) (fun w1 w2 => k_bd2 (mX10_drops c_s) (fun r3 w4 => some (r3, w4, w1, w2, 0)))) else (k_bd2 (mX10_throwing 0 1) (fun r5 w6 => some (r5, c_s, c_before, c_known, w6)))

def mX10_newGame (c_s : Nat → Int32) (c_before : Nat → Int32) (c_known : Int32) (c_thrown : Int32) : Option (Int32 × (Nat → Int32) × (Nat → Int32) × (Int32) × (Int32)) :=
  if (c_s 37) = 3 then (k_bd2 (mX10_save c_s c_before c_known) (fun w1 w2 => k_bd2 (mX10_anew c_s) (fun r3 w4 => some (r3, w4, w1, w2, 0)))) else (k_bd2 (mX10_throwing 0 1) (fun r5 w6 => some (r5, c_s, c_before, c_known, w6)))

def mX10_append (c_buffer : Nat → Int32) (c_length : Int32) (c_thrown : Int32) (a1 : Int32) : Option (Int32 × (Nat → Int32) × (Int32) × (Int32)) :=
  k_bd (mX10_in a1 33 126) (fun r1 => if (k_b r1) = 0 then (k_bd2 (mX10_throwing 0 1) (fun r4 w5 => some (r4, c_buffer, c_length, w5))) else (if c_length = 60 then (k_bd2 (mX10_throwing 0 2) (fun r2 w3 => some (r2, c_buffer, c_length, w3))) else (k_g c_length 60 (some ((c_length + 1), (upd c_buffer (Int32.toNatClampNeg c_length) a1), (c_length + 1), 0)))))

def mX10_clearBuffer (c_length : Int32) (c_thrown : Int32) : Option (Int32 × (Int32) × (Int32)) :=
  some (c_length, 0, 0)

def mX10_sign_74 (c_buffer : Nat → Int32) (c_length : Int32) (a1 : Int32) (a2 : Int32) (t0 : Bool) (t1 : Int32) (l3 : Int32) (c_spot : Int32) (c_isWrong : Bool) : Option (Int32 × (Int32) × (Bool)) :=
  some (l3, (t1 + (k_b t0)), c_isWrong)
def mX10_sign_54 (c_buffer : Nat → Int32) (c_length : Int32) (a1 : Int32) (a2 : Int32) (t0 : Bool) (l3 : Int32) (c_spot : Int32) (c_isWrong : Bool) : Option (Int32 × (Int32) × (Bool)) :=
  if (k_b t0) = 0 then (mX10_sign_74 c_buffer c_length a1 a2 true c_spot l3 c_spot t0) else (mX10_sign_74 c_buffer c_length a1 a2 false c_spot l3 c_spot t0)
def mX10_sign_31 (c_buffer : Nat → Int32) (c_length : Int32) (a1 : Int32) (a2 : Int32) (t0 : Int32) (c_spot : Int32) (c_isWrong : Bool) : Option (Int32 × (Int32) × (Bool)) :=
  if (k_b c_isWrong) = 0 then (k_bd (mX10_in t0 a1 a2) (fun r1 => if (k_b r1) = 0 then (mX10_sign_54 c_buffer c_length a1 a2 true t0 c_spot c_isWrong) else (mX10_sign_54 c_buffer c_length a1 a2 false t0 c_spot c_isWrong))) else (mX10_sign_54 c_buffer c_length a1 a2 true t0 c_spot c_isWrong)
def mX10_sign_30 (c_buffer : Nat → Int32) (c_length : Int32) (a1 : Int32) (a2 : Int32) (c_spot : Int32) (c_isWrong : Bool) : Option (Int32 × (Int32) × (Bool)) :=
  mX10_sign_31 c_buffer c_length a1 a2 0 c_spot c_isWrong
def mX10_sign (c_buffer : Nat → Int32) (c_length : Int32) (c_spot : Int32) (c_isWrong : Bool) (a1 : Int32) (a2 : Int32) : Option (Int32 × (Int32) × (Bool)) :=
  if c_length ≤ c_spot then (mX10_sign_30 c_buffer c_length a1 a2 c_spot c_isWrong) else (if (k_b c_isWrong) = 0 then (k_g c_spot 60 (mX10_sign_31 c_buffer c_length a1 a2 (c_buffer (Int32.toNatClampNeg c_spot)) c_spot c_isWrong)) else (mX10_sign_30 c_buffer c_length a1 a2 c_spot c_isWrong))

def mX10_isPlayed_143 (a1 : Int32) (a2 : Int32) (a3 : Int32) (t0 : Bool) (l4 : Bool) (l5 : Bool) (c_s : Nat → Int32) (c_laid : Nat → Int32) : Option (Bool × (Nat → Int32) × (Nat → Int32)) :=
  if (k_b l4) = 0 then (if a1 = 114 then (k_bd2 (mX10_rolls c_s a2 a3) (fun r11 w12 => some (l5, w12, c_laid))) else (if a1 = 101 then (k_bd2 (mX10_ends c_s) (fun r9 w10 => some (l5, w10, c_laid))) else (if a1 = 120 then (k_bd2 (mX10_offers c_s) (fun r7 w8 => some (l5, w8, c_laid))) else (if a1 = 116 then (k_bd2 (mX10_doubles c_s) (fun r5 w6 => some (l5, w6, c_laid))) else (if a1 = 100 then (k_bd2 (mX10_drops c_s) (fun r3 w4 => some (l5, w4, c_laid))) else (k_bd2 (mX10_anew c_s) (fun r1 w2 => some (l5, w2, c_laid)))))))) else (some (l5, c_s, c_laid))
def mX10_isPlayed_142 (a1 : Int32) (a2 : Int32) (a3 : Int32) (l4 : Bool) (l5 : Bool) (c_s : Nat → Int32) (c_laid : Nat → Int32) : Option (Bool × (Nat → Int32) × (Nat → Int32)) :=
  mX10_isPlayed_143 a1 a2 a3 false l4 l5 c_s c_laid
def mX10_isPlayed_117 (a1 : Int32) (a2 : Int32) (a3 : Int32) (t0 : Bool) (l4 : Bool) (c_s : Nat → Int32) (c_laid : Nat → Int32) : Option (Bool × (Nat → Int32) × (Nat → Int32)) :=
  if (k_b t0) = 0 then (some (t0, c_s, c_laid)) else (if (k_b l4) = 0 then (mX10_isPlayed_142 a1 a2 a3 l4 t0 c_s c_laid) else (k_bd2 (mX10_steps c_s a2 a3) (fun r13 w14 => if (k_b r13) = 0 then (mX10_isPlayed_142 a1 a2 a3 l4 t0 w14 c_laid) else (mX10_isPlayed_143 a1 a2 a3 true l4 t0 w14 c_laid))))
def mX10_isPlayed_109 (a1 : Int32) (a2 : Int32) (a3 : Int32) (t0 : Int32) (t1 : Int32) (l4 : Bool) (c_s : Nat → Int32) (c_laid : Nat → Int32) : Option (Bool × (Nat → Int32) × (Nat → Int32)) :=
  if t1 = t0 then (mX10_isPlayed_117 a1 a2 a3 true l4 c_s c_laid) else (mX10_isPlayed_117 a1 a2 a3 false l4 c_s c_laid)
def mX10_isPlayed_17 (a1 : Int32) (a2 : Int32) (a3 : Int32) (t0 : Bool) (c_s : Nat → Int32) (c_laid : Nat → Int32) : Option (Bool × (Nat → Int32) × (Nat → Int32)) :=
  if a1 = 114 then (if (c_s 37) = 0 then (mX10_isPlayed_117 a1 a2 a3 true t0 c_s c_laid) else (mX10_isPlayed_117 a1 a2 a3 false t0 c_s c_laid)) else (if (k_b t0) = 0 then (if a1 = 101 then (k_bd3 (mX10_canEnd c_s c_laid) (fun r16 w17 w18 => mX10_isPlayed_117 a1 a2 a3 r16 t0 w17 w18)) else (if a1 = 120 then (k_bd (mX10_canOffer c_s) (fun r15 => mX10_isPlayed_117 a1 a2 a3 r15 t0 c_s c_laid)) else (if a1 = 110 then (mX10_isPlayed_109 a1 a2 a3 3 (c_s 37) t0 c_s c_laid) else (mX10_isPlayed_109 a1 a2 a3 2 (c_s 37) t0 c_s c_laid)))) else (k_bd3 (mX10_why c_s c_laid a2 a3) (fun r19 w20 w21 => if r19 = 0 then (mX10_isPlayed_117 a1 a2 a3 true t0 w20 w21) else (mX10_isPlayed_117 a1 a2 a3 false t0 w20 w21))))
def mX10_isPlayed (c_s : Nat → Int32) (c_laid : Nat → Int32) (a1 : Int32) (a2 : Int32) (a3 : Int32) : Option (Bool × (Nat → Int32) × (Nat → Int32)) :=
  if a1 = 109 then (mX10_isPlayed_17 a1 a2 a3 true c_s c_laid) else (if a1 = 98 then (mX10_isPlayed_17 a1 a2 a3 true c_s c_laid) else (mX10_isPlayed_17 a1 a2 a3 false c_s c_laid))

def mX10_part_290 (c_buffer : Nat → Int32) (c_length : Int32) (a1 : Bool) (l2 : Int32) (l4 : Int32) (l5 : Int32) (c_s : Nat → Int32) (c_laid : Nat → Int32) (c_spot : Int32) (c_isWrong : Bool) : Option (Bool × (Nat → Int32) × (Nat → Int32) × (Int32) × (Bool)) :=
  if (k_b a1) = 0 then (some (true, c_s, c_laid, c_spot, c_isWrong)) else (k_bd3 (mX10_isPlayed c_s c_laid l2 l4 l5) (fun r1 w2 w3 => if (k_b r1) = 0 then (some (false, w2, w3, c_spot, c_isWrong)) else (some (true, w2, w3, c_spot, c_isWrong))))
def mX10_part_277 (c_buffer : Nat → Int32) (c_length : Int32) (a1 : Bool) (l2 : Int32) (l4 : Int32) (c_s : Nat → Int32) (c_laid : Nat → Int32) (c_spot : Int32) (c_isWrong : Bool) : Option (Bool × (Nat → Int32) × (Nat → Int32) × (Int32) × (Bool)) :=
  k_bd3 (mX10_sign c_buffer c_length c_spot c_isWrong 49 54) (fun r4 w5 w6 => mX10_part_290 c_buffer c_length a1 l2 l4 (r4 - 48) c_s c_laid w5 w6)
def mX10_part_257 (c_buffer : Nat → Int32) (c_length : Int32) (a1 : Bool) (t0 : Int32) (l2 : Int32) (l4 : Int32) (l5 : Bool) (c_s : Nat → Int32) (c_laid : Nat → Int32) (c_spot : Int32) (c_isWrong : Bool) : Option (Bool × (Nat → Int32) × (Nat → Int32) × (Int32) × (Bool)) :=
  if l2 = 114 then (mX10_part_277 c_buffer c_length a1 l2 l4 c_s c_laid c_spot c_isWrong) else (if l2 = 109 then (mX10_part_277 c_buffer c_length a1 l2 l4 c_s c_laid c_spot c_isWrong) else (if l2 = 98 then (mX10_part_277 c_buffer c_length a1 l2 l4 c_s c_laid c_spot c_isWrong) else (mX10_part_290 c_buffer c_length a1 l2 l4 (k_b l5) c_s c_laid c_spot c_isWrong)))
def mX10_part_245 (c_buffer : Nat → Int32) (c_length : Int32) (a1 : Bool) (l2 : Int32) (l4 : Int32) (l5 : Bool) (c_s : Nat → Int32) (c_laid : Nat → Int32) (c_spot : Int32) (c_isWrong : Bool) : Option (Bool × (Nat → Int32) × (Nat → Int32) × (Int32) × (Bool)) :=
  k_bd3 (mX10_sign c_buffer c_length c_spot c_isWrong 46 46) (fun r7 w8 w9 => mX10_part_257 c_buffer c_length a1 r7 l2 l4 l5 c_s c_laid w8 w9)
def mX10_part_233 (c_buffer : Nat → Int32) (c_length : Int32) (a1 : Bool) (l2 : Int32) (l4 : Int32) (l5 : Bool) (c_s : Nat → Int32) (c_laid : Nat → Int32) (c_spot : Int32) (c_isWrong : Bool) : Option (Bool × (Nat → Int32) × (Nat → Int32) × (Int32) × (Bool)) :=
  if l2 = 109 then (mX10_part_245 c_buffer c_length a1 l2 l4 l5 c_s c_laid c_spot c_isWrong) else (if l2 = 98 then (mX10_part_245 c_buffer c_length a1 l2 l4 l5 c_s c_laid c_spot c_isWrong) else (mX10_part_257 c_buffer c_length a1 0 l2 l4 l5 c_s c_laid c_spot c_isWrong))
def mX10_part_123 (c_buffer : Nat → Int32) (c_length : Int32) (a1 : Bool) (t0 : Bool) (t1 : Int32) (l2 : Int32) (c_s : Nat → Int32) (c_laid : Nat → Int32) (c_spot : Int32) (c_isWrong : Bool) : Option (Bool × (Nat → Int32) × (Nat → Int32) × (Int32) × (Bool)) :=
  if l2 = 114 then (k_bd3 (mX10_sign c_buffer c_length (t1 + (k_b t0)) c_isWrong 49 54) (fun r17 w18 w19 => mX10_part_233 c_buffer c_length a1 l2 (r17 - 48) false c_s c_laid w18 w19)) else (if l2 = 109 then (k_bd3 (mX10_sign c_buffer c_length (t1 + (k_b t0)) c_isWrong 48 57) (fun r10 w11 w12 => if (r10 - 48) = 1 then (if (k_b w12) = 0 then (if c_length ≤ w11 then (mX10_part_233 c_buffer c_length a1 l2 (r10 - 48) false c_s c_laid w11 w12) else (k_g w11 60 (k_bd (mX10_in (c_buffer (Int32.toNatClampNeg w11)) 48 53) (fun r13 => if (k_b r13) = 0 then (mX10_part_233 c_buffer c_length a1 l2 (r10 - 48) false c_s c_laid w11 w12) else (k_bd3 (mX10_sign c_buffer c_length w11 w12 48 53) (fun r14 w15 w16 => mX10_part_233 c_buffer c_length a1 l2 ((10 + r14) - 48) false c_s c_laid w15 w16)))))) else (mX10_part_233 c_buffer c_length a1 l2 (r10 - 48) false c_s c_laid w11 w12)) else (mX10_part_233 c_buffer c_length a1 l2 (r10 - 48) false c_s c_laid w11 w12))) else (mX10_part_233 c_buffer c_length a1 l2 (-1) false c_s c_laid (t1 + (k_b t0)) c_isWrong))
def mX10_part_103 (c_buffer : Nat → Int32) (c_length : Int32) (a1 : Bool) (t0 : Bool) (l2 : Int32) (c_s : Nat → Int32) (c_laid : Nat → Int32) (c_spot : Int32) (c_isWrong : Bool) : Option (Bool × (Nat → Int32) × (Nat → Int32) × (Int32) × (Bool)) :=
  if (k_b t0) = 0 then (mX10_part_123 c_buffer c_length a1 true c_spot l2 c_s c_laid c_spot t0) else (mX10_part_123 c_buffer c_length a1 false c_spot l2 c_s c_laid c_spot t0)
def mX10_part_85 (c_buffer : Nat → Int32) (c_length : Int32) (a1 : Bool) (t0 : Bool) (l2 : Int32) (c_s : Nat → Int32) (c_laid : Nat → Int32) (c_spot : Int32) (c_isWrong : Bool) : Option (Bool × (Nat → Int32) × (Nat → Int32) × (Int32) × (Bool)) :=
  if (k_b c_isWrong) = 0 then (if (k_b t0) = 0 then (mX10_part_103 c_buffer c_length a1 true l2 c_s c_laid c_spot c_isWrong) else (mX10_part_103 c_buffer c_length a1 false l2 c_s c_laid c_spot c_isWrong)) else (mX10_part_103 c_buffer c_length a1 true l2 c_s c_laid c_spot c_isWrong)
def mX10_part_31 (c_buffer : Nat → Int32) (c_length : Int32) (a1 : Bool) (t0 : Int32) (c_s : Nat → Int32) (c_laid : Nat → Int32) (c_spot : Int32) (c_isWrong : Bool) : Option (Bool × (Nat → Int32) × (Nat → Int32) × (Int32) × (Bool)) :=
  if t0 = 114 then (mX10_part_85 c_buffer c_length a1 true t0 c_s c_laid c_spot c_isWrong) else (if t0 = 109 then (mX10_part_85 c_buffer c_length a1 true t0 c_s c_laid c_spot c_isWrong) else (if t0 = 98 then (mX10_part_85 c_buffer c_length a1 true t0 c_s c_laid c_spot c_isWrong) else (if t0 = 101 then (mX10_part_85 c_buffer c_length a1 true t0 c_s c_laid c_spot c_isWrong) else (if t0 = 120 then (mX10_part_85 c_buffer c_length a1 true t0 c_s c_laid c_spot c_isWrong) else (if t0 = 116 then (mX10_part_85 c_buffer c_length a1 true t0 c_s c_laid c_spot c_isWrong) else (if t0 = 100 then (mX10_part_85 c_buffer c_length a1 true t0 c_s c_laid c_spot c_isWrong) else (if t0 = 110 then (mX10_part_85 c_buffer c_length a1 true t0 c_s c_laid c_spot c_isWrong) else (mX10_part_85 c_buffer c_length a1 false t0 c_s c_laid c_spot c_isWrong))))))))
def mX10_part_30 (c_buffer : Nat → Int32) (c_length : Int32) (a1 : Bool) (c_s : Nat → Int32) (c_laid : Nat → Int32) (c_spot : Int32) (c_isWrong : Bool) : Option (Bool × (Nat → Int32) × (Nat → Int32) × (Int32) × (Bool)) :=
  mX10_part_31 c_buffer c_length a1 0 c_s c_laid c_spot c_isWrong
def mX10_part (c_s : Nat → Int32) (c_buffer : Nat → Int32) (c_length : Int32) (c_laid : Nat → Int32) (c_spot : Int32) (c_isWrong : Bool) (a1 : Bool) : Option (Bool × (Nat → Int32) × (Nat → Int32) × (Int32) × (Bool)) :=
  if c_length ≤ c_spot then (mX10_part_30 c_buffer c_length a1 c_s c_laid c_spot c_isWrong) else (if (k_b c_isWrong) = 0 then (k_g c_spot 60 (mX10_part_31 c_buffer c_length a1 (c_buffer (Int32.toNatClampNeg c_spot)) c_s c_laid c_spot c_isWrong)) else (mX10_part_30 c_buffer c_length a1 c_s c_laid c_spot c_isWrong))

def mX10_go_64 (c_buffer : Nat → Int32) (c_length : Int32) (a1 : Bool) (k19 : (Int32) → (Bool) → (Nat → Int32) → (Nat → Int32) → (Int32) → (Bool) → (Bool) → Option (Int32 × (Nat → Int32) × (Nat → Int32) × (Int32) × (Bool) × (Bool))) (t0 : Bool) (l2 : Int32) (c_s : Nat → Int32) (c_laid : Nat → Int32) (c_spot : Int32) (c_isWrong : Bool) (c_isHalted : Bool) : Option (Int32 × (Nat → Int32) × (Nat → Int32) × (Int32) × (Bool) × (Bool)) :=
  if (k_b t0) = 0 then (k19 l2 t0 c_s c_laid c_spot c_isWrong c_isHalted) else (k_bd3 (mX10_sign c_buffer c_length c_spot c_isWrong 59 59) (fun r1 w2 w3 => if (k_b w3) = 0 then (k19 l2 true c_s c_laid w2 w3 c_isHalted) else (k19 l2 false c_s c_laid w2 w3 c_isHalted)))
def mX10_go_63 (c_buffer : Nat → Int32) (c_length : Int32) (a1 : Bool) (k19 : (Int32) → (Bool) → (Nat → Int32) → (Nat → Int32) → (Int32) → (Bool) → (Bool) → Option (Int32 × (Nat → Int32) × (Nat → Int32) × (Int32) × (Bool) × (Bool))) (l2 : Int32) (c_s : Nat → Int32) (c_laid : Nat → Int32) (c_spot : Int32) (c_isWrong : Bool) (c_isHalted : Bool) : Option (Int32 × (Nat → Int32) × (Nat → Int32) × (Int32) × (Bool) × (Bool)) :=
  mX10_go_64 c_buffer c_length a1 k19 false l2 c_s c_laid c_spot c_isWrong c_isHalted
def mX10_go_19 (c_buffer : Nat → Int32) (c_length : Int32) (a1 : Bool) (k19 : (Int32) → (Bool) → (Nat → Int32) → (Nat → Int32) → (Int32) → (Bool) → (Bool) → Option (Int32 × (Nat → Int32) × (Nat → Int32) × (Int32) × (Bool) × (Bool))) (l2 : Int32) (l3 : Bool) (c_s : Nat → Int32) (c_laid : Nat → Int32) (c_spot : Int32) (c_isWrong : Bool) (c_isHalted : Bool) : Option (Int32 × (Nat → Int32) × (Nat → Int32) × (Int32) × (Bool) × (Bool)) :=
  if (k_b l3) = 0 then (some (l2, c_s, c_laid, c_spot, c_isWrong, c_isHalted)) else (k_bd5 (mX10_part c_s c_buffer c_length c_laid c_spot c_isWrong a1) (fun r4 w5 w6 w7 w8 => if (k_b r4) = 0 then (some (l2, w5, w6, w7, w8, true)) else (if (k_b w8) = 0 then (if c_length ≤ w7 then (mX10_go_63 c_buffer c_length a1 k19 (l2 + 1) w5 w6 w7 w8 c_isHalted) else (mX10_go_64 c_buffer c_length a1 k19 true (l2 + 1) w5 w6 w7 w8 c_isHalted)) else (mX10_go_63 c_buffer c_length a1 k19 (l2 + 1) w5 w6 w7 w8 c_isHalted))))
def mX10_go (c_s : Nat → Int32) (c_buffer : Nat → Int32) (c_length : Int32) (c_laid : Nat → Int32) (c_spot : Int32) (c_isWrong : Bool) (c_isHalted : Bool) (a1 : Bool) : Option (Int32 × (Nat → Int32) × (Nat → Int32) × (Int32) × (Bool) × (Bool)) :=
  k_fix (fun _ _ _ _ _ _ _ => none) (mX10_go_19 c_buffer c_length a1) k_F 0 true c_s c_laid 0 false false

def mX10_firstError (c_s : Nat → Int32) (c_buffer : Nat → Int32) (c_length : Int32) (c_thrown : Int32) (c_laid : Nat → Int32) (c_spot : Int32) (c_isWrong : Bool) (c_isHalted : Bool) : Option (Int32 × (Nat → Int32) × (Int32) × (Nat → Int32) × (Int32) × (Bool) × (Bool)) :=
  k_bd6 (mX10_go c_s c_buffer c_length c_laid c_spot c_isWrong c_isHalted false) (fun r1 w2 w3 w4 w5 w6 => if (k_b w5) = 0 then (some (c_length, w2, 0, w3, w4, w5, w6)) else (some (w4, w2, 0, w3, w4, w5, w6)))

def mX10_play_71 (c_buffer : Nat → Int32) (t0 : Int32) (t1 : Int32) (l1 : Int32) (c_s : Nat → Int32) (c_before : Nat → Int32) (c_known : Int32) (c_length : Int32) (c_thrown : Int32) (c_laid : Nat → Int32) (c_spot : Int32) (c_isWrong : Bool) (c_isHalted : Bool) : Option (Int32 × (Nat → Int32) × (Nat → Int32) × (Int32) × (Int32) × (Int32) × (Nat → Int32) × (Int32) × (Bool) × (Bool)) :=
  k_g t1 51 (some (l1, (upd c_s (Int32.toNatClampNeg t1) t0), c_before, c_known, 0, c_thrown, c_laid, c_spot, c_isWrong, c_isHalted))
def mX10_play_52 (c_buffer : Nat → Int32) (t0 : Bool) (t1 : Int32) (l1 : Int32) (c_s : Nat → Int32) (c_before : Nat → Int32) (c_known : Int32) (c_length : Int32) (c_thrown : Int32) (c_laid : Nat → Int32) (c_spot : Int32) (c_isWrong : Bool) (c_isHalted : Bool) : Option (Int32 × (Nat → Int32) × (Nat → Int32) × (Int32) × (Int32) × (Int32) × (Nat → Int32) × (Int32) × (Bool) × (Bool)) :=
  k_g t1 51 (if (k_b c_isHalted) = 0 then (mX10_play_71 c_buffer 0 50 l1 (upd c_s (Int32.toNatClampNeg t1) (k_b t0)) c_before c_known c_length c_thrown c_laid c_spot c_isWrong c_isHalted) else (mX10_play_71 c_buffer l1 50 l1 (upd c_s (Int32.toNatClampNeg t1) (k_b t0)) c_before c_known c_length c_thrown c_laid c_spot c_isWrong c_isHalted))
def mX10_play (c_s : Nat → Int32) (c_before : Nat → Int32) (c_known : Int32) (c_buffer : Nat → Int32) (c_length : Int32) (c_thrown : Int32) (c_laid : Nat → Int32) (c_spot : Int32) (c_isWrong : Bool) (c_isHalted : Bool) : Option (Int32 × (Nat → Int32) × (Nat → Int32) × (Int32) × (Int32) × (Int32) × (Nat → Int32) × (Int32) × (Bool) × (Bool)) :=
  k_bd6 (mX10_go c_s c_buffer c_length c_laid c_spot c_isWrong c_isHalted false) (fun r1 w2 w3 w4 w5 w6 => if (k_b w5) = 0 then (k_bd2 (mX10_save w2 c_before c_known) (fun w7 w8 => k_bd6 (mX10_go w2 c_buffer c_length w3 w4 w5 w6 true) (fun r9 w10 w11 w12 w13 w14 => if (k_b w14) = 0 then (mX10_play_52 c_buffer false 49 r9 w10 w7 w8 c_length 0 w11 w12 w13 w14) else (mX10_play_52 c_buffer true 49 r9 w10 w7 w8 c_length 0 w11 w12 w13 w14)))) else (k_bd2 (mX10_throwing 0 1) (fun r15 w16 => some (r15, w2, c_before, c_known, c_length, w16, w3, w4, w5, w6))))

def mX10_hasStopped (c_s : Nat → Int32) (c_thrown : Int32) : Option (Bool × (Int32)) :=
  if (c_s 49) = 1 then (some (true, 0)) else (some (false, 0))

def mX10_stoppedPart (c_s : Nat → Int32) (c_thrown : Int32) : Option (Int32 × (Int32)) :=
  if (c_s 49) = 1 then (some ((c_s 50), 0)) else (k_bd2 (mX10_throwing 0 1) (fun r1 w2 => some (r1, w2)))

def mX10_undo_30 (c_before : Nat → Int32) (k30 : (Int32) → (Nat → Int32) → (Int32) → (Int32) → Option (Int32 × (Nat → Int32) × (Int32) × (Int32))) (l1 : Int32) (c_s : Nat → Int32) (c_known : Int32) (c_thrown : Int32) : Option (Int32 × (Nat → Int32) × (Int32) × (Int32)) :=
  if 51 ≤ l1 then (some (c_known, c_s, c_known, c_thrown)) else (k_g ((51 * c_known) + l1) 255 (k_g l1 51 (k30 (l1 + 1) (upd c_s (Int32.toNatClampNeg l1) (c_before (Int32.toNatClampNeg ((51 * c_known) + l1)))) c_known c_thrown)))
def mX10_undo (c_s : Nat → Int32) (c_before : Nat → Int32) (c_known : Int32) (c_thrown : Int32) : Option (Int32 × (Nat → Int32) × (Int32) × (Int32)) :=
  if c_known = 0 then (k_bd2 (mX10_throwing 0 1) (fun r1 w2 => some (r1, c_s, c_known, w2))) else (k_fix (fun _ _ _ _ => none) (mX10_undo_30 c_before) k_F 0 c_s (c_known - 1) 0)

def mX10_keep_7 (c_s : Nat → Int32) (k7 : (Int32) → (Nat → Int32) → (Bool) → (Int32) → Option (Int32 × (Nat → Int32) × (Bool) × (Int32))) (l1 : Int32) (c_kept : Nat → Int32) (c_isKept : Bool) (c_thrown : Int32) : Option (Int32 × (Nat → Int32) × (Bool) × (Int32)) :=
  if 51 ≤ l1 then (some ((c_s 36), c_kept, true, c_thrown)) else (k_g l1 51 (k_g l1 51 (k7 (l1 + 1) (upd c_kept (Int32.toNatClampNeg l1) (c_s (Int32.toNatClampNeg l1))) c_isKept c_thrown)))
def mX10_keep (c_s : Nat → Int32) (c_kept : Nat → Int32) (c_isKept : Bool) (c_thrown : Int32) : Option (Int32 × (Nat → Int32) × (Bool) × (Int32)) :=
  k_fix (fun _ _ _ _ => none) (mX10_keep_7 c_s) k_F 0 c_kept c_isKept 0

def mX10_restore_24 (c_kept : Nat → Int32) (c_isKept : Bool) (k24 : (Int32) → (Nat → Int32) → (Nat → Int32) → (Int32) → (Int32) → Option (Int32 × (Nat → Int32) × (Nat → Int32) × (Int32) × (Int32))) (l1 : Int32) (c_s : Nat → Int32) (c_before : Nat → Int32) (c_known : Int32) (c_thrown : Int32) : Option (Int32 × (Nat → Int32) × (Nat → Int32) × (Int32) × (Int32)) :=
  if 51 ≤ l1 then (some ((c_s 36), c_s, c_before, c_known, c_thrown)) else (k_g l1 51 (k_g l1 51 (k24 (l1 + 1) (upd c_s (Int32.toNatClampNeg l1) (c_kept (Int32.toNatClampNeg l1))) c_before c_known c_thrown)))
def mX10_restore (c_s : Nat → Int32) (c_before : Nat → Int32) (c_known : Int32) (c_kept : Nat → Int32) (c_isKept : Bool) (c_thrown : Int32) : Option (Int32 × (Nat → Int32) × (Nat → Int32) × (Int32) × (Int32)) :=
  if (k_b c_isKept) = 0 then (k_bd2 (mX10_throwing 0 1) (fun r3 w4 => some (r3, c_s, c_before, c_known, w4))) else (k_bd2 (mX10_save c_s c_before c_known) (fun w1 w2 => k_fix (fun _ _ _ _ _ => none) (mX10_restore_24 c_kept c_isKept) k_F 0 c_s w1 w2 0))

def mX10_savedStates (c_known : Int32) (c_thrown : Int32) : Option (Int32 × (Int32)) :=
  some (c_known, 0)

def mX10_mover (c_s : Nat → Int32) (c_thrown : Int32) : Option (Int32 × (Int32)) :=
  some ((c_s 36), 0)

def mX10_phase (c_s : Nat → Int32) (c_thrown : Int32) : Option (Int32 × (Int32)) :=
  some ((c_s 37), 0)

def mX10_diceLeft (c_s : Nat → Int32) (c_thrown : Int32) : Option (Int32 × (Int32)) :=
  some ((c_s 38), 0)

def mX10_dieLeft (c_s : Nat → Int32) (c_thrown : Int32) (a1 : Int32) : Option (Int32 × (Int32)) :=
  k_bd (mX10_in a1 0 ((c_s 38) - 1)) (fun r1 => if (k_b r1) = 0 then (k_bd2 (mX10_throwing 0 1) (fun r2 w3 => some (r2, w3))) else (k_g (39 + a1) 51 (some ((c_s (Int32.toNatClampNeg (39 + a1))), 0))))

def mX10_isThere_20 (a1 : Int32) (a2 : Int32) (t0 : Bool) (c_thrown : Int32) : Option (Bool × (Int32)) :=
  if (k_b t0) = 0 then (some (true, (k_b t0))) else (some (false, (k_b t0)))
def mX10_isThere_19 (a1 : Int32) (a2 : Int32) (c_thrown : Int32) : Option (Bool × (Int32)) :=
  mX10_isThere_20 a1 a2 true c_thrown
def mX10_isThere (c_thrown : Int32) (a1 : Int32) (a2 : Int32) : Option (Bool × (Int32)) :=
  k_bd (mX10_isPlayer a1) (fun r1 => if (k_b r1) = 0 then (mX10_isThere_19 a1 a2 c_thrown) else (k_bd (mX10_isPoint a2) (fun r2 => if (k_b r2) = 0 then (mX10_isThere_19 a1 a2 c_thrown) else (mX10_isThere_20 a1 a2 false c_thrown))))

def mX10_piecesOn (c_s : Nat → Int32) (c_thrown : Int32) (a1 : Int32) (a2 : Int32) : Option (Int32 × (Int32)) :=
  k_bd2 (mX10_isThere c_thrown a1 a2) (fun r1 w2 => if (k_b r1) = 0 then (some ((0 : Int32), w2)) else (k_bd (mX10_at c_s a1 a2) (fun r3 => some (r3, w2))))

def mX10_onBar (c_s : Nat → Int32) (c_thrown : Int32) (a1 : Int32) : Option (Int32 × (Int32)) :=
  k_bd2 (mX10_isThere c_thrown a1 0) (fun r1 w2 => if (k_b r1) = 0 then (some ((0 : Int32), w2)) else (k_bd (mX10_at c_s a1 (-1)) (fun r3 => some (r3, w2))))

def mX10_borneOff (c_s : Nat → Int32) (c_thrown : Int32) (a1 : Int32) : Option (Int32 × (Int32)) :=
  k_bd2 (mX10_isThere c_thrown a1 0) (fun r1 w2 => if (k_b r1) = 0 then (some ((0 : Int32), w2)) else (k_bd (mX10_at c_s a1 16) (fun r3 => some (r3, w2))))

def mX10_pips (c_s : Nat → Int32) (c_thrown : Int32) (a1 : Int32) : Option (Int32 × (Int32)) :=
  k_bd2 (mX10_isThere c_thrown a1 0) (fun r1 w2 => if (k_b r1) = 0 then (some ((0 : Int32), w2)) else (k_bd (mX10_pip c_s a1) (fun r3 => some (r3, w2))))

def mX10_blot_4 (c_s : Nat → Int32) (a1 : Int32) (k4 : (Int32) → (Int32) → Option (Int32)) (l2 : Int32) (l3 : Int32) : Option (Int32) :=
  if 16 ≤ l3 then (some (l2)) else (k_bd (mX10_at c_s a1 l3) (fun r1 => if r1 = 1 then (k4 (l2 + 1) (l3 + 1)) else (k4 (l2 + 0) (l3 + 1))))
def mX10_blot (c_s : Nat → Int32) (a1 : Int32) : Option (Int32) :=
  k_fix (fun _ _ => none) (mX10_blot_4 c_s a1) k_F 0 0

def mX10_blots (c_s : Nat → Int32) (c_thrown : Int32) (a1 : Int32) : Option (Int32 × (Int32)) :=
  k_bd2 (mX10_isThere c_thrown a1 0) (fun r1 w2 => if (k_b r1) = 0 then (some ((0 : Int32), w2)) else (k_bd (mX10_blot c_s a1) (fun r3 => some (r3, w2))))

def mX10_wall_31 (c_s : Nat → Int32) (a1 : Int32) (k7 : (Int32) → (Int32) → (Int32) → Option (Int32)) (t0 : Int32) (l2 : Int32) (l4 : Int32) : Option (Int32) :=
  if t0 ≤ l2 then (k7 l2 t0 (l4 + 1)) else (k7 t0 t0 (l4 + 1))
def mX10_wall_7 (c_s : Nat → Int32) (a1 : Int32) (k7 : (Int32) → (Int32) → (Int32) → Option (Int32)) (l2 : Int32) (l3 : Int32) (l4 : Int32) : Option (Int32) :=
  if 16 ≤ l4 then (some (l2)) else (k_bd (mX10_isBlock c_s a1 l4) (fun r1 => if (k_b r1) = 0 then (mX10_wall_31 c_s a1 k7 0 l2 l4) else (mX10_wall_31 c_s a1 k7 (l3 + 1) l2 l4)))
def mX10_wall (c_s : Nat → Int32) (a1 : Int32) : Option (Int32) :=
  k_fix (fun _ _ _ => none) (mX10_wall_7 c_s a1) k_F 0 0 0

def mX10_blockade (c_s : Nat → Int32) (c_thrown : Int32) (a1 : Int32) : Option (Int32 × (Int32)) :=
  k_bd2 (mX10_isThere c_thrown a1 0) (fun r1 w2 => if (k_b r1) = 0 then (some ((0 : Int32), w2)) else (k_bd (mX10_wall c_s a1) (fun r3 => some (r3, w2))))

def mX10_stake (c_s : Nat → Int32) (c_thrown : Int32) : Option (Int32 × (Int32)) :=
  some ((c_s 43), 0)

def mX10_cubeOf (c_s : Nat → Int32) (c_thrown : Int32) : Option (Int32 × (Int32)) :=
  some ((c_s 44), 0)

def mX10_score (c_s : Nat → Int32) (c_thrown : Int32) (a1 : Int32) : Option (Int32 × (Int32)) :=
  k_bd2 (mX10_isThere c_thrown a1 0) (fun r1 w2 => if (k_b r1) = 0 then (some ((0 : Int32), w2)) else (k_g (45 + a1) 51 (some ((c_s (Int32.toNatClampNeg (45 + a1))), w2))))

def mX10_hits (c_s : Nat → Int32) (c_thrown : Int32) (a1 : Int32) : Option (Int32 × (Int32)) :=
  k_bd2 (mX10_isThere c_thrown a1 0) (fun r1 w2 => if (k_b r1) = 0 then (some ((0 : Int32), w2)) else (k_g (47 + a1) 51 (some ((c_s (Int32.toNatClampNeg (47 + a1))), w2))))

def mX10_whyNoStep (c_s : Nat → Int32) (c_thrown : Int32) (c_laid : Nat → Int32) (a1 : Int32) (a2 : Int32) : Option (Int32 × (Nat → Int32) × (Int32) × (Nat → Int32)) :=
  k_bd (mX10_fault a1 a2) (fun r1 => if r1 = 0 then (k_bd3 (mX10_why c_s c_laid a1 a2) (fun r2 w3 w4 => some (r2, w3, r1, w4))) else (some ((0 : Int32), c_s, r1, c_laid)))

def mX10_possible_12 (k4 : (Int32) → (Int32) → (Nat → Int32) → (Nat → Int32) → Option (Int32 × (Nat → Int32) × (Nat → Int32))) (k12 : (Int32) → (Int32) → (Int32) → (Nat → Int32) → (Nat → Int32) → Option (Int32 × (Nat → Int32) × (Nat → Int32))) (l1 : Int32) (l2 : Int32) (l3 : Int32) (c_s : Nat → Int32) (c_laid : Nat → Int32) : Option (Int32 × (Nat → Int32) × (Nat → Int32)) :=
  if 16 ≤ l3 then (k4 l1 (l2 + 1) c_s c_laid) else (k_bd3 (mX10_why c_s c_laid l3 l2) (fun r1 w2 w3 => if r1 = 0 then (k12 (l1 + 1) l2 (l3 + 1) w2 w3) else (k12 (l1 + 0) l2 (l3 + 1) w2 w3)))
def mX10_possible_4 (k4 : (Int32) → (Int32) → (Nat → Int32) → (Nat → Int32) → Option (Int32 × (Nat → Int32) × (Nat → Int32))) (l1 : Int32) (l2 : Int32) (c_s : Nat → Int32) (c_laid : Nat → Int32) : Option (Int32 × (Nat → Int32) × (Nat → Int32)) :=
  if 6 < l2 then (some (l1, c_s, c_laid)) else (k_fix (fun _ _ _ _ _ => none) (mX10_possible_12 k4) k_F l1 l2 (-1) c_s c_laid)
def mX10_possible (c_s : Nat → Int32) (c_laid : Nat → Int32) : Option (Int32 × (Nat → Int32) × (Nat → Int32)) :=
  k_fix (fun _ _ _ _ => none) (mX10_possible_4) k_F 0 1 c_s c_laid

def mX10_possibleSteps (c_s : Nat → Int32) (c_thrown : Int32) (c_laid : Nat → Int32) : Option (Int32 × (Nat → Int32) × (Int32) × (Nat → Int32)) :=
  k_bd3 (mX10_possible c_s c_laid) (fun r1 w2 w3 => some (r1, w2, 0, w3))

def mX10_reach (c_s : Nat → Int32) (c_thrown : Int32) (c_laid : Nat → Int32) : Option (Int32 × (Nat → Int32) × (Int32) × (Nat → Int32)) :=
  k_bd3 (mX10_reaches c_s c_laid) (fun r1 w2 w3 => some (r1, w2, 0, w3))

def mX10_told_5 (c_s : Nat → Int32) (a1 : Int32) (k5 : (Int64) → (Int32) → Option (Int64)) (l2 : Int64) (l4 : Int32) : Option (Int64) :=
  if 18 ≤ l4 then (some (l2)) else (k_g ((18 * a1) + l4) 51 (k5 (l2 ||| (k_lshl (Int32.toInt64 (c_s (Int32.toNatClampNeg ((18 * a1) + l4)))) (3 * l4))) (l4 + 1)))
def mX10_told (c_s : Nat → Int32) (a1 : Int32) : Option (Int64) :=
  k_fix (fun _ _ => none) (mX10_told_5 c_s a1) k_F 0 0

def mX10_stands_3 (a1 : Int32) (a2 : Int64) (k3 : (Int32) → (Nat → Int32) → Option ((Nat → Int32))) (l4 : Int32) (c_s : Nat → Int32) : Option ((Nat → Int32)) :=
  if 18 ≤ l4 then (some (c_s)) else (k_g ((18 * a1) + l4) 51 (k3 (l4 + 1) (upd c_s (Int32.toNatClampNeg ((18 * a1) + l4)) (Int64.toInt32 ((k_lshr a2 (3 * l4)) &&& (7))))))
def mX10_stands (c_s : Nat → Int32) (a1 : Int32) (a2 : Int64) : Option ((Nat → Int32)) :=
  k_fix (fun _ _ => none) (mX10_stands_3 a1 a2) k_F 0 c_s

def mX10_adds_18 (c_s : Nat → Int32) (k18 : (Int64) → (Int64) → (Bool) → (Int32) → (Nat → Int64) → (Nat → Int64) → (Int32) → Option ((Nat → Int64) × (Nat → Int64) × (Int32))) (l1 : Int64) (l3 : Int64) (l5 : Bool) (l6 : Int32) (c_mine : Nat → Int64) (c_theirs : Nat → Int64) (c_many : Int32) : Option ((Nat → Int64) × (Nat → Int64) × (Int32)) :=
  if c_many ≤ l6 then (if (k_b l5) = 0 then (some (c_mine, c_theirs, c_many)) else (k_g c_many 400 (k_g c_many 400 (some ((vp_updL c_mine (Int32.toNatClampNeg c_many) l1), (vp_updL c_theirs (Int32.toNatClampNeg c_many) l3), (c_many + 1)))))) else (if (k_b l5) = 0 then (k18 l1 l3 false (l6 + 1) c_mine c_theirs c_many) else (k_g l6 400 (if (lg_cmp (c_mine (Int32.toNatClampNeg l6)) l1) = 0 then (k_g l6 400 (if (lg_cmp (c_theirs (Int32.toNatClampNeg l6)) l3) = 0 then (k18 l1 l3 false (l6 + 1) c_mine c_theirs c_many) else (k18 l1 l3 true (l6 + 1) c_mine c_theirs c_many))) else (k18 l1 l3 true (l6 + 1) c_mine c_theirs c_many))))
def mX10_adds (c_s : Nat → Int32) (c_mine : Nat → Int64) (c_theirs : Nat → Int64) (c_many : Int32) : Option ((Nat → Int64) × (Nat → Int64) × (Int32)) :=
  k_bd (mX10_told c_s 0) (fun r1 => k_bd (mX10_told c_s 1) (fun r2 => k_fix (fun _ _ _ _ _ _ _ => none) (mX10_adds_18 c_s) k_F r1 r2 true 0 c_mine c_theirs c_many))

def mX10_addsBoth_47 (a1 : Int32) (a2 : Int32) (k11 : (Int32) → (Int32) → (Nat → Int32) → (Nat → Int32) → (Nat → Int64) → (Nat → Int64) → (Int32) → Option ((Nat → Int32) × (Nat → Int32) × (Nat → Int64) × (Nat → Int64) × (Int32))) (k47 : (Int32) → (Int32) → (Int32) → (Nat → Int32) → (Nat → Int32) → (Nat → Int64) → (Nat → Int64) → (Int32) → Option ((Nat → Int32) × (Nat → Int32) × (Nat → Int64) × (Nat → Int64) × (Int32))) (l3 : Int32) (l4 : Int32) (l6 : Int32) (c_s : Nat → Int32) (c_laid : Nat → Int32) (c_mine : Nat → Int64) (c_theirs : Nat → Int64) (c_many : Int32) : Option ((Nat → Int32) × (Nat → Int32) × (Nat → Int64) × (Nat → Int64) × (Int32)) :=
  if 16 ≤ l6 then (k_bd (mX10_takesUp c_s c_laid 0) (fun w1 => k11 l3 (l4 + 1) w1 c_laid c_mine c_theirs c_many)) else (k_bd (mX10_refused c_s l3 l6 a2) (fun r2 => if r2 = 0 then (k_bd (mX10_lays c_s c_laid 1) (fun w3 => k_bd2 (mX10_moves c_s l3 l6 a2) (fun r4 w5 => k_bd3 (mX10_adds w5 c_mine c_theirs c_many) (fun w6 w7 w8 => k_bd (mX10_takesUp w5 w3 1) (fun w9 => k47 l3 l4 (l6 + 1) w9 w3 w6 w7 w8))))) else (k47 l3 l4 (l6 + 1) c_s c_laid c_mine c_theirs c_many)))
def mX10_addsBoth_11 (a1 : Int32) (a2 : Int32) (k11 : (Int32) → (Int32) → (Nat → Int32) → (Nat → Int32) → (Nat → Int64) → (Nat → Int64) → (Int32) → Option ((Nat → Int32) × (Nat → Int32) × (Nat → Int64) × (Nat → Int64) × (Int32))) (l3 : Int32) (l4 : Int32) (c_s : Nat → Int32) (c_laid : Nat → Int32) (c_mine : Nat → Int64) (c_theirs : Nat → Int64) (c_many : Int32) : Option ((Nat → Int32) × (Nat → Int32) × (Nat → Int64) × (Nat → Int64) × (Int32)) :=
  if 16 ≤ l4 then (some (c_s, c_laid, c_mine, c_theirs, c_many)) else (k_bd (mX10_refused c_s l3 l4 a1) (fun r10 => if r10 = 0 then (k_bd (mX10_lays c_s c_laid 0) (fun w11 => k_bd2 (mX10_moves c_s l3 l4 a1) (fun r12 w13 => k_fix (fun _ _ _ _ _ _ _ _ => none) (mX10_addsBoth_47 a1 a2 k11) k_F l3 l4 (-1) w13 w11 c_mine c_theirs c_many))) else (k11 l3 (l4 + 1) c_s c_laid c_mine c_theirs c_many)))
def mX10_addsBoth (c_s : Nat → Int32) (c_laid : Nat → Int32) (c_mine : Nat → Int64) (c_theirs : Nat → Int64) (c_many : Int32) (a1 : Int32) (a2 : Int32) : Option ((Nat → Int32) × (Nat → Int32) × (Nat → Int64) × (Nat → Int64) × (Int32)) :=
  k_fix (fun _ _ _ _ _ _ _ => none) (mX10_addsBoth_11 a1 a2) k_F (c_s 36) (-1) c_s c_laid c_mine c_theirs c_many

def mX10_addsOne_10 (a1 : Int32) (k10 : (Int32) → (Int32) → (Nat → Int32) → (Nat → Int32) → (Nat → Int64) → (Nat → Int64) → (Int32) → Option ((Nat → Int32) × (Nat → Int32) × (Nat → Int64) × (Nat → Int64) × (Int32))) (l2 : Int32) (l3 : Int32) (c_s : Nat → Int32) (c_laid : Nat → Int32) (c_mine : Nat → Int64) (c_theirs : Nat → Int64) (c_many : Int32) : Option ((Nat → Int32) × (Nat → Int32) × (Nat → Int64) × (Nat → Int64) × (Int32)) :=
  if 16 ≤ l3 then (some (c_s, c_laid, c_mine, c_theirs, c_many)) else (k_bd (mX10_refused c_s l2 l3 a1) (fun r1 => if r1 = 0 then (k_bd (mX10_lays c_s c_laid 0) (fun w2 => k_bd2 (mX10_moves c_s l2 l3 a1) (fun r3 w4 => k_bd3 (mX10_adds w4 c_mine c_theirs c_many) (fun w5 w6 w7 => k_bd (mX10_takesUp w4 w2 0) (fun w8 => k10 l2 (l3 + 1) w8 w2 w5 w6 w7))))) else (k10 l2 (l3 + 1) c_s c_laid c_mine c_theirs c_many)))
def mX10_addsOne (c_s : Nat → Int32) (c_laid : Nat → Int32) (c_mine : Nat → Int64) (c_theirs : Nat → Int64) (c_many : Int32) (a1 : Int32) : Option ((Nat → Int32) × (Nat → Int32) × (Nat → Int64) × (Nat → Int64) × (Int32)) :=
  k_fix (fun _ _ _ _ _ _ _ => none) (mX10_addsOne_10 a1) k_F (c_s 36) (-1) c_s c_laid c_mine c_theirs c_many

def mX10_likePlays_93 (a1 : Int32) (k32 : (Int32) → (Nat → Int32) → (Nat → Int32) → (Nat → Int32) → (Nat → Int64) → (Nat → Int64) → (Int32) → (Nat → Int64) → (Nat → Int64) → Option (Int32 × (Nat → Int32) × (Nat → Int32) × (Nat → Int32) × (Nat → Int64) × (Nat → Int64) × (Int32) × (Nat → Int64) × (Nat → Int64))) (k93 : (Int32) → (Int32) → (Int32) → (Nat → Int32) → (Nat → Int32) → (Nat → Int32) → (Nat → Int64) → (Nat → Int64) → (Int32) → (Nat → Int64) → (Nat → Int64) → Option (Int32 × (Nat → Int32) × (Nat → Int32) × (Nat → Int32) × (Nat → Int64) × (Nat → Int64) × (Int32) × (Nat → Int64) × (Nat → Int64))) (l2 : Int32) (l3 : Int32) (l4 : Int32) (c_s : Nat → Int32) (c_aside : Nat → Int32) (c_laid : Nat → Int32) (c_mine : Nat → Int64) (c_theirs : Nat → Int64) (c_many : Int32) (c_from0 : Nat → Int64) (c_from1 : Nat → Int64) : Option (Int32 × (Nat → Int32) × (Nat → Int32) × (Nat → Int32) × (Nat → Int64) × (Nat → Int64) × (Int32) × (Nat → Int64) × (Nat → Int64)) :=
  if l3 ≤ l4 then (k32 (l2 + 1) c_s c_aside c_laid c_mine c_theirs c_many c_from0 c_from1) else (k_g l4 400 (k_bd (mX10_stands c_s 0 (c_from0 (Int32.toNatClampNeg l4))) (fun w1 => k_g l4 400 (k_bd (mX10_stands w1 1 (c_from1 (Int32.toNatClampNeg l4))) (fun w2 => k_bd5 (mX10_addsOne w2 c_laid c_mine c_theirs c_many (w2 39)) (fun w3 w4 w5 w6 w7 => k93 l2 l3 (l4 + 1) w3 c_aside w4 w5 w6 w7 c_from0 c_from1))))))
def mX10_likePlays_45 (a1 : Int32) (k32 : (Int32) → (Nat → Int32) → (Nat → Int32) → (Nat → Int32) → (Nat → Int64) → (Nat → Int64) → (Int32) → (Nat → Int64) → (Nat → Int64) → Option (Int32 × (Nat → Int32) × (Nat → Int32) × (Nat → Int32) × (Nat → Int64) × (Nat → Int64) × (Int32) × (Nat → Int64) × (Nat → Int64))) (k45 : (Int32) → (Int32) → (Int32) → (Nat → Int32) → (Nat → Int32) → (Nat → Int32) → (Nat → Int64) → (Nat → Int64) → (Int32) → (Nat → Int64) → (Nat → Int64) → Option (Int32 × (Nat → Int32) × (Nat → Int32) × (Nat → Int32) × (Nat → Int64) × (Nat → Int64) × (Int32) × (Nat → Int64) × (Nat → Int64))) (l2 : Int32) (l3 : Int32) (l4 : Int32) (c_s : Nat → Int32) (c_aside : Nat → Int32) (c_laid : Nat → Int32) (c_mine : Nat → Int64) (c_theirs : Nat → Int64) (c_many : Int32) (c_from0 : Nat → Int64) (c_from1 : Nat → Int64) : Option (Int32 × (Nat → Int32) × (Nat → Int32) × (Nat → Int32) × (Nat → Int64) × (Nat → Int64) × (Int32) × (Nat → Int64) × (Nat → Int64)) :=
  if l3 ≤ l4 then (k_fix (fun _ _ _ _ _ _ _ _ _ _ _ => none) (mX10_likePlays_93 a1 k32) k_F l2 l3 0 c_s c_aside c_laid c_mine c_theirs 0 c_from0 c_from1) else (k_g l4 400 (k_g l4 400 (k_g l4 400 (k_g l4 400 (k45 l2 l3 (l4 + 1) c_s c_aside c_laid c_mine c_theirs c_many (vp_updL c_from0 (Int32.toNatClampNeg l4) (c_mine (Int32.toNatClampNeg l4))) (vp_updL c_from1 (Int32.toNatClampNeg l4) (c_theirs (Int32.toNatClampNeg l4))))))))
def mX10_likePlays_148 (a1 : Int32) (k148 : (Int32) → (Nat → Int32) → (Nat → Int32) → (Nat → Int32) → (Nat → Int64) → (Nat → Int64) → (Int32) → (Nat → Int64) → (Nat → Int64) → Option (Int32 × (Nat → Int32) × (Nat → Int32) × (Nat → Int32) × (Nat → Int64) × (Nat → Int64) × (Int32) × (Nat → Int64) × (Nat → Int64))) (l2 : Int32) (c_s : Nat → Int32) (c_aside : Nat → Int32) (c_laid : Nat → Int32) (c_mine : Nat → Int64) (c_theirs : Nat → Int64) (c_many : Int32) (c_from0 : Nat → Int64) (c_from1 : Nat → Int64) : Option (Int32 × (Nat → Int32) × (Nat → Int32) × (Nat → Int32) × (Nat → Int64) × (Nat → Int64) × (Int32) × (Nat → Int64) × (Nat → Int64)) :=
  if 36 ≤ l2 then (some (c_many, c_s, c_aside, c_laid, c_mine, c_theirs, c_many, c_from0, c_from1)) else (k_g l2 51 (k_g l2 51 (k148 (l2 + 1) (upd c_s (Int32.toNatClampNeg l2) (c_aside (Int32.toNatClampNeg l2))) c_aside c_laid c_mine c_theirs c_many c_from0 c_from1)))
def mX10_likePlays_32 (a1 : Int32) (k32 : (Int32) → (Nat → Int32) → (Nat → Int32) → (Nat → Int32) → (Nat → Int64) → (Nat → Int64) → (Int32) → (Nat → Int64) → (Nat → Int64) → Option (Int32 × (Nat → Int32) × (Nat → Int32) × (Nat → Int32) × (Nat → Int64) × (Nat → Int64) × (Int32) × (Nat → Int64) × (Nat → Int64))) (l2 : Int32) (c_s : Nat → Int32) (c_aside : Nat → Int32) (c_laid : Nat → Int32) (c_mine : Nat → Int64) (c_theirs : Nat → Int64) (c_many : Int32) (c_from0 : Nat → Int64) (c_from1 : Nat → Int64) : Option (Int32 × (Nat → Int32) × (Nat → Int32) × (Nat → Int32) × (Nat → Int64) × (Nat → Int64) × (Int32) × (Nat → Int64) × (Nat → Int64)) :=
  if a1 ≤ l2 then (k_fix (fun _ _ _ _ _ _ _ _ _ => none) (mX10_likePlays_148 a1) k_F 0 c_s c_aside c_laid c_mine c_theirs c_many c_from0 c_from1) else (k_fix (fun _ _ _ _ _ _ _ _ _ _ _ => none) (mX10_likePlays_45 a1 k32) k_F l2 c_many 0 c_s c_aside c_laid c_mine c_theirs c_many c_from0 c_from1)
def mX10_likePlays_2 (a1 : Int32) (k2 : (Int32) → (Nat → Int32) → (Nat → Int32) → (Nat → Int32) → (Nat → Int64) → (Nat → Int64) → (Int32) → (Nat → Int64) → (Nat → Int64) → Option (Int32 × (Nat → Int32) × (Nat → Int32) × (Nat → Int32) × (Nat → Int64) × (Nat → Int64) × (Int32) × (Nat → Int64) × (Nat → Int64))) (l2 : Int32) (c_s : Nat → Int32) (c_aside : Nat → Int32) (c_laid : Nat → Int32) (c_mine : Nat → Int64) (c_theirs : Nat → Int64) (c_many : Int32) (c_from0 : Nat → Int64) (c_from1 : Nat → Int64) : Option (Int32 × (Nat → Int32) × (Nat → Int32) × (Nat → Int32) × (Nat → Int64) × (Nat → Int64) × (Int32) × (Nat → Int64) × (Nat → Int64)) :=
  if 36 ≤ l2 then (k_bd3 (mX10_adds c_s c_mine c_theirs c_many) (fun w8 w9 w10 => k_fix (fun _ _ _ _ _ _ _ _ _ => none) (mX10_likePlays_32 a1) k_F 0 c_s c_aside c_laid w8 w9 w10 c_from0 c_from1)) else (k_g l2 51 (k_g l2 51 (k2 (l2 + 1) c_s (upd c_aside (Int32.toNatClampNeg l2) (c_s (Int32.toNatClampNeg l2))) c_laid c_mine c_theirs c_many c_from0 c_from1)))
def mX10_likePlays (c_s : Nat → Int32) (c_aside : Nat → Int32) (c_laid : Nat → Int32) (c_mine : Nat → Int64) (c_theirs : Nat → Int64) (c_many : Int32) (c_from0 : Nat → Int64) (c_from1 : Nat → Int64) (a1 : Int32) : Option (Int32 × (Nat → Int32) × (Nat → Int32) × (Nat → Int32) × (Nat → Int64) × (Nat → Int64) × (Int32) × (Nat → Int64) × (Nat → Int64)) :=
  k_fix (fun _ _ _ _ _ _ _ _ _ => none) (mX10_likePlays_2 a1) k_F 0 c_s c_aside c_laid c_mine c_theirs c_many c_from0 c_from1

def mX10_allPlays_120 (c_s : Nat → Int32) (c_aside : Nat → Int32) (c_laid : Nat → Int32) (c_mine : Nat → Int64) (c_theirs : Nat → Int64) (c_many : Int32) (c_from0 : Nat → Int64) (c_from1 : Nat → Int64) : Option (Int32 × (Nat → Int32) × (Nat → Int32) × (Nat → Int32) × (Nat → Int64) × (Nat → Int64) × (Int32) × (Nat → Int64) × (Nat → Int64)) :=
  some (c_many, c_s, c_aside, c_laid, c_mine, c_theirs, c_many, c_from0, c_from1)
def mX10_allPlays_117 (t0 : Int32) (c_s : Nat → Int32) (c_aside : Nat → Int32) (c_laid : Nat → Int32) (c_mine : Nat → Int64) (c_theirs : Nat → Int64) (c_many : Int32) (c_from0 : Nat → Int64) (c_from1 : Nat → Int64) : Option (Int32 × (Nat → Int32) × (Nat → Int32) × (Nat → Int32) × (Nat → Int64) × (Nat → Int64) × (Int32) × (Nat → Int64) × (Nat → Int64)) :=
  k_bd5 (mX10_addsOne c_s c_laid c_mine c_theirs c_many t0) (fun w1 w2 w3 w4 w5 => mX10_allPlays_120 w1 c_aside w2 w3 w4 w5 c_from0 c_from1)
def mX10_allPlays_57 (t0 : Int32) (l1 : Int32) (c_s : Nat → Int32) (c_aside : Nat → Int32) (c_laid : Nat → Int32) (c_mine : Nat → Int64) (c_theirs : Nat → Int64) (c_many : Int32) (c_from0 : Nat → Int64) (c_from1 : Nat → Int64) : Option (Int32 × (Nat → Int32) × (Nat → Int32) × (Nat → Int32) × (Nat → Int64) × (Nat → Int64) × (Int32) × (Nat → Int64) × (Nat → Int64)) :=
  if l1 = 2 then (k_bd5 (mX10_addsBoth c_s c_laid c_mine c_theirs c_many t0 (((c_s 39) + (c_s 40)) - t0)) (fun w7 w8 w9 w10 w11 => k_bd5 (mX10_addsBoth w7 w8 w9 w10 w11 (((c_s 39) + (c_s 40)) - t0) t0) (fun w12 w13 w14 w15 w16 => mX10_allPlays_120 w12 c_aside w13 w14 w15 w16 c_from0 c_from1))) else (k_bd (mX10_isAny c_s (c_s 36) t0) (fun r6 => if (k_b r6) = 0 then (mX10_allPlays_117 (((c_s 39) + (c_s 40)) - t0) c_s c_aside c_laid c_mine c_theirs c_many c_from0 c_from1) else (mX10_allPlays_117 t0 c_s c_aside c_laid c_mine c_theirs c_many c_from0 c_from1)))
def mX10_allPlays (c_s : Nat → Int32) (c_aside : Nat → Int32) (c_laid : Nat → Int32) (c_mine : Nat → Int64) (c_theirs : Nat → Int64) (c_many : Int32) (c_from0 : Nat → Int64) (c_from1 : Nat → Int64) : Option (Int32 × (Nat → Int32) × (Nat → Int32) × (Nat → Int32) × (Nat → Int64) × (Nat → Int64) × (Int32) × (Nat → Int64) × (Nat → Int64)) :=
  k_bd3 (mX10_reaches c_s c_laid) (fun r17 w18 w19 => if r17 = 0 then (some ((1 : Int32), w18, c_aside, w19, c_mine, c_theirs, 0, c_from0, c_from1)) else (k_bd (mX10_areUnlike w18) (fun r20 => if (k_b r20) = 0 then (k_bd9 (mX10_likePlays w18 c_aside w19 c_mine c_theirs 0 c_from0 c_from1 r17) (fun r21 w22 w23 w24 w25 w26 w27 w28 w29 => some (r21, w22, w23, w24, w25, w26, w27, w28, w29))) else (if (w18 39) ≤ (w18 40) then (mX10_allPlays_57 (w18 40) r17 w18 c_aside w19 c_mine c_theirs 0 c_from0 c_from1) else (mX10_allPlays_57 (w18 39) r17 w18 c_aside w19 c_mine c_theirs 0 c_from0 c_from1)))))

def mX10_plays (c_s : Nat → Int32) (c_aside : Nat → Int32) (c_thrown : Int32) (c_laid : Nat → Int32) (c_mine : Nat → Int64) (c_theirs : Nat → Int64) (c_many : Int32) (c_from0 : Nat → Int64) (c_from1 : Nat → Int64) : Option (Int32 × (Nat → Int32) × (Nat → Int32) × (Int32) × (Nat → Int32) × (Nat → Int64) × (Nat → Int64) × (Int32) × (Nat → Int64) × (Nat → Int64)) :=
  k_bd9 (mX10_allPlays c_s c_aside c_laid c_mine c_theirs c_many c_from0 c_from1) (fun r1 w2 w3 w4 w5 w6 w7 w8 w9 => some (r1, w2, w3, 0, w4, w5, w6, w7, w8, w9))

def mX10_playsByOrders (c_s : Nat → Int32) (c_aside : Nat → Int32) (c_thrown : Int32) (c_laid : Nat → Int32) (c_mine : Nat → Int64) (c_theirs : Nat → Int64) (c_many : Int32) (c_from0 : Nat → Int64) (c_from1 : Nat → Int64) : Option (Int32 × (Nat → Int32) × (Nat → Int32) × (Int32) × (Nat → Int32) × (Nat → Int64) × (Nat → Int64) × (Int32) × (Nat → Int64) × (Nat → Int64)) :=
  k_bd9 (mX10_allPlays c_s c_aside c_laid c_mine c_theirs c_many c_from0 c_from1) (fun r1 w2 w3 w4 w5 w6 w7 w8 w9 => some (r1, w2, w3, 0, w4, w5, w6, w7, w8, w9))

def mX10_wouldPlay_66 (a1 : Int32) (a2 : Int32) (k66 : (Int32) → (Int32) → (Nat → Int32) → (Nat → Int32) → (Nat → Int32) → (Nat → Int64) → (Nat → Int64) → (Int32) → (Nat → Int64) → (Nat → Int64) → (Nat → Int32) → Option (Int32 × (Nat → Int32) × (Nat → Int32) × (Nat → Int32) × (Nat → Int64) × (Nat → Int64) × (Int32) × (Nat → Int64) × (Nat → Int64) × (Nat → Int32))) (l4 : Int32) (l5 : Int32) (c_s : Nat → Int32) (c_aside : Nat → Int32) (c_laid : Nat → Int32) (c_mine : Nat → Int64) (c_theirs : Nat → Int64) (c_many : Int32) (c_from0 : Nat → Int64) (c_from1 : Nat → Int64) (c_dice : Nat → Int32) : Option (Int32 × (Nat → Int32) × (Nat → Int32) × (Nat → Int32) × (Nat → Int64) × (Nat → Int64) × (Int32) × (Nat → Int64) × (Nat → Int64) × (Nat → Int32)) :=
  if 6 ≤ l5 then (some (l4, c_s, c_aside, c_laid, c_mine, c_theirs, c_many, c_from0, c_from1, c_dice)) else (k_g l5 6 (k_g (37 + l5) 51 (k66 l4 (l5 + 1) (upd c_s (Int32.toNatClampNeg (37 + l5)) (c_dice (Int32.toNatClampNeg l5))) c_aside c_laid c_mine c_theirs c_many c_from0 c_from1 c_dice)))
def mX10_wouldPlay_57 (a1 : Int32) (a2 : Int32) (c_s : Nat → Int32) (c_aside : Nat → Int32) (c_laid : Nat → Int32) (c_mine : Nat → Int64) (c_theirs : Nat → Int64) (c_many : Int32) (c_from0 : Nat → Int64) (c_from1 : Nat → Int64) (c_dice : Nat → Int32) : Option (Int32 × (Nat → Int32) × (Nat → Int32) × (Nat → Int32) × (Nat → Int64) × (Nat → Int64) × (Int32) × (Nat → Int64) × (Nat → Int64) × (Nat → Int32)) :=
  k_bd9 (mX10_allPlays c_s c_aside c_laid c_mine c_theirs c_many c_from0 c_from1) (fun r1 w2 w3 w4 w5 w6 w7 w8 w9 => k_fix (fun _ _ _ _ _ _ _ _ _ _ _ => none) (mX10_wouldPlay_66 a1 a2) k_F r1 0 w2 w3 w4 w5 w6 w7 w8 w9 c_dice)
def mX10_wouldPlay_2 (a1 : Int32) (a2 : Int32) (k2 : (Int32) → (Nat → Int32) → (Nat → Int32) → (Nat → Int32) → (Nat → Int64) → (Nat → Int64) → (Int32) → (Nat → Int64) → (Nat → Int64) → (Nat → Int32) → Option (Int32 × (Nat → Int32) × (Nat → Int32) × (Nat → Int32) × (Nat → Int64) × (Nat → Int64) × (Int32) × (Nat → Int64) × (Nat → Int64) × (Nat → Int32))) (l3 : Int32) (c_s : Nat → Int32) (c_aside : Nat → Int32) (c_laid : Nat → Int32) (c_mine : Nat → Int64) (c_theirs : Nat → Int64) (c_many : Int32) (c_from0 : Nat → Int64) (c_from1 : Nat → Int64) (c_dice : Nat → Int32) : Option (Int32 × (Nat → Int32) × (Nat → Int32) × (Nat → Int32) × (Nat → Int64) × (Nat → Int64) × (Int32) × (Nat → Int64) × (Nat → Int64) × (Nat → Int32)) :=
  if 6 ≤ l3 then (k_bd2 (mX10_rolls c_s a1 a2) (fun r10 w11 => if r10 = 2 then (mX10_wouldPlay_57 a1 a2 (upd (upd w11 41 0) 42 0) c_aside c_laid c_mine c_theirs c_many c_from0 c_from1 c_dice) else (mX10_wouldPlay_57 a1 a2 w11 c_aside c_laid c_mine c_theirs c_many c_from0 c_from1 c_dice))) else (k_g (37 + l3) 51 (k_g l3 6 (k2 (l3 + 1) c_s c_aside c_laid c_mine c_theirs c_many c_from0 c_from1 (upd c_dice (Int32.toNatClampNeg l3) (c_s (Int32.toNatClampNeg (37 + l3)))))))
def mX10_wouldPlay (c_s : Nat → Int32) (c_aside : Nat → Int32) (c_laid : Nat → Int32) (c_mine : Nat → Int64) (c_theirs : Nat → Int64) (c_many : Int32) (c_from0 : Nat → Int64) (c_from1 : Nat → Int64) (c_dice : Nat → Int32) (a1 : Int32) (a2 : Int32) : Option (Int32 × (Nat → Int32) × (Nat → Int32) × (Nat → Int32) × (Nat → Int64) × (Nat → Int64) × (Int32) × (Nat → Int64) × (Nat → Int64) × (Nat → Int32)) :=
  k_fix (fun _ _ _ _ _ _ _ _ _ _ => none) (mX10_wouldPlay_2 a1 a2) k_F 0 c_s c_aside c_laid c_mine c_theirs c_many c_from0 c_from1 c_dice

def mX10_playsWith_34 (a1 : Int32) (a2 : Int32) (c_s : Nat → Int32) (c_aside : Nat → Int32) (c_thrown : Int32) (c_laid : Nat → Int32) (c_mine : Nat → Int64) (c_theirs : Nat → Int64) (c_many : Int32) (c_from0 : Nat → Int64) (c_from1 : Nat → Int64) (c_dice : Nat → Int32) : Option (Int32 × (Nat → Int32) × (Nat → Int32) × (Int32) × (Nat → Int32) × (Nat → Int64) × (Nat → Int64) × (Int32) × (Nat → Int64) × (Nat → Int64) × (Nat → Int32)) :=
  k_bd2 (mX10_throwing c_thrown 1) (fun r1 w2 => some (r1, c_s, c_aside, w2, c_laid, c_mine, c_theirs, c_many, c_from0, c_from1, c_dice))
def mX10_playsWith (c_s : Nat → Int32) (c_aside : Nat → Int32) (c_thrown : Int32) (c_laid : Nat → Int32) (c_mine : Nat → Int64) (c_theirs : Nat → Int64) (c_many : Int32) (c_from0 : Nat → Int64) (c_from1 : Nat → Int64) (c_dice : Nat → Int32) (a1 : Int32) (a2 : Int32) : Option (Int32 × (Nat → Int32) × (Nat → Int32) × (Int32) × (Nat → Int32) × (Nat → Int64) × (Nat → Int64) × (Int32) × (Nat → Int64) × (Nat → Int64) × (Nat → Int32)) :=
  k_bd (mX10_in a1 1 6) (fun r3 => if (k_b r3) = 0 then (mX10_playsWith_34 a1 a2 c_s c_aside 0 c_laid c_mine c_theirs c_many c_from0 c_from1 c_dice) else (k_bd (mX10_in a2 1 6) (fun r4 => if (k_b r4) = 0 then (mX10_playsWith_34 a1 a2 c_s c_aside 0 c_laid c_mine c_theirs c_many c_from0 c_from1 c_dice) else (k_bd10 (mX10_wouldPlay c_s c_aside c_laid c_mine c_theirs c_many c_from0 c_from1 c_dice a1 a2) (fun r5 w6 w7 w8 w9 w10 w11 w12 w13 w14 => some (r5, w6, w7, 0, w8, w9, w10, w11, w12, w13, w14))))))

def mX10_hitsBy_114 (a1 : Int32) (a2 : Int32) (a3 : Int32) (a4 : Int32) (k6 : (Bool) → (Int32) → (Nat → Int32) → (Nat → Int32) → Option (Bool × (Nat → Int32) × (Nat → Int32))) (l5 : Bool) (l6 : Int32) (c_s : Nat → Int32) (c_laid : Nat → Int32) : Option (Bool × (Nat → Int32) × (Nat → Int32)) :=
  k_bd (mX10_takesUp c_s c_laid 0) (fun w1 => k6 l5 (l6 + 1) w1 c_laid)
def mX10_hitsBy_65 (a1 : Int32) (a2 : Int32) (a3 : Int32) (a4 : Int32) (k6 : (Bool) → (Int32) → (Nat → Int32) → (Nat → Int32) → Option (Bool × (Nat → Int32) × (Nat → Int32))) (k65 : (Bool) → (Int32) → (Int32) → (Nat → Int32) → (Nat → Int32) → Option (Bool × (Nat → Int32) × (Nat → Int32))) (l5 : Bool) (l6 : Int32) (l8 : Int32) (c_s : Nat → Int32) (c_laid : Nat → Int32) : Option (Bool × (Nat → Int32) × (Nat → Int32)) :=
  if 16 ≤ l8 then (mX10_hitsBy_114 a1 a2 a3 a4 k6 l5 l6 c_s c_laid) else (if (k_b l5) = 0 then (k_bd (mX10_refused c_s a1 l8 a4) (fun r2 => if r2 = 0 then (k_bd (mX10_target a1 l8 a4) (fun r3 => if r3 = a2 then (k65 true l6 (l8 + 1) c_s c_laid) else (k65 false l6 (l8 + 1) c_s c_laid))) else (k65 false l6 (l8 + 1) c_s c_laid))) else (mX10_hitsBy_114 a1 a2 a3 a4 k6 l5 l6 c_s c_laid))
def mX10_hitsBy_45 (a1 : Int32) (a2 : Int32) (a3 : Int32) (a4 : Int32) (k6 : (Bool) → (Int32) → (Nat → Int32) → (Nat → Int32) → Option (Bool × (Nat → Int32) × (Nat → Int32))) (t0 : Bool) (l6 : Int32) (c_s : Nat → Int32) (c_laid : Nat → Int32) : Option (Bool × (Nat → Int32) × (Nat → Int32)) :=
  k_bd (mX10_lays c_s c_laid 0) (fun w4 => k_bd2 (mX10_moves c_s a1 l6 a3) (fun r5 w6 => k_fix (fun _ _ _ _ _ => none) (mX10_hitsBy_65 a1 a2 a3 a4 k6) k_F t0 l6 (-1) w6 w4))
def mX10_hitsBy_6 (a1 : Int32) (a2 : Int32) (a3 : Int32) (a4 : Int32) (k6 : (Bool) → (Int32) → (Nat → Int32) → (Nat → Int32) → Option (Bool × (Nat → Int32) × (Nat → Int32))) (l5 : Bool) (l6 : Int32) (c_s : Nat → Int32) (c_laid : Nat → Int32) : Option (Bool × (Nat → Int32) × (Nat → Int32)) :=
  if 16 ≤ l6 then (some (l5, c_s, c_laid)) else (if (k_b l5) = 0 then (k_bd (mX10_refused c_s a1 l6 a3) (fun r7 => if r7 = 0 then (k_bd (mX10_target a1 l6 a3) (fun r8 => if r8 = a2 then (mX10_hitsBy_45 a1 a2 a3 a4 k6 true l6 c_s c_laid) else (mX10_hitsBy_45 a1 a2 a3 a4 k6 false l6 c_s c_laid))) else (k6 l5 (l6 + 1) c_s c_laid))) else (some (l5, c_s, c_laid)))
def mX10_hitsBy (c_s : Nat → Int32) (c_laid : Nat → Int32) (a1 : Int32) (a2 : Int32) (a3 : Int32) (a4 : Int32) : Option (Bool × (Nat → Int32) × (Nat → Int32)) :=
  k_fix (fun _ _ _ _ => none) (mX10_hitsBy_6 a1 a2 a3 a4) k_F false (-1) c_s c_laid

def mX10_hitsByLike_55 (a1 : Int32) (a2 : Int32) (a3 : Int32) (k11 : (Bool) → (Int32) → (Nat → Int32) → (Nat → Int32) → Option (Bool × (Nat → Int32) × (Nat → Int32))) (t0 : Bool) (l5 : Int32) (c_s : Nat → Int32) (c_laid : Nat → Int32) : Option (Bool × (Nat → Int32) × (Nat → Int32)) :=
  k_bd2 (mX10_moves c_s a1 (-1) a3) (fun r6 w7 => k11 t0 (l5 + (-1)) w7 c_laid)
def mX10_hitsByLike_165 (a1 : Int32) (a2 : Int32) (a3 : Int32) (k89 : (Bool) → (Int32) → (Int32) → (Nat → Int32) → (Nat → Int32) → Option (Bool × (Nat → Int32) × (Nat → Int32))) (k120 : (Bool) → (Int32) → (Int32) → (Int32) → (Bool) → (Int32) → (Nat → Int32) → (Nat → Int32) → Option (Bool × (Nat → Int32) × (Nat → Int32))) (t0 : Bool) (l4 : Bool) (l5 : Int32) (l6 : Int32) (l7 : Int32) (l9 : Int32) (c_s : Nat → Int32) (c_laid : Nat → Int32) : Option (Bool × (Nat → Int32) × (Nat → Int32)) :=
  if (k_b l4) = 0 then (if (k_b t0) = 0 then (k120 false l5 l6 l7 t0 (l9 + 1) c_s c_laid) else (if l7 = a2 then (k120 true l5 l6 l7 t0 (l9 + 1) c_s c_laid) else (k120 false l5 l6 l7 t0 (l9 + 1) c_s c_laid))) else (k120 true l5 l6 l7 t0 (l9 + 1) c_s c_laid)
def mX10_hitsByLike_164 (a1 : Int32) (a2 : Int32) (a3 : Int32) (k89 : (Bool) → (Int32) → (Int32) → (Nat → Int32) → (Nat → Int32) → Option (Bool × (Nat → Int32) × (Nat → Int32))) (k120 : (Bool) → (Int32) → (Int32) → (Int32) → (Bool) → (Int32) → (Nat → Int32) → (Nat → Int32) → Option (Bool × (Nat → Int32) × (Nat → Int32))) (l4 : Bool) (l5 : Int32) (l6 : Int32) (l7 : Int32) (l9 : Int32) (c_s : Nat → Int32) (c_laid : Nat → Int32) : Option (Bool × (Nat → Int32) × (Nat → Int32)) :=
  mX10_hitsByLike_165 a1 a2 a3 k89 k120 false l4 l5 l6 l7 l9 c_s c_laid
def mX10_hitsByLike_120 (a1 : Int32) (a2 : Int32) (a3 : Int32) (k89 : (Bool) → (Int32) → (Int32) → (Nat → Int32) → (Nat → Int32) → Option (Bool × (Nat → Int32) × (Nat → Int32))) (k120 : (Bool) → (Int32) → (Int32) → (Int32) → (Bool) → (Int32) → (Nat → Int32) → (Nat → Int32) → Option (Bool × (Nat → Int32) × (Nat → Int32))) (l4 : Bool) (l5 : Int32) (l6 : Int32) (l7 : Int32) (l8 : Bool) (l9 : Int32) (c_s : Nat → Int32) (c_laid : Nat → Int32) : Option (Bool × (Nat → Int32) × (Nat → Int32)) :=
  if l5 ≤ l9 then (k89 l4 l5 (l6 + 1) c_s c_laid) else (if (k_b l8) = 0 then (k89 l4 l5 (l6 + 1) c_s c_laid) else (k_bd (mX10_target a1 l7 a3) (fun r2 => if r2 = 16 then (mX10_hitsByLike_164 a1 a2 a3 k89 k120 l4 l5 l6 r2 l9 c_s c_laid) else (k_bd (mX10_isBlock c_s (1 - a1) r2) (fun r3 => if (k_b r3) = 0 then (mX10_hitsByLike_165 a1 a2 a3 k89 k120 true l4 l5 l6 r2 l9 c_s c_laid) else (mX10_hitsByLike_164 a1 a2 a3 k89 k120 l4 l5 l6 r2 l9 c_s c_laid))))))
def mX10_hitsByLike_115 (a1 : Int32) (a2 : Int32) (a3 : Int32) (k89 : (Bool) → (Int32) → (Int32) → (Nat → Int32) → (Nat → Int32) → Option (Bool × (Nat → Int32) × (Nat → Int32))) (t0 : Bool) (l4 : Bool) (l5 : Int32) (l6 : Int32) (l7 : Int32) (c_s : Nat → Int32) (c_laid : Nat → Int32) : Option (Bool × (Nat → Int32) × (Nat → Int32)) :=
  k_fix (fun _ _ _ _ _ _ _ _ => none) (mX10_hitsByLike_120 a1 a2 a3 k89) k_F l4 l5 l6 l7 t0 0 c_s c_laid
def mX10_hitsByLike_202 (a1 : Int32) (a2 : Int32) (a3 : Int32) (l4 : Bool) (c_s : Nat → Int32) (c_laid : Nat → Int32) : Option (Bool × (Nat → Int32) × (Nat → Int32)) :=
  k_bd (mX10_takesUp c_s c_laid 0) (fun w1 => some (l4, w1, c_laid))
def mX10_hitsByLike_89 (a1 : Int32) (a2 : Int32) (a3 : Int32) (k89 : (Bool) → (Int32) → (Int32) → (Nat → Int32) → (Nat → Int32) → Option (Bool × (Nat → Int32) × (Nat → Int32))) (l4 : Bool) (l5 : Int32) (l6 : Int32) (c_s : Nat → Int32) (c_laid : Nat → Int32) : Option (Bool × (Nat → Int32) × (Nat → Int32)) :=
  if 16 ≤ l6 then (mX10_hitsByLike_202 a1 a2 a3 l4 c_s c_laid) else (k_bd (mX10_at c_s a1 l6) (fun r4 => if r4 ≤ 0 then (mX10_hitsByLike_115 a1 a2 a3 k89 false l4 l5 l6 l6 c_s c_laid) else (mX10_hitsByLike_115 a1 a2 a3 k89 true l4 l5 l6 l6 c_s c_laid)))
def mX10_hitsByLike_72 (a1 : Int32) (a2 : Int32) (a3 : Int32) (l4 : Bool) (l5 : Int32) (c_s : Nat → Int32) (c_laid : Nat → Int32) : Option (Bool × (Nat → Int32) × (Nat → Int32)) :=
  if (k_b l4) = 0 then (k_bd (mX10_at c_s a1 (-1)) (fun r5 => if r5 = 0 then (k_fix (fun _ _ _ _ _ => none) (mX10_hitsByLike_89 a1 a2 a3) k_F l4 l5 0 c_s c_laid) else (mX10_hitsByLike_202 a1 a2 a3 l4 c_s c_laid))) else (mX10_hitsByLike_202 a1 a2 a3 l4 c_s c_laid)
def mX10_hitsByLike_11 (a1 : Int32) (a2 : Int32) (a3 : Int32) (k11 : (Bool) → (Int32) → (Nat → Int32) → (Nat → Int32) → Option (Bool × (Nat → Int32) × (Nat → Int32))) (l4 : Bool) (l5 : Int32) (c_s : Nat → Int32) (c_laid : Nat → Int32) : Option (Bool × (Nat → Int32) × (Nat → Int32)) :=
  if (k_b l4) = 0 then (if l5 ≤ 0 then (mX10_hitsByLike_72 a1 a2 a3 l4 l5 c_s c_laid) else (k_bd (mX10_at c_s a1 (-1)) (fun r8 => if r8 ≤ 0 then (mX10_hitsByLike_72 a1 a2 a3 l4 l5 c_s c_laid) else (k_bd (mX10_refused c_s a1 (-1) a3) (fun r9 => if r9 = 0 then (k_bd (mX10_target a1 (-1) a3) (fun r10 => if r10 = a2 then (mX10_hitsByLike_55 a1 a2 a3 k11 true l5 c_s c_laid) else (mX10_hitsByLike_55 a1 a2 a3 k11 false l5 c_s c_laid))) else (mX10_hitsByLike_72 a1 a2 a3 l4 l5 c_s c_laid)))))) else (mX10_hitsByLike_72 a1 a2 a3 l4 l5 c_s c_laid)
def mX10_hitsByLike (c_s : Nat → Int32) (c_laid : Nat → Int32) (a1 : Int32) (a2 : Int32) (a3 : Int32) : Option (Bool × (Nat → Int32) × (Nat → Int32)) :=
  k_bd (mX10_lays c_s c_laid 0) (fun w11 => k_fix (fun _ _ _ _ => none) (mX10_hitsByLike_11 a1 a2 a3) k_F false 4 c_s w11)

def mX10_shotsAt_71 (a1 : Int32) (k35 : (Int32) → (Int32) → (Int32) → (Nat → Int32) → (Nat → Int32) → Option (Int32 × (Nat → Int32) × (Nat → Int32))) (k71 : (Int32) → (Int32) → (Int32) → (Int32) → (Nat → Int32) → (Nat → Int32) → Option (Int32 × (Nat → Int32) × (Nat → Int32))) (l2 : Int32) (l3 : Int32) (l4 : Int32) (l5 : Int32) (c_s : Nat → Int32) (c_laid : Nat → Int32) : Option (Int32 × (Nat → Int32) × (Nat → Int32)) :=
  if l4 ≤ l5 then (k35 l2 l3 (l4 + 1) c_s c_laid) else (k_bd3 (mX10_hitsBy c_s c_laid (1 - l2) a1 l4 l5) (fun r1 w2 w3 => if (k_b r1) = 0 then (k_bd3 (mX10_hitsBy w2 w3 (1 - l2) a1 l5 l4) (fun r4 w5 w6 => if (k_b r4) = 0 then (k71 l2 (l3 + 0) l4 (l5 + 1) w5 w6) else (k71 l2 (l3 + 2) l4 (l5 + 1) w5 w6))) else (k71 l2 (l3 + 2) l4 (l5 + 1) w2 w3)))
def mX10_shotsAt_66 (a1 : Int32) (k35 : (Int32) → (Int32) → (Int32) → (Nat → Int32) → (Nat → Int32) → Option (Int32 × (Nat → Int32) × (Nat → Int32))) (t0 : Bool) (t1 : Int32) (l2 : Int32) (l4 : Int32) (c_s : Nat → Int32) (c_laid : Nat → Int32) : Option (Int32 × (Nat → Int32) × (Nat → Int32)) :=
  k_fix (fun _ _ _ _ _ _ => none) (mX10_shotsAt_71 a1 k35) k_F l2 (t1 + (k_b t0)) l4 1 c_s c_laid
def mX10_shotsAt_35 (a1 : Int32) (k35 : (Int32) → (Int32) → (Int32) → (Nat → Int32) → (Nat → Int32) → Option (Int32 × (Nat → Int32) × (Nat → Int32))) (l2 : Int32) (l3 : Int32) (l4 : Int32) (c_s : Nat → Int32) (c_laid : Nat → Int32) : Option (Int32 × (Nat → Int32) × (Nat → Int32)) :=
  if 6 < l4 then (some (l3, c_s, c_laid)) else (if l2 = (-1) then (some (l3, c_s, c_laid)) else (k_bd3 (mX10_hitsByLike c_s c_laid (1 - l2) a1 l4) (fun r7 w8 w9 => if (k_b r7) = 0 then (mX10_shotsAt_66 a1 k35 false l3 l2 l4 w8 w9) else (mX10_shotsAt_66 a1 k35 true l3 l2 l4 w8 w9))))
def mX10_shotsAt_29 (a1 : Int32) (t0 : Int32) (c_s : Nat → Int32) (c_laid : Nat → Int32) : Option (Int32 × (Nat → Int32) × (Nat → Int32)) :=
  k_fix (fun _ _ _ _ _ => none) (mX10_shotsAt_35 a1) k_F t0 0 1 c_s c_laid
def mX10_shotsAt (c_s : Nat → Int32) (c_laid : Nat → Int32) (a1 : Int32) : Option (Int32 × (Nat → Int32) × (Nat → Int32)) :=
  k_bd (mX10_at c_s 0 a1) (fun r10 => if r10 = 1 then (mX10_shotsAt_29 a1 0 c_s c_laid) else (k_bd (mX10_at c_s 1 a1) (fun r11 => if r11 = 1 then (mX10_shotsAt_29 a1 1 c_s c_laid) else (mX10_shotsAt_29 a1 (-1) c_s c_laid))))

def mX10_shots (c_s : Nat → Int32) (c_thrown : Int32) (c_laid : Nat → Int32) (a1 : Int32) : Option (Int32 × (Nat → Int32) × (Int32) × (Nat → Int32)) :=
  k_bd2 (mX10_isThere c_thrown 0 a1) (fun r1 w2 => if (k_b r1) = 0 then (some ((0 : Int32), c_s, w2, c_laid)) else (k_bd3 (mX10_shotsAt c_s c_laid a1) (fun r3 w4 w5 => some (r3, w4, w2, w5))))

def mX10_shotsByKinds (c_s : Nat → Int32) (c_thrown : Int32) (c_laid : Nat → Int32) (a1 : Int32) : Option (Int32 × (Nat → Int32) × (Int32) × (Nat → Int32)) :=
  k_bd2 (mX10_isThere c_thrown 0 a1) (fun r1 w2 => if (k_b r1) = 0 then (some ((0 : Int32), c_s, w2, c_laid)) else (k_bd3 (mX10_shotsAt c_s c_laid a1) (fun r3 w4 w5 => some (r3, w4, w2, w5))))

def mX10_enters_4 (c_s : Nat → Int32) (a1 : Int32) (k4 : (Int32) → (Int32) → Option (Int32)) (l2 : Int32) (l3 : Int32) : Option (Int32) :=
  if 6 < l3 then (some ((36 - (l2 * l2)))) else (k_bd (mX10_target a1 (-1) l3) (fun r1 => k_bd (mX10_isBlock c_s (1 - a1) r1) (fun r2 => if (k_b r2) = 0 then (k4 (l2 + 0) (l3 + 1)) else (k4 (l2 + 1) (l3 + 1)))))
def mX10_enters (c_s : Nat → Int32) (a1 : Int32) : Option (Int32) :=
  k_fix (fun _ _ => none) (mX10_enters_4 c_s a1) k_F 0 1

def mX10_entering (c_s : Nat → Int32) (c_thrown : Int32) (a1 : Int32) : Option (Int32 × (Int32)) :=
  k_bd2 (mX10_isThere c_thrown a1 0) (fun r1 w2 => if (k_b r1) = 0 then (some ((0 : Int32), w2)) else (k_bd (mX10_enters c_s a1) (fun r3 => some (r3, w2))))

def mX10_blotsBehind_30 (a1 : Int32) (a2 : Int32) (c_s : Nat → Int32) (c_thrown : Int32) (c_laid : Nat → Int32) : Option (Int32 × (Nat → Int32) × (Int32) × (Nat → Int32)) :=
  if c_thrown ≤ 0 then (k_bd (mX10_lays c_s c_laid 0) (fun w1 => k_bd2 (mX10_moves c_s (c_s 36) a1 a2) (fun r2 w3 => k_bd (mX10_blot w3 (w3 36)) (fun r4 => k_bd (mX10_takesUp w3 w1 0) (fun w5 => some (r4, w5, c_thrown, w1)))))) else (some ((0 : Int32), c_s, c_thrown, c_laid))
def mX10_blotsBehind (c_s : Nat → Int32) (c_thrown : Int32) (c_laid : Nat → Int32) (a1 : Int32) (a2 : Int32) : Option (Int32 × (Nat → Int32) × (Int32) × (Nat → Int32)) :=
  k_bd (mX10_fault a1 a2) (fun r6 => if r6 = 0 then (k_bd3 (mX10_why c_s c_laid a1 a2) (fun r7 w8 w9 => if r7 = 0 then (mX10_blotsBehind_30 a1 a2 w8 r6 w9) else (mX10_blotsBehind_30 a1 a2 w8 3 w9))) else (mX10_blotsBehind_30 a1 a2 c_s r6 c_laid))

def mX10_leading (c_s : Nat → Int32) : Option (UInt64) :=
  k_bd (mX10_pip c_s (1 - (c_s 36))) (fun r1 => k_bd (mX10_pip c_s (c_s 36)) (fun r2 => if (r1 + r2) = 0 then (some (4602678819172646912)) else (k_gn (k_nn (FP.ddiv (FP.i2d r1) (FP.i2d (r1 + r2)))) (some ((FP.ddiv (FP.i2d r1) (FP.i2d (r1 + r2))))))))

def mX10_lead (c_s : Nat → Int32) (c_thrown : Int32) : Option (UInt64 × (Int32)) :=
  k_bd (mX10_leading c_s) (fun r1 => some (r1, 0))

def mX10_bitsOf_98 (a0 : UInt64) (a2 : Int32) (a3 : Int32) (k72 : (UInt64) → (Int64) → (Int32) → Option (Int64)) (t0 : Int64) (l7 : UInt64) (l9 : Int64) (l11 : Int32) : Option (Int64) :=
  k_gn (k_nn (FP.dsub l7 (FP.l2d t0))) (k72 (FP.dsub l7 (FP.l2d t0)) (((2) * l9) + t0) (l11 + 1))
def mX10_bitsOf_72 (a0 : UInt64) (a2 : Int32) (a3 : Int32) (k72 : (UInt64) → (Int64) → (Int32) → Option (Int64)) (l7 : UInt64) (l9 : Int64) (l11 : Int32) : Option (Int64) :=
  if a2 ≤ l11 then (some (l9)) else (k_gn (k_nn (FP.dmul l7 4611686018427387904)) (if (Op.cmpValue (FP.dcmp (FP.dmul l7 4611686018427387904) 4607182418800017408) CmpOp.l) < 0 then (mX10_bitsOf_98 a0 a2 a3 k72 0 (FP.dmul l7 4611686018427387904) l9 l11) else (mX10_bitsOf_98 a0 a2 a3 k72 1 (FP.dmul l7 4611686018427387904) l9 l11)))
def mX10_bitsOf_37 (a0 : UInt64) (a2 : Int32) (a3 : Int32) (k37 : (UInt64) → (Int32) → Option (Int64)) (l4 : UInt64) (l6 : Int32) : Option (Int64) :=
  if 0 ≤ (Op.cmpValue (FP.dcmp l4 4607182418800017408) CmpOp.g) then (k_gn (k_nn (FP.dsub l4 4607182418800017408)) (k_fix (fun _ _ _ => none) (mX10_bitsOf_72 a0 a2 a3) k_F (FP.dsub l4 4607182418800017408) (Int32.toInt64 l6) 0)) else (k_gn (k_nn (FP.dmul l4 4611686018427387904)) (k37 (FP.dmul l4 4611686018427387904) (l6 + (-1))))
def mX10_bitsOf_14 (a0 : UInt64) (a2 : Int32) (a3 : Int32) (k14 : (UInt64) → (Int32) → Option (Int64)) (l4 : UInt64) (l6 : Int32) : Option (Int64) :=
  if (Op.cmpValue (FP.dcmp l4 4611686018427387904) CmpOp.l) < 0 then (k_fix (fun _ _ => none) (mX10_bitsOf_37 a0 a2 a3) k_F l4 l6) else (k_gn (k_nn (FP.ddiv l4 4611686018427387904)) (k14 (FP.ddiv l4 4611686018427387904) (l6 + 1)))
def mX10_bitsOf (a0 : UInt64) (a2 : Int32) (a3 : Int32) : Option (Int64) :=
  if (Op.cmpValue (FP.dcmp a0 0) CmpOp.l) = 0 then (some (0)) else (k_fix (fun _ _ => none) (mX10_bitsOf_14 a0 a2 a3) k_F a0 a3)

def mX10_mix (c_hash : Int64) (a1 : Int64) : Option ((Int64)) :=
  some ((((31) * c_hash) + a1))

def mX10_digest_262 (c_known : Int32) (c_buffer : Nat → Int32) (c_length : Int32) (k164 : (Int32) → (Nat → Int32) → (Nat → Int32) → (Int32) → (Nat → Int32) → (Nat → Int64) → (Nat → Int64) → (Int32) → (Nat → Int64) → (Nat → Int64) → (Nat → Int32) → (Int64) → Option (Int64 × (Nat → Int32) × (Nat → Int32) × (Int32) × (Nat → Int32) × (Nat → Int64) × (Nat → Int64) × (Int32) × (Nat → Int64) × (Nat → Int64) × (Nat → Int32) × (Int64))) (k262 : (Int32) → (Int32) → (Nat → Int32) → (Nat → Int32) → (Int32) → (Nat → Int32) → (Nat → Int64) → (Nat → Int64) → (Int32) → (Nat → Int64) → (Nat → Int64) → (Nat → Int32) → (Int64) → Option (Int64 × (Nat → Int32) × (Nat → Int32) × (Int32) × (Nat → Int32) × (Nat → Int64) × (Nat → Int64) × (Int32) × (Nat → Int64) × (Nat → Int64) × (Nat → Int32) × (Int64))) (l1 : Int32) (l2 : Int32) (c_s : Nat → Int32) (c_aside : Nat → Int32) (c_thrown : Int32) (c_laid : Nat → Int32) (c_mine : Nat → Int64) (c_theirs : Nat → Int64) (c_many : Int32) (c_from0 : Nat → Int64) (c_from1 : Nat → Int64) (c_dice : Nat → Int32) (c_hash : Int64) : Option (Int64 × (Nat → Int32) × (Nat → Int32) × (Int32) × (Nat → Int32) × (Nat → Int64) × (Nat → Int64) × (Int32) × (Nat → Int64) × (Nat → Int64) × (Nat → Int32) × (Int64)) :=
  if 16 ≤ l2 then (k164 (l1 + 1) c_s c_aside c_thrown c_laid c_mine c_theirs c_many c_from0 c_from1 c_dice c_hash) else (k_bd (mX10_at c_s l1 l2) (fun r16 => k_bd (mX10_mix c_hash (Int32.toInt64 r16)) (fun w17 => k262 l1 (l2 + 1) c_s c_aside c_thrown c_laid c_mine c_theirs c_many c_from0 c_from1 c_dice w17)))
def mX10_digest_387 (c_known : Int32) (c_buffer : Nat → Int32) (c_length : Int32) (k387 : (Int32) → (Nat → Int32) → (Nat → Int32) → (Int32) → (Nat → Int32) → (Nat → Int64) → (Nat → Int64) → (Int32) → (Nat → Int64) → (Nat → Int64) → (Nat → Int32) → (Int64) → Option (Int64 × (Nat → Int32) × (Nat → Int32) × (Int32) × (Nat → Int32) × (Nat → Int64) × (Nat → Int64) × (Int32) × (Nat → Int64) × (Nat → Int64) × (Nat → Int32) × (Int64))) (l1 : Int32) (c_s : Nat → Int32) (c_aside : Nat → Int32) (c_thrown : Int32) (c_laid : Nat → Int32) (c_mine : Nat → Int64) (c_theirs : Nat → Int64) (c_many : Int32) (c_from0 : Nat → Int64) (c_from1 : Nat → Int64) (c_dice : Nat → Int32) (c_hash : Int64) : Option (Int64 × (Nat → Int32) × (Nat → Int32) × (Int32) × (Nat → Int32) × (Nat → Int64) × (Nat → Int64) × (Int32) × (Nat → Int64) × (Nat → Int64) × (Nat → Int32) × (Int64)) :=
  if c_length ≤ l1 then (some (c_hash, c_s, c_aside, c_thrown, c_laid, c_mine, c_theirs, c_many, c_from0, c_from1, c_dice, c_hash)) else (k_g l1 60 (k_bd (mX10_mix c_hash (Int32.toInt64 (c_buffer (Int32.toNatClampNeg l1)))) (fun w1 => k387 (l1 + 1) c_s c_aside c_thrown c_laid c_mine c_theirs c_many c_from0 c_from1 c_dice w1)))
def mX10_digest_360 (c_known : Int32) (c_buffer : Nat → Int32) (c_length : Int32) (c_s : Nat → Int32) (c_aside : Nat → Int32) (c_thrown : Int32) (c_laid : Nat → Int32) (c_mine : Nat → Int64) (c_theirs : Nat → Int64) (c_many : Int32) (c_from0 : Nat → Int64) (c_from1 : Nat → Int64) (c_dice : Nat → Int32) (c_hash : Int64) : Option (Int64 × (Nat → Int32) × (Nat → Int32) × (Int32) × (Nat → Int32) × (Nat → Int64) × (Nat → Int64) × (Int32) × (Nat → Int64) × (Nat → Int64) × (Nat → Int32) × (Int64)) :=
  k_bd (mX10_leading c_s) (fun r2 => k_bd (mX10_bitsOf r2 52 1023) (fun r3 => k_bd (mX10_mix c_hash r3) (fun w4 => k_bd (mX10_mix w4 (Int32.toInt64 c_length)) (fun w5 => k_fix (fun _ _ _ _ _ _ _ _ _ _ _ _ => none) (mX10_digest_387 c_known c_buffer c_length) k_F 0 c_s c_aside c_thrown c_laid c_mine c_theirs c_many c_from0 c_from1 c_dice w5))))
def mX10_digest_293 (c_known : Int32) (c_buffer : Nat → Int32) (c_length : Int32) (k293 : (Int32) → (Nat → Int32) → (Nat → Int32) → (Int32) → (Nat → Int32) → (Nat → Int64) → (Nat → Int64) → (Int32) → (Nat → Int64) → (Nat → Int64) → (Nat → Int32) → (Int64) → Option (Int64 × (Nat → Int32) × (Nat → Int32) × (Int32) × (Nat → Int32) × (Nat → Int64) × (Nat → Int64) × (Int32) × (Nat → Int64) × (Nat → Int64) × (Nat → Int32) × (Int64))) (l1 : Int32) (c_s : Nat → Int32) (c_aside : Nat → Int32) (c_thrown : Int32) (c_laid : Nat → Int32) (c_mine : Nat → Int64) (c_theirs : Nat → Int64) (c_many : Int32) (c_from0 : Nat → Int64) (c_from1 : Nat → Int64) (c_dice : Nat → Int32) (c_hash : Int64) : Option (Int64 × (Nat → Int32) × (Nat → Int32) × (Int32) × (Nat → Int32) × (Nat → Int64) × (Nat → Int64) × (Int32) × (Nat → Int64) × (Nat → Int64) × (Nat → Int32) × (Int64)) :=
  if 16 ≤ l1 then (k_bd (mX10_mix c_hash (Int32.toInt64 (c_s 49))) (fun w6 => if (c_s 49) = 1 then (k_bd (mX10_mix w6 (Int32.toInt64 (c_s 50))) (fun w7 => mX10_digest_360 c_known c_buffer c_length c_s c_aside c_thrown c_laid c_mine c_theirs c_many c_from0 c_from1 c_dice w7)) else (mX10_digest_360 c_known c_buffer c_length c_s c_aside c_thrown c_laid c_mine c_theirs c_many c_from0 c_from1 c_dice w6))) else (k_bd3 (mX10_shotsAt c_s c_laid l1) (fun r8 w9 w10 => k_bd (mX10_mix c_hash (Int32.toInt64 r8)) (fun w11 => k_bd3 (mX10_shotsAt w9 w10 l1) (fun r12 w13 w14 => k_bd (mX10_mix w11 (Int32.toInt64 r12)) (fun w15 => k293 (l1 + 1) w13 c_aside c_thrown w14 c_mine c_theirs c_many c_from0 c_from1 c_dice w15)))))
def mX10_digest_164 (c_known : Int32) (c_buffer : Nat → Int32) (c_length : Int32) (k164 : (Int32) → (Nat → Int32) → (Nat → Int32) → (Int32) → (Nat → Int32) → (Nat → Int64) → (Nat → Int64) → (Int32) → (Nat → Int64) → (Nat → Int64) → (Nat → Int32) → (Int64) → Option (Int64 × (Nat → Int32) × (Nat → Int32) × (Int32) × (Nat → Int32) × (Nat → Int64) × (Nat → Int64) × (Int32) × (Nat → Int64) × (Nat → Int64) × (Nat → Int32) × (Int64))) (l1 : Int32) (c_s : Nat → Int32) (c_aside : Nat → Int32) (c_thrown : Int32) (c_laid : Nat → Int32) (c_mine : Nat → Int64) (c_theirs : Nat → Int64) (c_many : Int32) (c_from0 : Nat → Int64) (c_from1 : Nat → Int64) (c_dice : Nat → Int32) (c_hash : Int64) : Option (Int64 × (Nat → Int32) × (Nat → Int32) × (Int32) × (Nat → Int32) × (Nat → Int64) × (Nat → Int64) × (Int32) × (Nat → Int64) × (Nat → Int64) × (Nat → Int32) × (Int64)) :=
  if 2 ≤ l1 then (k_fix (fun _ _ _ _ _ _ _ _ _ _ _ _ => none) (mX10_digest_293 c_known c_buffer c_length) k_F 0 c_s c_aside c_thrown c_laid c_mine c_theirs c_many c_from0 c_from1 c_dice c_hash) else (k_bd (mX10_at c_s l1 (-1)) (fun r18 => k_bd (mX10_mix c_hash (Int32.toInt64 r18)) (fun w19 => k_bd (mX10_at c_s l1 16) (fun r20 => k_bd (mX10_mix w19 (Int32.toInt64 r20)) (fun w21 => k_bd (mX10_pip c_s l1) (fun r22 => k_bd (mX10_mix w21 (Int32.toInt64 r22)) (fun w23 => k_bd (mX10_blot c_s l1) (fun r24 => k_bd (mX10_mix w23 (Int32.toInt64 r24)) (fun w25 => k_bd (mX10_wall c_s l1) (fun r26 => k_bd (mX10_mix w25 (Int32.toInt64 r26)) (fun w27 => k_g (45 + l1) 51 (k_bd (mX10_mix w27 (Int32.toInt64 (c_s (Int32.toNatClampNeg (45 + l1))))) (fun w28 => k_g (47 + l1) 51 (k_bd (mX10_mix w28 (Int32.toInt64 (c_s (Int32.toNatClampNeg (47 + l1))))) (fun w29 => k_bd (mX10_enters c_s l1) (fun r30 => k_bd (mX10_mix w29 (Int32.toInt64 r30)) (fun w31 => k_fix (fun _ _ _ _ _ _ _ _ _ _ _ _ _ => none) (mX10_digest_262 c_known c_buffer c_length k164) k_F l1 0 c_s c_aside c_thrown c_laid c_mine c_theirs c_many c_from0 c_from1 c_dice w31)))))))))))))))))
def mX10_digest_50 (c_known : Int32) (c_buffer : Nat → Int32) (c_length : Int32) (k50 : (Int32) → (Nat → Int32) → (Nat → Int32) → (Int32) → (Nat → Int32) → (Nat → Int64) → (Nat → Int64) → (Int32) → (Nat → Int64) → (Nat → Int64) → (Nat → Int32) → (Int64) → Option (Int64 × (Nat → Int32) × (Nat → Int32) × (Int32) × (Nat → Int32) × (Nat → Int64) × (Nat → Int64) × (Int32) × (Nat → Int64) × (Nat → Int64) × (Nat → Int32) × (Int64))) (l1 : Int32) (c_s : Nat → Int32) (c_aside : Nat → Int32) (c_thrown : Int32) (c_laid : Nat → Int32) (c_mine : Nat → Int64) (c_theirs : Nat → Int64) (c_many : Int32) (c_from0 : Nat → Int64) (c_from1 : Nat → Int64) (c_dice : Nat → Int32) (c_hash : Int64) : Option (Int64 × (Nat → Int32) × (Nat → Int32) × (Int32) × (Nat → Int32) × (Nat → Int64) × (Nat → Int64) × (Int32) × (Nat → Int64) × (Nat → Int64) × (Nat → Int32) × (Int64)) :=
  if (c_s 38) ≤ l1 then (k_bd (mX10_mix c_hash (Int32.toInt64 (c_s 43))) (fun w32 => k_bd (mX10_mix w32 (Int32.toInt64 (c_s 44))) (fun w33 => k_bd3 (mX10_possible c_s c_laid) (fun r34 w35 w36 => k_bd (mX10_mix w33 (Int32.toInt64 r34)) (fun w37 => k_bd3 (mX10_reaches w35 w36) (fun r38 w39 w40 => k_bd (mX10_mix w37 (Int32.toInt64 r38)) (fun w41 => k_bd9 (mX10_allPlays w39 c_aside w40 c_mine c_theirs c_many c_from0 c_from1) (fun r42 w43 w44 w45 w46 w47 w48 w49 w50 => k_bd (mX10_mix w41 (Int32.toInt64 r42)) (fun w51 => k_bd9 (mX10_allPlays w43 w44 w45 w46 w47 w48 w49 w50) (fun r52 w53 w54 w55 w56 w57 w58 w59 w60 => k_bd (mX10_mix w51 (Int32.toInt64 r52)) (fun w61 => k_bd10 (mX10_wouldPlay w53 w54 w55 w56 w57 w58 w59 w60 c_dice 6 5) (fun r62 w63 w64 w65 w66 w67 w68 w69 w70 w71 => k_bd (mX10_mix w61 (Int32.toInt64 r62)) (fun w72 => k_bd (mX10_mix w72 (Int32.toInt64 c_known)) (fun w73 => k_fix (fun _ _ _ _ _ _ _ _ _ _ _ _ => none) (mX10_digest_164 c_known c_buffer c_length) k_F 0 w63 w64 c_thrown w65 w66 w67 w68 w69 w70 w71 w73)))))))))))))) else (k_g (39 + l1) 51 (k_bd (mX10_mix c_hash (Int32.toInt64 (c_s (Int32.toNatClampNeg (39 + l1))))) (fun w74 => k50 (l1 + 1) c_s c_aside c_thrown c_laid c_mine c_theirs c_many c_from0 c_from1 c_dice w74)))
def mX10_digest (c_s : Nat → Int32) (c_known : Int32) (c_aside : Nat → Int32) (c_buffer : Nat → Int32) (c_length : Int32) (c_thrown : Int32) (c_laid : Nat → Int32) (c_mine : Nat → Int64) (c_theirs : Nat → Int64) (c_many : Int32) (c_from0 : Nat → Int64) (c_from1 : Nat → Int64) (c_dice : Nat → Int32) (c_hash : Int64) : Option (Int64 × (Nat → Int32) × (Nat → Int32) × (Int32) × (Nat → Int32) × (Nat → Int64) × (Nat → Int64) × (Int32) × (Nat → Int64) × (Nat → Int64) × (Nat → Int32) × (Int64)) :=
  k_bd (mX10_mix (4517) (Int32.toInt64 (c_s 36))) (fun w75 => k_bd (mX10_mix w75 (Int32.toInt64 (c_s 37))) (fun w76 => k_bd (mX10_mix w76 (Int32.toInt64 (c_s 38))) (fun w77 => k_fix (fun _ _ _ _ _ _ _ _ _ _ _ _ => none) (mX10_digest_50 c_known c_buffer c_length) k_F 0 c_s c_aside 0 c_laid c_mine c_theirs c_many c_from0 c_from1 c_dice w77)))

