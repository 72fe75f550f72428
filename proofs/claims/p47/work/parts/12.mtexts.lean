def mX5_isIn (c_size : Int32) (a1 : Int32) : Option (Bool) :=
  if a1 < 0 then (some (false)) else (if c_size ≤ a1 then (some (false)) else (if 128 ≤ a1 then (some (false)) else (some (true))))

def mX5_mineAt (c_mine : Nat → Int64) (c_size : Int32) (a1 : Int32) : Option (Int64) :=
  k_bd (mX5_isIn c_size a1) (fun r1 => if (k_b r1) = 0 then (some (0)) else (k_g a1 128 (some ((c_mine (Int32.toNatClampNeg a1))))))

def mX5_theirsAt (c_theirs : Nat → Int64) (c_size : Int32) (a1 : Int32) : Option (Int64) :=
  k_bd (mX5_isIn c_size a1) (fun r1 => if (k_b r1) = 0 then (some (0)) else (k_g a1 128 (some ((c_theirs (Int32.toNatClampNeg a1))))))

def mX5_diceAt (c_dice : Nat → Int32) (c_size : Int32) (a1 : Int32) : Option (Int32) :=
  k_bd (mX5_isIn c_size a1) (fun r1 => if (k_b r1) = 0 then (some ((0 : Int32))) else (k_g a1 128 (some ((c_dice (Int32.toNatClampNeg a1))))))

def mX5_clear (c_size : Int32) : Option ((Int32)) :=
  some (0)

def mX5_add_63 (a1 : Int64) (a3 : Int64) (a5 : Int32) (c_mine : Nat → Int64) (c_theirs : Nat → Int64) (c_dice : Nat → Int32) (c_size : Int32) : Option ((Nat → Int64) × (Nat → Int64) × (Nat → Int32) × (Int32)) :=
  if c_size < 0 then (some (c_mine, c_theirs, c_dice, c_size)) else (if 128 ≤ c_size then (some (c_mine, c_theirs, c_dice, c_size)) else (k_g c_size 128 (k_g c_size 128 (k_g c_size 128 (some ((vp_updL c_mine (Int32.toNatClampNeg c_size) a1), (vp_updL c_theirs (Int32.toNatClampNeg c_size) a3), (upd c_dice (Int32.toNatClampNeg c_size) a5), (c_size + 1)))))))
def mX5_add_3 (a1 : Int64) (a3 : Int64) (a5 : Int32) (k3 : (Int32) → (Nat → Int64) → (Nat → Int64) → (Nat → Int32) → (Int32) → Option ((Nat → Int64) × (Nat → Int64) × (Nat → Int32) × (Int32))) (l6 : Int32) (c_mine : Nat → Int64) (c_theirs : Nat → Int64) (c_dice : Nat → Int32) (c_size : Int32) : Option ((Nat → Int64) × (Nat → Int64) × (Nat → Int32) × (Int32)) :=
  if c_size ≤ l6 then (mX5_add_63 a1 a3 a5 c_mine c_theirs c_dice c_size) else (if 128 ≤ l6 then (mX5_add_63 a1 a3 a5 c_mine c_theirs c_dice c_size) else (k_g l6 128 (if (lg_cmp (c_mine (Int32.toNatClampNeg l6)) a1) = 0 then (k_g l6 128 (if (lg_cmp (c_theirs (Int32.toNatClampNeg l6)) a3) = 0 then (k_g l6 128 (if (c_dice (Int32.toNatClampNeg l6)) = a5 then (some (c_mine, c_theirs, c_dice, c_size)) else (k3 (l6 + 1) c_mine c_theirs c_dice c_size))) else (k3 (l6 + 1) c_mine c_theirs c_dice c_size))) else (k3 (l6 + 1) c_mine c_theirs c_dice c_size))))
def mX5_add (c_mine : Nat → Int64) (c_theirs : Nat → Int64) (c_dice : Nat → Int32) (c_size : Int32) (a1 : Int64) (a3 : Int64) (a5 : Int32) : Option ((Nat → Int64) × (Nat → Int64) × (Nat → Int32) × (Int32)) :=
  k_fix (fun _ _ _ _ _ => none) (mX5_add_3 a1 a3 a5) k_F 0 c_mine c_theirs c_dice c_size

