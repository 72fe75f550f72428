/-! doubles: doubling, taking one away, comparing -/
theorem f_mul {x y : UInt64} {c : Nat} {q r : Int} (hx : f_d x = .fin false c q) (hy : f_d y = .fin false (2 ^ 52) r) (hc : 2 ^ 52 ≤ c) (hc2 : c < 2 ^ 53) (h1 : -1074 ≤ q + r + 52) (h2 : q + r + 52 ≤ 971) : FP.dmul x y = f_U c (q + r + 52) := by
  show f_e (Jvm.FP.Core.round Jvm.FP.Core.b64 (Jvm.FP.Core.exactProduct (f_d x) (f_d y))) = _
  rw [hx, hy]
  show f_e (Jvm.FP.Core.round Jvm.FP.Core.b64 (.fin false (c * 2 ^ 52) (q + r))) = _
  rw [f_round (k := 52) hc hc2 (by omega) (by omega)]
  rfl
theorem f_2 : f_d 4611686018427387904 = .fin false (2 ^ 52) (-51) := by decide +kernel
theorem f_1 : f_d 4607182418800017408 = .fin false (2 ^ 52) (-52) := by decide +kernel
theorem f_252 : f_d 4841369599423283200 = .fin false (2 ^ 52) 0 := by decide +kernel
theorem f_0 : f_d 0 = .fin false 0 (-1074) := by decide +kernel
theorem f_l2d1 : FP.l2d 1 = 4607182418800017408 := by decide +kernel
theorem f_l2d0 : FP.l2d 0 = 0 := by decide +kernel
theorem f_sub1 {x : UInt64} {c : Nat} (hx : f_d x = .fin false c (-52)) (hc : 2 ^ 52 ≤ c) (hc2 : c < 2 ^ 53) : FP.dsub x 4607182418800017408 = f_W (c - 2 ^ 52) := by
  show f_e (Jvm.FP.Core.round Jvm.FP.Core.b64 (Jvm.FP.Core.exactSum (f_d x) (Jvm.FP.Core.negate (f_d 4607182418800017408)))) = _
  rw [hx, f_1]
  have hm : min (-52 : Int) (-52) = -52 := by omega
  show f_e (Jvm.FP.Core.round Jvm.FP.Core.b64 (.fin (Jvm.FP.Core.sumSign false true (Jvm.FP.Core.sumUnits false c (-52) true (2 ^ 52) (-52) (min (-52) (-52)))) (Jvm.FP.Core.sumUnits false c (-52) true (2 ^ 52) (-52) (min (-52) (-52))).natAbs (min (-52) (-52)))) = _
  rw [hm]
  have hv : Jvm.FP.Core.sumUnits false c (-52) true (2 ^ 52) (-52) (-52) = ((c - 2 ^ 52 : Nat) : Int) := by
    unfold Jvm.FP.Core.sumUnits Jvm.FP.Core.signed Jvm.FP.Core.inUnits
    have t0 : ((-52 : Int) - -52).toNat = 0 := by omega
    rw [t0, if_neg (by decide), if_pos rfl, Nat.pow_zero, Nat.mul_one, Nat.mul_one]
    omega
  rw [hv]
  have hs : Jvm.FP.Core.sumSign false true ((c - 2 ^ 52 : Nat) : Int) = false := by
    unfold Jvm.FP.Core.sumSign
    by_cases h : ((c - 2 ^ 52 : Nat) : Int) = 0
    · rw [if_pos h]; rfl
    · rw [if_neg h, decide_eq_false (by omega)]
  rw [hs, Int.natAbs_natCast]
  exact f_roundW (m := c - 2 ^ 52) (by omega)
theorem f_sub0 {x : UInt64} {c : Nat} {q : Int} (hx : f_d x = .fin false c q) (hc : 2 ^ 52 ≤ c) (hc2 : c < 2 ^ 53) (h1 : -1074 ≤ q) (h2 : q ≤ 971) : FP.dsub x 0 = f_U c q := by
  show f_e (Jvm.FP.Core.round Jvm.FP.Core.b64 (Jvm.FP.Core.exactSum (f_d x) (Jvm.FP.Core.negate (f_d 0)))) = _
  rw [hx, f_0]
  have hm : min q (-1074) = -1074 := by omega
  show f_e (Jvm.FP.Core.round Jvm.FP.Core.b64 (.fin (Jvm.FP.Core.sumSign false true (Jvm.FP.Core.sumUnits false c q true 0 (-1074) (min q (-1074)))) (Jvm.FP.Core.sumUnits false c q true 0 (-1074) (min q (-1074))).natAbs (min q (-1074)))) = _
  rw [hm]
  obtain ⟨k, hk⟩ : ∃ k : Nat, q = -1074 + k := ⟨(q + 1074).toNat, by omega⟩
  have hpk := Nat.two_pow_pos k
  have hv : Jvm.FP.Core.sumUnits false c q true 0 (-1074) (-1074) = ((c * 2 ^ k : Nat) : Int) := by
    show ((c * 2 ^ (q - -1074).toNat : Nat) : Int) + -((0 * 2 ^ ((-1074 : Int) - -1074).toNat : Nat) : Int) = _
    rw [show (q - -1074).toNat = k by omega, Nat.zero_mul]
    omega
  have hpos : 0 < c * 2 ^ k := Nat.mul_pos (by omega) hpk
  have hs : Jvm.FP.Core.sumSign false true ((c * 2 ^ k : Nat) : Int) = false := by
    unfold Jvm.FP.Core.sumSign
    rw [if_neg (by omega), decide_eq_false (by omega)]
  rw [hv, hs, Int.natAbs_natCast, f_round hc hc2 (by omega) (by omega), ← hk]
  rfl
theorem f_cmp_lt {x : UInt64} {c : Nat} {q : Int} (hx : f_d x = .fin false c q) (hc2 : c < 2 ^ 53) (hq : q < -52) : FP.dcmp x 4607182418800017408 = some .lt := by
  show Jvm.FP.Core.order (f_d x) (f_d 4607182418800017408) = _
  rw [hx, f_1]
  show some (compare ((c * 2 ^ (q - min q (-52)).toNat : Nat) : Int) ((2 ^ 52 * 2 ^ ((-52 : Int) - min q (-52)).toNat : Nat) : Int)) = _
  have hm : min q (-52) = q := by omega
  rw [hm]
  have t1 : (q - q).toNat = 0 := by omega
  obtain ⟨k, hk⟩ : ∃ k : Nat, ((-52 : Int) - q).toNat = k + 1 := ⟨((-52 : Int) - q).toNat - 1, by omega⟩
  rw [t1, hk, Nat.pow_zero, Nat.mul_one, Nat.pow_succ]
  have hpk := Nat.two_pow_pos k
  have hlt : c < 2 ^ 52 * (2 ^ k * 2) := by
    have : 2 ^ 52 * 2 ≤ 2 ^ 52 * (2 ^ k * 2) := Nat.mul_le_mul_left _ (by omega)
    omega
  rw [Int.compare_eq_lt.mpr (by omega)]
theorem f_cmp_ge {x : UInt64} {c : Nat} (hx : f_d x = .fin false c (-52)) (hc : 2 ^ 52 ≤ c) : FP.dcmp x 4607182418800017408 = some .eq ∨ FP.dcmp x 4607182418800017408 = some .gt := by
  have e : FP.dcmp x 4607182418800017408 = some (compare ((c * 2 ^ 0 : Nat) : Int) ((2 ^ 52 * 2 ^ 0 : Nat) : Int)) := by
    show Jvm.FP.Core.order (f_d x) (f_d 4607182418800017408) = _
    rw [hx, f_1]
    rfl
  rw [e]
  by_cases h : c = 2 ^ 52
  · rw [h]; exact Or.inl (by rw [Int.compare_eq_eq.mpr rfl])
  · exact Or.inr (by rw [Int.compare_eq_gt.mpr (by omega)])
theorem cv_lt : Op.cmpValue (some .lt) CmpOp.l < 0 ∧ ¬ 0 ≤ Op.cmpValue (some .lt) CmpOp.g := by decide
theorem cv_ge {o : Option Ordering} (h : o = some .eq ∨ o = some .gt) : ¬ Op.cmpValue o CmpOp.l < 0 ∧ 0 ≤ Op.cmpValue o CmpOp.g := by
  rcases h with rfl | rfl <;> decide
/-! what lies below 2 with 52 digits -/
theorem W_d {m : Nat} (h0 : m ≠ 0) (h : m < 2 ^ 53) : f_W m = f_U (m * 2 ^ (52 - m.log2)) ((m.log2 : Int) - 104) ∧ f_d (f_W m) = .fin false (m * 2 ^ (52 - m.log2)) ((m.log2 : Int) - 104) := by
  obtain ⟨j1, j2, j3, j4, j5⟩ := f_jlt h0 h
  have e : f_W m = f_U (m * 2 ^ (52 - m.log2)) ((m.log2 : Int) - 104) := if_neg h0
  exact ⟨e, by rw [e]; exact f_dec j4 j5 (by omega) (by omega)⟩
theorem W_0 : f_W 0 = 0 := if_pos rfl
theorem W_nn {m : Nat} (h : m < 2 ^ 53) : k_nn (f_W m) = true := by
  by_cases h0 : m = 0
  · rw [h0, W_0]; decide
  · obtain ⟨j1, j2, j3, j4, j5⟩ := f_jlt h0 h
    rw [(W_d h0 h).1]
    exact f_nnU j4 j5 (by omega) (by omega)
theorem f_log2 {m : Nat} (h0 : m ≠ 0) : (2 * m).log2 = m.log2 + 1 := by
  obtain ⟨h1, h2⟩ := (Nat.log2_eq_iff (k := m.log2) h0).mp rfl
  apply f_log
  · rw [Nat.pow_succ]; omega
  · rw [Nat.pow_succ]; omega
theorem W_dbl {m : Nat} (h : m < 2 ^ 52) : FP.dmul (f_W m) 4611686018427387904 = f_W (2 * m) := by
  by_cases h0 : m = 0
  · rw [h0, W_0]; decide +kernel
  · obtain ⟨j1, j2, j3, j4, j5⟩ := f_jlt h0 (by omega)
    have hj : m.log2 < 52 := (Nat.log2_lt h0).mpr h
    rw [f_mul (W_d h0 (by omega)).2 f_2 j4 j5 (by omega) (by omega), (W_d (m := 2 * m) (by omega) (by omega)).1, f_log2 h0]
    congr 1
    · have e : 52 - m.log2 = (52 - (m.log2 + 1)) + 1 := by omega
      rw [e, Nat.pow_succ]
      generalize 2 ^ (52 - (m.log2 + 1)) = z
      rw [Nat.mul_comm z 2, ← Nat.mul_assoc, Nat.mul_comm m 2]
    · omega
theorem W_lt {m : Nat} (h : m < 2 ^ 52) : FP.dcmp (f_W m) 4607182418800017408 = some .lt := by
  by_cases h0 : m = 0
  · rw [h0, W_0]; decide +kernel
  · obtain ⟨j1, j2, j3, j4, j5⟩ := f_jlt h0 (by omega)
    have hj : m.log2 < 52 := (Nat.log2_lt h0).mpr h
    exact f_cmp_lt (W_d h0 (by omega)).2 j5 (by omega)
theorem W_hi {m : Nat} (h1 : 2 ^ 52 ≤ m) (h : m < 2 ^ 53) : f_d (f_W m) = .fin false m (-52) := by
  have hl : m.log2 = 52 := f_log h1 h
  have := (W_d (m := m) (by omega) h).2
  rw [hl, Nat.sub_self, Nat.pow_zero, Nat.mul_one] at this
  exact this
theorem W_sub1 {m : Nat} (h1 : 2 ^ 52 ≤ m) (h : m < 2 ^ 53) : FP.dsub (f_W m) (FP.l2d 1) = f_W (m - 2 ^ 52) := by
  rw [f_l2d1]; exact f_sub1 (W_hi h1 h) h1 h
theorem W_sub0 {m : Nat} (h : m < 2 ^ 53) : FP.dsub (f_W m) (FP.l2d 0) = f_W m := by
  rw [f_l2d0]
  by_cases h0 : m = 0
  · rw [h0, W_0]; decide +kernel
  · obtain ⟨j1, j2, j3, j4, j5⟩ := f_jlt h0 h
    rw [f_sub0 (W_d h0 h).2 j4 j5 (by omega) (by omega), (W_d h0 h).1]
theorem W_d2l {m : Nat} (h : m < 2 ^ 52) : k_nn (FP.dmul (f_W m) 4841369599423283200) = true ∧ FP.d2l (FP.dmul (f_W m) 4841369599423283200) = lN m := by
  by_cases h0 : m = 0
  · rw [h0, W_0]; decide +kernel
  · obtain ⟨j1, j2, j3, j4, j5⟩ := f_jlt h0 (by omega)
    have hj : m.log2 < 52 := (Nat.log2_lt h0).mpr h
    rw [f_mul (W_d h0 (by omega)).2 f_252 j4 j5 (by omega) (by omega)]
    refine ⟨f_nnU j4 j5 (by omega) (by omega), ?_⟩
    show Jvm.FP.Core.toL (f_d (f_U (m * 2 ^ (52 - m.log2)) ((m.log2 : Int) - 104 + 0 + 52))) = _
    rw [f_dec j4 j5 (by omega) (by omega)]
    unfold Jvm.FP.Core.toL Jvm.FP.Core.toInt Jvm.FP.Core.truncate Jvm.FP.Core.signed
    dsimp only
    have t1 : ((m.log2 : Int) - 104 + 0 + 52).toNat = 0 := by omega
    have t2 : (-((m.log2 : Int) - 104 + 0 + 52)).toNat = 52 - m.log2 := by omega
    rw [t1, t2, Nat.pow_zero, Nat.mul_one, Nat.mul_div_cancel _ (Nat.two_pow_pos _)]
    have t3 : max (-2 ^ 63 : Int) (min (2 ^ 63 - 1) (if false = true then -(m : Int) else (m : Int))) = (m : Int) := by
      rw [if_neg (by decide)]
      omega
    rw [t3]
    rfl
