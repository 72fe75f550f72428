/-! doubles: values by their digits and their exponent -/
theorem f_qmin : Jvm.FP.Core.b64.qmin = -1074 := by decide
theorem f_qmax : Jvm.FP.Core.b64.qmax = 971 := by decide
theorem f_tails : Jvm.FP.Core.b64.tails = 2 ^ 52 := by decide
theorem f_exps : Jvm.FP.Core.b64.exps = 2048 := by decide
theorem f_p : Jvm.FP.Core.b64.p = 53 := rfl
def f_e (d : Jvm.FP.Core.Datum) : UInt64 := UInt64.ofNat (Jvm.FP.Core.encode Jvm.FP.Core.b64 d)
def f_d (x : UInt64) : Jvm.FP.Core.Datum := Jvm.FP.Core.decode Jvm.FP.Core.b64 x.toNat
def f_U (c : Nat) (q : Int) : UInt64 := f_e (.fin false c q)
theorem f_enc {c : Nat} {q : Int} (hc : 2 ^ 52 ≤ c) (hq : -1074 ≤ q) : Jvm.FP.Core.encode Jvm.FP.Core.b64 (.fin false c q) = ((q + 1074).toNat + 1) * 2 ^ 52 + (c - 2 ^ 52) := by
  show (if c < Jvm.FP.Core.b64.tails then _ else Jvm.FP.Core.assemble Jvm.FP.Core.b64 false ((q - Jvm.FP.Core.b64.qmin).toNat + 1) (c - Jvm.FP.Core.b64.tails)) = _
  rw [f_tails, if_neg (by omega), f_qmin]
  unfold Jvm.FP.Core.assemble
  rw [f_tails, f_exps]
  show (0 * 2048 + ((q - -1074).toNat + 1)) * 2 ^ 52 + (c - 2 ^ 52) = _
  rw [show q - -1074 = q + 1074 by omega]
  omega
theorem f_nat {c : Nat} {q : Int} (hc : 2 ^ 52 ≤ c) (hc2 : c < 2 ^ 53) (hq : -1074 ≤ q) (hq2 : q ≤ 971) : (f_U c q).toNat = ((q + 1074).toNat + 1) * 2 ^ 52 + (c - 2 ^ 52) := by
  unfold f_U f_e
  rw [f_enc hc hq, UInt64.toNat_ofNat', Nat.mod_eq_of_lt]
  have : (q + 1074).toNat ≤ 2045 := by omega
  omega
theorem f_dec {c : Nat} {q : Int} (hc : 2 ^ 52 ≤ c) (hc2 : c < 2 ^ 53) (hq : -1074 ≤ q) (hq2 : q ≤ 971) : f_d (f_U c q) = .fin false c q := by
  have hn := f_nat hc hc2 hq hq2
  obtain ⟨E, hE⟩ : ∃ E, E = (q + 1074).toNat + 1 := ⟨_, rfl⟩
  have hE1 : 1 ≤ E := by omega
  have hE2 : E ≤ 2046 := by omega
  rw [← hE] at hn
  unfold f_d Jvm.FP.Core.decode Jvm.FP.Core.fieldE Jvm.FP.Core.fieldT Jvm.FP.Core.fieldS
  rw [f_tails, f_exps, f_qmin, hn]
  have e1 : (E * 2 ^ 52 + (c - 2 ^ 52)) / 2 ^ 52 = E := by omega
  have e2 : (E * 2 ^ 52 + (c - 2 ^ 52)) % 2 ^ 52 = c - 2 ^ 52 := by omega
  rw [e1, e2, Nat.mod_eq_of_lt (show E < 2048 by omega), if_neg (by omega), if_neg (by omega)]
  have e3 : E / 2048 = 0 := by omega
  rw [e3]
  have e4 : (-1074 : Int) + ((E : Int) - 1) = q := by omega
  have e5 : 2 ^ 52 + (c - 2 ^ 52) = c := by omega
  rw [e4, e5]
  rfl
theorem f_nn {x : UInt64} (h : x.toNat ≤ 0x7ff0000000000000) : k_nn x = true := by
  unfold k_nn
  rw [decide_eq_true_iff, UInt64.le_iff_toNat_le, UInt64.toNat_and]
  exact Nat.le_trans Nat.and_le_left h
theorem f_nnU {c : Nat} {q : Int} (hc : 2 ^ 52 ≤ c) (hc2 : c < 2 ^ 53) (hq : -1074 ≤ q) (hq2 : q ≤ 971) : k_nn (f_U c q) = true := by
  apply f_nn
  rw [f_nat hc hc2 hq hq2]
  have : (q + 1074).toNat ≤ 2045 := by omega
  omega
theorem f_log {n k : Nat} (h1 : 2 ^ k ≤ n) (h2 : n < 2 ^ (k + 1)) : n.log2 = k := by
  have h0 : n ≠ 0 := by have := Nat.two_pow_pos k; omega
  exact (Nat.log2_eq_iff h0).mpr ⟨h1, h2⟩
theorem f_lead {n j : Nat} (h1 : 2 ^ j ≤ n) (h2 : n < 2 ^ (j + 1)) : Jvm.FP.Core.leading n 1 = (j : Int) := by
  unfold Jvm.FP.Core.leading
  rw [f_log h1 h2, f_log (n := 1) (k := 0) (by decide) (by decide)]
  have e : ((j : Int) - ((0 : Nat) : Int)).toNat = j := by omega
  have e2 : (-((j : Int) - ((0 : Nat) : Int))).toNat = 0 := by omega
  show (if 1 * 2 ^ ((j : Int) - ((0 : Nat) : Int)).toNat ≤ n * 2 ^ (-((j : Int) - ((0 : Nat) : Int))).toNat then (j : Int) - ((0 : Nat) : Int) else (j : Int) - ((0 : Nat) : Int) - 1) = _
  rw [e, e2, if_pos (by omega)]
  omega
theorem f_settle {c : Nat} {q : Int} (hc2 : c < 2 ^ 53) (hq2 : q ≤ 971) : Jvm.FP.Core.settle Jvm.FP.Core.b64 false c q = .fin false c q := by
  unfold Jvm.FP.Core.settle Jvm.FP.Core.bound
  rw [f_p, f_qmax, if_pos hc2, if_pos hq2]
theorem f_round {c k : Nat} {e : Int} (hc : 2 ^ 52 ≤ c) (hc2 : c < 2 ^ 53) (h1 : -1074 ≤ e + k) (h2 : e + k ≤ 971) : Jvm.FP.Core.round Jvm.FP.Core.b64 (.fin false (c * 2 ^ k) e) = .fin false c (e + k) := by
  have hpk := Nat.two_pow_pos k
  show Jvm.FP.Core.roundRatio Jvm.FP.Core.b64 false (c * 2 ^ k) 1 e = _
  unfold Jvm.FP.Core.roundRatio
  have h0 : ¬ c * 2 ^ k = 0 := by
    rw [Nat.mul_eq_zero]; omega
  have l1 : 2 ^ (52 + k) ≤ c * 2 ^ k := by rw [Nat.pow_add]; exact Nat.mul_le_mul_right _ hc
  have l2 : c * 2 ^ k < 2 ^ (52 + k + 1) := by
    rw [show 52 + k + 1 = 53 + k by omega, Nat.pow_add]; exact Nat.mul_lt_mul_of_pos_right hc2 hpk
  rw [if_neg h0]
  have hq : Jvm.FP.Core.quantum Jvm.FP.Core.b64 (c * 2 ^ k) 1 e = e + k := by
    unfold Jvm.FP.Core.quantum
    rw [f_lead l1 l2, f_qmin, f_p]
    show max (-1074 : Int) (((52 + k : Nat) : Int) + e - (((53 : Nat) : Int) - 1)) = e + k
    omega
  rw [hq]
  unfold Jvm.FP.Core.roundAt
  have hn : Jvm.FP.Core.nearest (Jvm.FP.Core.unitsNum (c * 2 ^ k) e (e + k)) (Jvm.FP.Core.unitsDen 1 e (e + k)) = c := by
    unfold Jvm.FP.Core.unitsNum Jvm.FP.Core.unitsDen Jvm.FP.Core.nearest
    have t1 : (e - (e + (k : Int))).toNat = 0 := by omega
    have t2 : (e + (k : Int) - e).toNat = k := by omega
    rw [t1, t2, Nat.pow_zero, Nat.mul_one, Nat.one_mul, Nat.mul_mod_left, if_pos (by omega), Nat.mul_div_cancel _ hpk]
  rw [hn, f_settle hc2 h2]
/-- a number of 52 digits behind the point, below 2 -/
def f_W (m : Nat) : UInt64 := if m = 0 then 0 else f_U (m * 2 ^ (52 - m.log2)) ((m.log2 : Int) - 104)
theorem f_jlt {m : Nat} (h0 : m ≠ 0) (h : m < 2 ^ 53) : m.log2 ≤ 52 ∧ 2 ^ m.log2 ≤ m ∧ m < 2 ^ (m.log2 + 1) ∧ 2 ^ 52 ≤ m * 2 ^ (52 - m.log2) ∧ m * 2 ^ (52 - m.log2) < 2 ^ 53 := by
  obtain ⟨h1, h2⟩ := (Nat.log2_eq_iff (k := m.log2) h0).mp rfl
  have h3 : m.log2 ≤ 52 := by
    have : m.log2 < 53 := (Nat.log2_lt h0).mpr h
    omega
  refine ⟨h3, h1, h2, ?_, ?_⟩
  · have : 2 ^ m.log2 * 2 ^ (52 - m.log2) = 2 ^ 52 := by rw [← Nat.pow_add]; congr 1; omega
    rw [← this]; exact Nat.mul_le_mul_right _ h1
  · have : 2 ^ (m.log2 + 1) * 2 ^ (52 - m.log2) = 2 ^ 53 := by rw [← Nat.pow_add]; congr 1; omega
    rw [← this]; exact Nat.mul_lt_mul_of_pos_right h2 (Nat.two_pow_pos _)
theorem f_roundW {m : Nat} (h : m < 2 ^ 53) : f_e (Jvm.FP.Core.round Jvm.FP.Core.b64 (.fin false m (-52))) = f_W m := by
  unfold f_W
  by_cases h0 : m = 0
  · subst h0; rw [if_pos rfl]; decide +kernel
  · obtain ⟨j1, j2, j3, j4, j5⟩ := f_jlt h0 h
    rw [if_neg h0]
    show f_e (Jvm.FP.Core.roundRatio Jvm.FP.Core.b64 false m 1 (-52)) = _
    unfold Jvm.FP.Core.roundRatio
    rw [if_neg h0]
    have hq : Jvm.FP.Core.quantum Jvm.FP.Core.b64 m 1 (-52) = (m.log2 : Int) - 104 := by
      unfold Jvm.FP.Core.quantum
      rw [f_lead j2 j3, f_qmin, f_p]
      show max (-1074 : Int) ((m.log2 : Int) + -52 - (((53 : Nat) : Int) - 1)) = _
      omega
    rw [hq]
    unfold Jvm.FP.Core.roundAt
    have hn : Jvm.FP.Core.nearest (Jvm.FP.Core.unitsNum m (-52) ((m.log2 : Int) - 104)) (Jvm.FP.Core.unitsDen 1 (-52) ((m.log2 : Int) - 104)) = m * 2 ^ (52 - m.log2) := by
      unfold Jvm.FP.Core.unitsNum Jvm.FP.Core.unitsDen Jvm.FP.Core.nearest
      have t1 : ((-52 : Int) - ((m.log2 : Int) - 104)).toNat = 52 - m.log2 := by omega
      have t2 : ((m.log2 : Int) - 104 - -52).toNat = 0 := by omega
      rw [t1, t2, Nat.pow_zero, Nat.one_mul, Nat.mod_one, if_pos (by omega), Nat.div_one]
    rw [hn, f_settle j5 (by omega)]
    rfl
