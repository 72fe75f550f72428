/-! the bits of a share, by the reference and by the class -/
theorem f_cmp_ltr {x y : UInt64} {c : Nat} {q r : Int} (hx : f_d x = .fin false c q) (hy : f_d y = .fin false (2 ^ 52) r) (hc2 : c < 2 ^ 53) (hq : q < r) : FP.dcmp x y = some .lt := by
  show Jvm.FP.Core.order (f_d x) (f_d y) = _
  rw [hx, hy]
  show some (compare ((c * 2 ^ (q - min q r).toNat : Nat) : Int) ((2 ^ 52 * 2 ^ (r - min q r).toNat : Nat) : Int)) = _
  have hm : min q r = q := by omega
  rw [hm]
  have t1 : (q - q).toNat = 0 := by omega
  obtain ⟨k, hk⟩ : ∃ k : Nat, (r - q).toNat = k + 1 := ⟨(r - q).toNat - 1, by omega⟩
  rw [t1, hk, Nat.pow_zero, Nat.mul_one, Nat.pow_succ]
  have hpk := Nat.two_pow_pos k
  have hlt : c < 2 ^ 52 * (2 ^ k * 2) := by
    have : 2 ^ 52 * 2 ≤ 2 ^ 52 * (2 ^ k * 2) := Nat.mul_le_mul_left _ (by omega)
    omega
  rw [Int.compare_eq_lt.mpr (by omega)]
theorem f_cmp_0 {x : UInt64} {c : Nat} {q : Int} (hx : f_d x = .fin false c q) (hc : 2 ^ 52 ≤ c) : FP.dcmp x 0 = some .gt := by
  show Jvm.FP.Core.order (f_d x) (f_d 0) = _
  rw [hx, f_0]
  show some (compare ((c * 2 ^ (q - min q (-1074)).toNat : Nat) : Int) ((0 * 2 ^ ((-1074 : Int) - min q (-1074)).toNat : Nat) : Int)) = _
  have hpos : 0 < c * 2 ^ (q - min q (-1074)).toNat := Nat.mul_pos (by omega) (Nat.two_pow_pos _)
  rw [Nat.zero_mul, Int.compare_eq_gt.mpr (by omega)]
theorem f_cmp_self {x : UInt64} {c : Nat} {q : Int} (hx : f_d x = .fin false c q) : FP.dcmp x x = some .eq := by
  show Jvm.FP.Core.order (f_d x) (f_d x) = _
  rw [hx]
  show some (compare ((c * 2 ^ (q - min q q).toNat : Nat) : Int) ((c * 2 ^ (q - min q q).toNat : Nat) : Int)) = _
  rw [Int.compare_eq_eq.mpr rfl]
theorem gn_t {α : Type} {c : Bool} {k : Option α} (h : c = true) : k_gn c k = k := if_pos h
theorem l_2add (a b : Nat) : (2 : Int64) * lN a + lN b = lN (2 * a + b) := by
  show Int64.ofNat 2 * Int64.ofNat a + Int64.ofNat b = Int64.ofNat (2 * a + b)
  rw [Int64.ofNat_add, Int64.ofNat_mul]
theorem l_add (a b : Nat) : lN a + lN b = lN (a + b) := (Int64.ofNat_add a b).symm
theorem l_pred (a : Nat) : lN (a + 1) - 1 = lN a := by
  rw [← l_add]
  show lN a + 1 - 1 = lN a
  exact Int64.add_sub_cancel ..
theorem b_98 {a0 : UInt64} {a2 a3 : Int32} {k72 : UInt64 → Int64 → Int32 → Option Int64} {x y : UInt64} {t0 a b : Nat} {i : Nat} (ht : FP.dsub x (FP.l2d (lN t0)) = y) (hy : k_nn y = true) : mX10_bitsOf_98 a0 a2 a3 k72 (lN t0) x (lN a) (nI i) = k72 y (lN (2 * a + t0)) (nI (i + 1)) := by
  unfold mX10_bitsOf_98
  rw [ht, gn_t hy, l_2add, nI_1]
theorem ar_1 (a m Z N : Nat) : (2 * a + 0) * Z + 2 * m * Z / N = a * (2 * Z) + m * (2 * Z) / N := by
  have h1 : (2 * a + 0) * Z = a * (2 * Z) := by rw [Nat.add_zero, Nat.mul_comm 2 a, Nat.mul_assoc]
  have h2 : 2 * m * Z = m * (2 * Z) := by rw [Nat.mul_comm 2 m, Nat.mul_assoc]
  rw [h1, h2]
theorem ar_2 (a m Z N : Nat) (hN : 0 < N) (h : N ≤ 2 * m) : (2 * a + 1) * Z + (2 * m - N) * Z / N = a * (2 * Z) + m * (2 * Z) / N := by
  obtain ⟨k, hk⟩ : ∃ k, 2 * m = N + k := ⟨2 * m - N, by omega⟩
  have h1 : (2 * a + 1) * Z = a * (2 * Z) + Z := by rw [Nat.add_mul, Nat.one_mul, Nat.mul_comm 2 a, Nat.mul_assoc]
  have h2 : m * (2 * Z) = k * Z + Z * N := by rw [← Nat.mul_assoc, Nat.mul_comm m 2, hk, Nat.add_mul, Nat.mul_comm N Z, Nat.add_comm]
  have h3 : 2 * m - N = k := by omega
  rw [h1, h2, h3, Nat.add_mul_div_right _ _ hN]
  omega
theorem b_72 {a0 : UInt64} {a3 : Int32} : ∀ (n i F m a : Nat), i + n = 52 → n < F → m < 2 ^ 52 → k_fix (fun _ _ _ => none) (mX10_bitsOf_72 a0 (nI 52) a3) F (f_W m) (lN a) (nI i) = some (lN (a * 2 ^ n + m * 2 ^ n / 2 ^ 52)) := by
  intro n
  induction n with
  | zero =>
    intro i F m a hi hF hm
    obtain rfl : i = 52 := by omega
    rw [k_fix1 hF, mX10_bitsOf_72, if_pos (nI_le (Nat.le_refl _) (by omega)), Nat.pow_zero, Nat.mul_one, Nat.mul_one, Nat.div_eq_of_lt hm]
    rfl
  | succ n ih =>
    intro i F m a hi hF hm
    have hpn := Nat.two_pow_pos n
    rw [k_fix1 (by omega), mX10_bitsOf_72, if_neg (nI_ge (by omega) (by omega)), W_dbl hm, gn_t (W_nn (by omega))]
    by_cases c : 2 * m < 2 ^ 52
    · rw [W_lt c, if_pos cv_lt.1]
      have e := b_98 (a0 := a0) (a2 := nI 52) (a3 := a3) (k72 := k_fix (fun _ _ _ => none) (mX10_bitsOf_72 a0 (nI 52) a3) (F - 1)) (x := f_W (2 * m)) (y := f_W (2 * m)) (t0 := 0) (a := a) (b := 0) (i := i) (W_sub0 (by omega)) (W_nn (by omega))
      rw [show (lN 0 : Int64) = 0 from rfl] at e
      rw [e, ih (i + 1) (F - 1) (2 * m) (2 * a + 0) (by omega) (by omega) c]
      have hp2 : 2 ^ (n + 1) = 2 * 2 ^ n := by rw [Nat.pow_succ, Nat.mul_comm]
      rw [ar_1, hp2]
    · have hge := cv_ge (f_cmp_ge (W_hi (m := 2 * m) (by omega) (by omega)) (by omega))
      rw [if_neg hge.1]
      have e := b_98 (a0 := a0) (a2 := nI 52) (a3 := a3) (k72 := k_fix (fun _ _ _ => none) (mX10_bitsOf_72 a0 (nI 52) a3) (F - 1)) (x := f_W (2 * m)) (y := f_W (2 * m - 2 ^ 52)) (t0 := 1) (a := a) (b := 0) (i := i) (W_sub1 (by omega) (by omega)) (W_nn (by omega))
      rw [show (lN 1 : Int64) = 1 from rfl] at e
      rw [e, ih (i + 1) (F - 1) (2 * m - 2 ^ 52) (2 * a + 1) (by omega) (by omega) (by omega)]
      have hp2 : 2 ^ (n + 1) = 2 * 2 ^ n := by rw [Nat.pow_succ, Nat.mul_comm]
      rw [ar_2 _ _ _ _ (Nat.two_pow_pos 52) (by omega), hp2]
theorem b_m1 (n : Nat) : nI (n + 1) + (-1) = nI n := by
  rw [← Int32.sub_eq_add_neg]
  exact nI_pred n
theorem b_37 {a0 : UInt64} {a3 : Int32} {c : Nat} (hc : 2 ^ 52 ≤ c) (hc2 : c < 2 ^ 53) : ∀ (e F v : Nat), e ≤ 60 → e < F → v ≤ 1023 → k_fix (fun _ _ => none) (mX10_bitsOf_37 a0 (nI 52) a3) F (f_U c (-52 - (e : Int))) (nI (v + e)) = some (lN (v * 2 ^ 52 + (c - 2 ^ 52))) := by
  intro e
  induction e with
  | zero =>
    intro F v he hF hv
    have hd : f_d (f_U c (-52)) = .fin false c (-52) := f_dec hc hc2 (by omega) (by omega)
    have hge := cv_ge (f_cmp_ge hd hc)
    have hq : (-52 : Int) - ((0 : Nat) : Int) = -52 := by omega
    rw [hq, k_fix1 hF, mX10_bitsOf_37, if_pos hge.2, f_sub1 hd hc hc2, gn_t (W_nn (by omega)), Nat.add_zero, nI_l (by omega)]
    have h := b_72 (a0 := a0) (a3 := a3) 52 0 k_F (c - 2 ^ 52) v (by omega) (by decide) (by omega)
    rw [nI_0] at h
    rw [h, Nat.mul_div_cancel _ (Nat.two_pow_pos 52)]
  | succ e ih =>
    intro F v he hF hv
    have hd : f_d (f_U c (-52 - ((e + 1 : Nat) : Int))) = .fin false c (-52 - ((e + 1 : Nat) : Int)) := f_dec hc hc2 (by omega) (by omega)
    have hl := f_cmp_lt hd hc2 (by omega)
    have hm : FP.dmul (f_U c (-52 - ((e + 1 : Nat) : Int))) 4611686018427387904 = f_U c (-52 - (e : Int)) := by
      rw [f_mul hd f_2 hc hc2 (by omega) (by omega)]
      congr 1; omega
    rw [k_fix1 (by omega), mX10_bitsOf_37, hl, if_neg cv_lt.2, hm, gn_t (f_nnU hc hc2 (by omega) (by omega)), show v + (e + 1) = (v + e) + 1 by omega, b_m1]
    exact ih (F - 1) v (by omega) (by omega) hv
theorem b_shl52 : ∀ v, v < 1024 → k_lshl (lN v) 52 = lN (v * 2 ^ 52) := by decide +kernel
theorem b_18 {a0 : UInt64} {c : Nat} (hc : 2 ^ 52 ≤ c) (hc2 : c < 2 ^ 53) : ∀ (e F v i : Nat), e ≤ 60 → e < F → v ≤ 1023 → i + e ≤ 100 → k_fix (fun _ _ _ => none) (mX9_bitsOf_18 a0) F (f_U c (-52 - (e : Int))) (lN (v + e)) (nI i) = some (lN (v * 2 ^ 52 + (c - 2 ^ 52))) := by
  intro e
  induction e with
  | zero =>
    intro F v i he hF hv hi
    have hd : f_d (f_U c (-52)) = .fin false c (-52) := f_dec hc hc2 (by omega) (by omega)
    have hge := cv_ge (f_cmp_ge hd hc)
    have hq : (-52 : Int) - ((0 : Nat) : Int) = -52 := by omega
    have hw := W_d2l (m := c - 2 ^ 52) (by omega)
    rw [hq, k_fix1 hF, mX9_bitsOf_18, if_neg (show ¬ (1000 : Int32) ≤ nI i from nI_ge (a := i) (b := 1000) (by omega) (by omega)), if_pos hge.2]
    unfold mX9_bitsOf_50
    rw [f_sub1 hd hc hc2, gn_t (W_nn (by omega)), gn_t hw.1, hw.2, Nat.add_zero, b_shl52 v (by omega), l_add]
  | succ e ih =>
    intro F v i he hF hv hi
    have hd : f_d (f_U c (-52 - ((e + 1 : Nat) : Int))) = .fin false c (-52 - ((e + 1 : Nat) : Int)) := f_dec hc hc2 (by omega) (by omega)
    have hl := f_cmp_lt hd hc2 (by omega)
    have hm : FP.dmul (f_U c (-52 - ((e + 1 : Nat) : Int))) 4611686018427387904 = f_U c (-52 - (e : Int)) := by
      rw [f_mul hd f_2 hc hc2 (by omega) (by omega)]
      congr 1; omega
    rw [k_fix1 (by omega), mX9_bitsOf_18, if_neg (show ¬ (1000 : Int32) ≤ nI i from nI_ge (a := i) (b := 1000) (by omega) (by omega)), hl, if_neg cv_lt.2, hm, gn_t (f_nnU hc hc2 (by omega) (by omega)), show v + (e + 1) = (v + e) + 1 by omega, l_pred, nI_1]
    exact ih (F - 1) v (i + 1) (by omega) (by omega) hv (by omega)
/-- a share: nothing, or at most 1 and not too small -/
def f_sh (x : UInt64) : Prop := x = 0 ∨ ∃ (c e : Nat), 2 ^ 52 ≤ c ∧ c < 2 ^ 53 ∧ e ≤ 60 ∧ x = f_U c (-52 - (e : Int))
theorem f_sh_bits {x : UInt64} (h : f_sh x) : ∃ r, mX9_bitsOf x = some r ∧ mX10_bitsOf x 52 1023 = some r := by
  rcases h with rfl | ⟨c, e, hc, hc2, he, rfl⟩
  · refine ⟨0, ?_, ?_⟩
    · unfold mX9_bitsOf
      rw [if_neg (by decide +kernel)]
    · unfold mX10_bitsOf
      rw [if_pos (by decide +kernel)]
  · have hd : f_d (f_U c (-52 - (e : Int))) = .fin false c (-52 - (e : Int)) := f_dec hc hc2 (by omega) (by omega)
    have h0 := f_cmp_0 hd hc
    have h2 := f_cmp_ltr hd f_2 hc2 (by omega)
    refine ⟨lN ((1023 - e) * 2 ^ 52 + (c - 2 ^ 52)), ?_, ?_⟩
    · unfold mX9_bitsOf
      rw [h0, if_pos (by decide)]
      have h := b_18 (a0 := f_U c (-52 - (e : Int))) hc hc2 e k_F (1023 - e) 0 he (by generalize hk : k_F = F; have : F = 4096 := hk.symm; omega) (by omega) (by omega)
      rw [nI_0, show 1023 - e + e = 1023 by omega] at h
      exact h
    · unfold mX10_bitsOf
      rw [h0, if_neg (by decide), k_fix1 (by decide), mX10_bitsOf_14, h2, if_pos cv_lt.1]
      have h := b_37 (a0 := f_U c (-52 - (e : Int))) (a3 := 1023) hc hc2 e k_F (1023 - e) he (by generalize hk : k_F = F; have : F = 4096 := hk.symm; omega) (by omega)
      rw [show 1023 - e + e = 1023 by omega] at h
      exact h
theorem f_sh_cmp {x : UInt64} (h : f_sh x) : Op.cmpValue (FP.dcmp x x) CmpOp.l = 0 := by
  rcases h with rfl | ⟨c, e, hc, hc2, he, rfl⟩
  · decide +kernel
  · rw [f_cmp_self (f_dec hc hc2 (by omega) (by omega))]; decide
theorem f_sh_nn {x : UInt64} (h : f_sh x) : k_nn x = true := by
  rcases h with rfl | ⟨c, e, hc, hc2, he, rfl⟩
  · decide
  · exact f_nnU hc hc2 (by omega) (by omega)
theorem f_sh_of {x : UInt64} (h : 963 * 2 ^ 52 ≤ x.toNat ∧ x.toNat < 1024 * 2 ^ 52) : f_sh x := by
  refine Or.inr ⟨2 ^ 52 + x.toNat % 2 ^ 52, 1023 - x.toNat / 2 ^ 52, by omega, by omega, by omega, ?_⟩
  apply UInt64.toNat_inj.mp
  rw [f_nat (by omega) (by omega) (by omega) (by omega)]
  have e1 : ((-52 : Int) - ((1023 - x.toNat / 2 ^ 52 : Nat) : Int) + 1074).toNat + 1 = x.toNat / 2 ^ 52 := by omega
  rw [e1]
  omega
