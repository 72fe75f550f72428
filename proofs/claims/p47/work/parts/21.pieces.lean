/-! long shifts of small numbers -/
theorem b_lN_bv {n : Nat} (h : n < 2 ^ 63) : (lN n).toBitVec.toNat = n := by
  show (BitVec.ofNat 64 n).toNat = n
  rw [BitVec.toNat_ofNat]
  exact Nat.mod_eq_of_lt (by omega)
theorem b_ushrBV (x : Int64) (s : Int32) (k : Nat) (hs : ((s.toInt64.toUInt64 &&& Int64.toUInt64 63).toBitVec % 64).toNat = k) : (k_lushr x s).toBitVec.toNat = x.toBitVec.toNat / 2 ^ k := by
  have e : (k_lushr x s).toBitVec = x.toBitVec >>> k := by
    rw [← hs]
    exact UInt64.toBitVec_shiftRight _ _
  rw [e, BitVec.toNat_ushiftRight, Nat.shiftRight_eq_div_pow]
theorem b_sh63 : ∀ k, k < 64 → (((nI k).toInt64.toUInt64 &&& Int64.toUInt64 63).toBitVec % 64).toNat = k := by decide +kernel
theorem b_lushr {n k : Nat} (hn : n < 2 ^ 63) (hk : k < 64) : k_lushr (lN n) (nI k) = lN (n / 2 ^ k) := by
  apply Int64.toBitVec_inj.mp
  apply BitVec.eq_of_toNat_eq
  rw [b_ushrBV _ _ k (b_sh63 k hk), b_lN_bv hn, b_lN_bv (Nat.lt_of_le_of_lt (Nat.div_le_self _ _) hn)]
theorem b_shl1 : ∀ k, k < 63 → k_lshl 1 (nI k) = lN (2 ^ k) := by decide +kernel
theorem b_and7 (n : Nat) : nI n &&& 7 = nI (n % 8) := by
  rw [pk_and (nI n) 3 (by decide)]
  congr 1
  show (BitVec.ofNat 32 n).toNat % 2 ^ 3 = n % 8
  rw [BitVec.toNat_ofNat]
  omega
theorem b_8 (w : Nat) : (8 : Nat) ^ w = 2 ^ (3 * w) := by rw [Nat.pow_mul]
/-! the class's numbers of pieces -/
theorem b_on {f : Nat → Nat} {w : Nat} (h : b_ok f) (hw : w < 18) : mX3_on (b_L f) (nI w) = some (nI (f w)) := by
  have h3 : (3 : Int32) * nI w = nI (3 * w) := pk_mul 3 w
  unfold mX3_on b_L
  rw [h3, b_lushr (Nat.lt_trans (b_pk_lt54 h) (by decide)) (by omega), lN_i, b_and7, ← b_8, b_pk_dig (fun i hi => by have := b_ok_le h hi; omega) hw]
theorem b_across {g : Nat → Nat} {w : Nat} (h : b_ok g) (hw : w < 18) : mX3_across (b_L g) (nI w) = some (nI (g (17 - w))) := by
  have h3 : (17 : Int32) - nI w = nI (17 - w) := pk_sub (a := 17) (b := w) (by omega)
  have h4 : (3 : Int32) * nI (17 - w) = nI (3 * (17 - w)) := pk_mul 3 (17 - w)
  unfold mX3_across b_L
  rw [h3, h4, b_lushr (Nat.lt_trans (b_pk_lt54 h) (by decide)) (by omega), lN_i, b_and7, ← b_8, b_pk_dig (fun i hi => by have := b_ok_le h hi; omega) (by omega)]
theorem b_moved {f : Nat → Nat} {a b : Nat} (h : b_ok f) (ha : a < 18) (hb : b < 18) (hf : 0 < f a) : mX3_moved (b_L f) (nI a) (nI b) = some (b_L (b_mv f a b)) := by
  have h1 : (3 : Int32) * nI a = nI (3 * a) := pk_mul 3 a
  have h2 : (3 : Int32) * nI b = nI (3 * b) := pk_mul 3 b
  unfold mX3_moved b_L
  rw [h1, h2, b_shl1 _ (by omega), b_shl1 _ (by omega), ← b_8, ← b_8]
  have h3 := b_pk_mv ha hb hf
  have h4 : 8 ^ a ≤ b_pk f 18 := by
    have h5 : b_pk (b_mv f a b) 18 + 8 ^ a = b_pk f 18 + 8 ^ b := h3
    have h6 : b_pk (b_mv f a b) 18 = b_pk (fun i => f i - (if i = a then 1 else 0)) 18 + 8 ^ b := by
      have := b_pk_add (f := fun i => f i - (if i = a then 1 else 0)) (a := b) (n := 18)
      rw [if_pos hb] at this
      exact this
    omega
  rw [lN_sub h4, lN_add]
  congr 2
  omega
/-- is a piece on a longer way than w -/
def b_ab (f : Nat → Nat) (w : Nat) : Bool := (List.range 18).any (fun i => decide (w < i) && decide (0 < f i))
theorem b_pk_hi {f : Nat → Nat} : ∀ {n k : Nat}, (∀ i, i < n → f i < 8) → (b_pk f n / 8 ^ k = 0 ↔ ∀ i, k ≤ i → i < n → f i = 0)
  | 0, k, _ => by simp [b_pk]
  | n + 1, k, h => by
    have h1 := b_pk_lt (f := f) (n := n) (fun i hi => h i (Nat.lt_succ_of_lt hi))
    have ih := b_pk_hi (f := f) (n := n) (k := k) (fun i hi => h i (Nat.lt_succ_of_lt hi))
    have hp : 0 < 8 ^ k := Nat.pow_pos (by decide)
    have e : b_pk f (n + 1) = b_pk f n + f n * 8 ^ n := rfl
    constructor
    · intro h2 i hk hi
      have h3 : b_pk f (n + 1) < 8 ^ k := by
        rcases Nat.lt_or_ge (b_pk f (n + 1)) (8 ^ k) with q | q
        · exact q
        · exact absurd h2 (by have := Nat.div_pos q hp; omega)
      have h4 : b_pk f n / 8 ^ k = 0 := Nat.div_eq_of_lt (by omega)
      rcases Nat.lt_succ_iff_lt_or_eq.mp hi with q | q
      · exact ih.mp h4 i hk q
      · subst q
        have h5 : 8 ^ k ≤ 8 ^ i := Nat.pow_le_pow_right (by decide) hk
        rcases Nat.eq_zero_or_pos (f i) with z | z
        · exact z
        · have : 1 * 8 ^ i ≤ f i * 8 ^ i := Nat.mul_le_mul_right _ z
          omega
    · intro h2
      rcases Nat.lt_or_ge n k with q | q
      · apply Nat.div_eq_of_lt
        have := b_pk_lt (f := f) (n := n + 1) h
        exact Nat.lt_of_lt_of_le this (Nat.pow_le_pow_right (by decide) q)
      · have h3 : f n = 0 := h2 n q (Nat.lt_succ_self n)
        rw [e, h3, Nat.zero_mul, Nat.add_zero]
        exact ih.mpr (fun i a b => h2 i a (Nat.lt_succ_of_lt b))
theorem b_ab_false {f : Nat → Nat} {w : Nat} : b_ab f w = false ↔ ∀ i, w + 1 ≤ i → i < 18 → f i = 0 := by
  unfold b_ab
  rw [List.any_eq_false]
  constructor
  · intro h i h1 h2
    have := h i (List.mem_range.mpr h2)
    simp only [Bool.and_eq_true, decide_eq_true_eq, not_and] at this
    have := this (by omega)
    omega
  · intro h i hi
    simp only [Bool.and_eq_true, decide_eq_true_eq, not_and]
    intro h1
    have := h i h1 (List.mem_range.mp hi)
    omega
theorem b_cmp0 {n : Nat} (h : n < 2 ^ 31) : lg_cmp (lN n) 0 = 0 ↔ n = 0 := by
  unfold lg_cmp
  have h0 : (0 : Int64) = lN 0 := rfl
  by_cases c : n = 0
  · subst c; simp [lN]
  · have c1 : lN n > 0 := by rw [h0]; exact (lN_lt (by decide) h).mpr (by omega)
    rw [if_pos c1]
    simp [c]
theorem b_cmp0L {n : Nat} (h : n < 2 ^ 63) : lg_cmp (lN n) 0 = 0 ↔ n = 0 := by
  unfold lg_cmp
  have h0 : (0 : Int64) = lN 0 := rfl
  by_cases c : n = 0
  · subst c; simp [lN]
  · have c1 : lN n > 0 := by rw [h0]; exact (pk_lLT (by decide) h).mpr (by omega)
    rw [if_pos c1]
    simp [c]
theorem b_anyBeyond {f : Nat → Nat} {w : Nat} (h : b_ok f) (hw : w < 18) : mX3_anyBeyond (b_L f) (nI w) = some (b_ab f w) := by
  have h1 : (3 : Int32) * nI w + 3 = nI (3 * w + 3) := by
    rw [show (3 : Int32) * nI w = nI (3 * w) from pk_mul 3 w]
    exact nI_add (3 * w) 3
  unfold mX3_anyBeyond b_L
  rw [h1, b_lushr (Nat.lt_trans (b_pk_lt54 h) (by decide)) (by omega)]
  have e : 2 ^ (3 * w + 3) = 8 ^ (w + 1) := by rw [b_8, Nat.mul_add]
  have hl : b_pk f 18 / 2 ^ (3 * w + 3) < 2 ^ 63 := Nat.lt_of_le_of_lt (Nat.div_le_self _ _) (Nat.lt_trans (b_pk_lt54 h) (by decide))
  have hz : lg_cmp (lN (b_pk f 18 / 2 ^ (3 * w + 3))) 0 = 0 ↔ b_ab f w = false := by
    rw [b_cmp0L hl, e, b_pk_hi (fun i hi => by have := b_ok_le h hi; omega), b_ab_false]
  by_cases c : b_ab f w = false
  · rw [if_pos (hz.mpr c), c]
  · rw [if_neg (fun q => c (hz.mp q))]
    cases q : b_ab f w
    · exact absurd q c
    · rfl
/-! dice: none, one, two unlike, or two to four alike -/
def d_all : List (List Nat) := [[]] ++ (List.range 6).map (fun a => [a + 1]) ++ (List.range 6).flatMap (fun a => (List.range 6).flatMap (fun b => if a = b then [] else [[a + 1, b + 1]])) ++ (List.range 6).flatMap (fun a => [[a + 1, a + 1], [a + 1, a + 1, a + 1], [a + 1, a + 1, a + 1, a + 1]])
def d_en : List Nat → Nat
  | [] => 0
  | a :: l => a + 8 * d_en l
def d_I (ds : List Nat) : Int32 := nI (d_en ds)
def d_ks (ds : List Nat) : List Nat := match ds with
  | [] => []
  | [a] => [a]
  | a :: b :: _ => if a = b then [a] else [a, b]
theorem d_count : ∀ ds ∈ d_all, mX0_count (d_I ds) = some (nI ds.length) := by decide +kernel
theorem d_kinds : ∀ ds ∈ d_all, mX0_kinds (d_I ds) = some (nI (d_ks ds).length) := by decide +kernel
theorem d_at : ∀ ds ∈ d_all, ∀ i, i < 4 → mX0_at (d_I ds) (nI i) = some (nI (ds.getD i 0)) := by decide +kernel
theorem d_ksat : ∀ ds ∈ d_all, ∀ i, i < (d_ks ds).length → mX0_at (d_I ds) (nI i) = some (nI ((d_ks ds).getD i 0)) := by decide +kernel
theorem d_has : ∀ ds ∈ d_all, ∀ d, d < 7 → 0 < d → mX0_has (d_I ds) (nI d) = some (decide (d ∈ ds)) := by decide +kernel
theorem d_without : ∀ ds ∈ d_all, ∀ d ∈ ds, mX0_without (d_I ds) (nI d) = some (d_I (ds.erase d)) := by decide +kernel
theorem d_erase : ∀ ds ∈ d_all, ∀ d ∈ ds, ds.erase d ∈ d_all := by decide +kernel
theorem d_range : ∀ ds ∈ d_all, ∀ d ∈ ds, 0 < d ∧ d < 7 := by decide +kernel
theorem d_turned : ∀ ds ∈ d_all, mX0_turned (d_I ds) = some (d_I (if (d_ks ds).length = 2 then ds.reverse else ds)) := by decide +kernel
theorem d_greater : ∀ ds ∈ d_all, mX0_greater (d_I ds) = some (nI (Nat.max (ds.getD 0 0) (ds.getD 1 0))) := by decide +kernel
theorem d_rolled : ∀ a, a < 7 → ∀ b, b < 7 → 0 < a → 0 < b → mX0_rolled (nI a) (nI b) = some (d_I (if a = b then [a, a, a, a] else [a, b])) := by decide +kernel
