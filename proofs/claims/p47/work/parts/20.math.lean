/-! boards as numbers of pieces by ways (0 off, 1 to 16 on the run, 17 the bar), and their packing, three bits a way -/
def b_pk (f : Nat → Nat) : Nat → Nat
  | 0 => 0
  | n + 1 => b_pk f n + f n * 8 ^ n
def b_mv (f : Nat → Nat) (a b : Nat) : Nat → Nat := fun i => f i - (if i = a then 1 else 0) + (if i = b then 1 else 0)
def b_sm (f : Nat → Nat) : Nat → Nat
  | 0 => 0
  | n + 1 => b_sm f n + f n
/-- a player's pieces: six in all -/
def b_ok (f : Nat → Nat) : Prop := b_sm f 18 = 6
theorem b_sm_le {f : Nat → Nat} : ∀ {n i : Nat}, i < n → f i ≤ b_sm f n
  | 0, i, h => absurd h (Nat.not_lt_zero i)
  | n + 1, i, h => by
    rcases Nat.lt_succ_iff_lt_or_eq.mp h with h | h
    · exact Nat.le_trans (b_sm_le h) (Nat.le_add_right _ _)
    · subst h; exact Nat.le_add_left _ _
theorem b_ok_le {f : Nat → Nat} (h : b_ok f) {i : Nat} (hi : i < 18) : f i ≤ 6 := by rw [← h]; exact b_sm_le hi
theorem b_pk_lt {f : Nat → Nat} : ∀ {n : Nat}, (∀ i, i < n → f i < 8) → b_pk f n < 8 ^ n
  | 0, _ => by simp [b_pk]
  | n + 1, h => by
    have h1 := b_pk_lt (f := f) (n := n) (fun i hi => h i (Nat.lt_succ_of_lt hi))
    have h2 := h n (Nat.lt_succ_self n)
    show b_pk f n + f n * 8 ^ n < 8 ^ (n + 1)
    rw [Nat.pow_succ]
    have h3 : f n * 8 ^ n ≤ 7 * 8 ^ n := Nat.mul_le_mul_right _ (by omega)
    omega
theorem b_pk_dig {f : Nat → Nat} : ∀ {n w : Nat}, (∀ i, i < n → f i < 8) → w < n → b_pk f n / 8 ^ w % 8 = f w
  | 0, w, _, hw => absurd hw (Nat.not_lt_zero w)
  | n + 1, w, h, hw => by
    have h1 := b_pk_lt (f := f) (n := n) (fun i hi => h i (Nat.lt_succ_of_lt hi))
    show (b_pk f n + f n * 8 ^ n) / 8 ^ w % 8 = f w
    rcases Nat.lt_succ_iff_lt_or_eq.mp hw with h2 | h2
    · have h3 := b_pk_dig (f := f) (n := n) (w := w) (fun i hi => h i (Nat.lt_succ_of_lt hi)) h2
      have h4 : f n * 8 ^ n = 8 ^ w * (8 * (f n * 8 ^ (n - w - 1))) := by
        have : n = w + 1 + (n - w - 1) := by omega
        have h5 : 8 ^ n = 8 ^ w * 8 * 8 ^ (n - w - 1) := by rw [← Nat.pow_succ, ← Nat.pow_add]; congr 1
        rw [h5]
        simp only [Nat.mul_assoc, Nat.mul_left_comm]
      rw [h4, Nat.add_mul_div_left _ _ (Nat.pow_pos (by decide)), Nat.add_mul_mod_self_left]
      exact h3
    · subst h2
      rw [Nat.add_mul_div_right _ _ (Nat.pow_pos (by decide)), Nat.div_eq_of_lt h1, Nat.zero_add]
      exact Nat.mod_eq_of_lt (h w hw)
theorem b_pk_congr {f g : Nat → Nat} : ∀ {n : Nat}, (∀ i, i < n → f i = g i) → b_pk f n = b_pk g n
  | 0, _ => rfl
  | n + 1, h => by
    show b_pk f n + f n * 8 ^ n = b_pk g n + g n * 8 ^ n
    rw [b_pk_congr (fun i hi => h i (Nat.lt_succ_of_lt hi)), h n (Nat.lt_succ_self n)]
theorem b_pk_add {f : Nat → Nat} {a : Nat} : ∀ {n : Nat}, b_pk (fun i => f i + (if i = a then 1 else 0)) n = b_pk f n + (if a < n then 8 ^ a else 0)
  | 0 => by simp [b_pk]
  | n + 1 => by
    show b_pk (fun i => f i + (if i = a then 1 else 0)) n + (f n + (if n = a then 1 else 0)) * 8 ^ n = b_pk f n + f n * 8 ^ n + _
    rw [b_pk_add, Nat.add_mul]
    by_cases h1 : a < n
    · have e1 : ¬ n = a := by omega
      have e2 : a < n + 1 := by omega
      rw [if_pos h1, if_neg e1, if_pos e2]; omega
    · by_cases h2 : n = a
      · subst h2; rw [if_neg h1, if_pos rfl, if_pos (by omega)]; omega
      · rw [if_neg h1, if_neg h2, if_neg (by omega)]; omega
theorem b_pk_mv {f : Nat → Nat} {a b n : Nat} (ha : a < n) (hb : b < n) (hf : 0 < f a) : b_pk (b_mv f a b) n + 8 ^ a = b_pk f n + 8 ^ b := by
  have h1 : b_pk (b_mv f a b) n = b_pk (fun i => f i - (if i = a then 1 else 0)) n + 8 ^ b := by
    have := b_pk_add (f := fun i => f i - (if i = a then 1 else 0)) (a := b) (n := n)
    rw [if_pos hb] at this
    exact this
  have h2 : b_pk f n = b_pk (fun i => f i - (if i = a then 1 else 0)) n + 8 ^ a := by
    have := b_pk_add (f := fun i => f i - (if i = a then 1 else 0)) (a := a) (n := n)
    rw [if_pos ha] at this
    rw [← this]
    refine b_pk_congr (fun i _ => ?_)
    by_cases h : i = a
    · subst h; simp only [if_true]; omega
    · simp only [if_neg h]; omega
  omega
theorem b_sm_congr {f g : Nat → Nat} : ∀ {n : Nat}, (∀ i, i < n → f i = g i) → b_sm f n = b_sm g n
  | 0, _ => rfl
  | n + 1, h => by
    show b_sm f n + f n = b_sm g n + g n
    rw [b_sm_congr (fun i hi => h i (Nat.lt_succ_of_lt hi)), h n (Nat.lt_succ_self n)]
theorem b_sm_add {f : Nat → Nat} {a : Nat} : ∀ {n : Nat}, b_sm (fun i => f i + (if i = a then 1 else 0)) n = b_sm f n + (if a < n then 1 else 0)
  | 0 => by simp [b_sm]
  | n + 1 => by
    show b_sm (fun i => f i + (if i = a then 1 else 0)) n + (f n + (if n = a then 1 else 0)) = b_sm f n + f n + _
    rw [b_sm_add]
    by_cases h1 : a < n
    · have e1 : ¬ n = a := by omega
      have e2 : a < n + 1 := by omega
      rw [if_pos h1, if_neg e1, if_pos e2]; omega
    · by_cases h2 : n = a
      · subst h2; rw [if_neg h1, if_pos rfl, if_pos (by omega)]; omega
      · rw [if_neg h1, if_neg h2, if_neg (by omega)]; omega
theorem b_sm_mv {f : Nat → Nat} {a b n : Nat} (ha : a < n) (hb : b < n) (hf : 0 < f a) : b_sm (b_mv f a b) n = b_sm f n := by
  have h1 : b_sm (b_mv f a b) n = b_sm (fun i => f i - (if i = a then 1 else 0)) n + 1 := by
    have := b_sm_add (f := fun i => f i - (if i = a then 1 else 0)) (a := b) (n := n)
    rw [if_pos hb] at this
    exact this
  have h2 : b_sm f n = b_sm (fun i => f i - (if i = a then 1 else 0)) n + 1 := by
    have := b_sm_add (f := fun i => f i - (if i = a then 1 else 0)) (a := a) (n := n)
    rw [if_pos ha] at this
    rw [← this]
    refine b_sm_congr (fun i _ => ?_)
    by_cases h : i = a
    · subst h; simp only [if_true]; omega
    · simp only [if_neg h]; omega
  omega
theorem b_ok_mv {f : Nat → Nat} {a b : Nat} (h : b_ok f) (ha : a < 18) (hb : b < 18) (hf : 0 < f a) : b_ok (b_mv f a b) := (b_sm_mv ha hb hf).trans h
/-- a player's pieces as the class has them -/
def b_L (f : Nat → Nat) : Int64 := lN (b_pk f 18)
theorem b_pk_lt54 {f : Nat → Nat} (h : b_ok f) : b_pk f 18 < 2 ^ 54 := by
  have := b_pk_lt (f := f) (n := 18) (fun i hi => by have := b_ok_le h hi; omega)
  have e : (8 : Nat) ^ 18 = 2 ^ 54 := by decide
  omega
