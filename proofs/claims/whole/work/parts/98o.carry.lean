/-! carrying a piece -/
theorem b_sm_0 {f : Nat → Nat} : ∀ {n : Nat}, 1 ≤ n → (∀ i, 1 ≤ i → i < n → f i = 0) → b_sm f n = f 0 := by
  intro n
  induction n with
  | zero => intro h; omega
  | succ n ih =>
    intro h hz
    by_cases hn : n = 0
    · subst hn; show b_sm f 0 + f 0 = f 0; show 0 + f 0 = f 0; omega
    · show b_sm f n + f n = f 0
      rw [ih (by omega) (fun i h1 h2 => hz i h1 (by omega)), hz n (by omega) (by omega)]
      omega
theorem b_sm_2 {f : Nat → Nat} {i : Nat} (hi : 1 ≤ i) : ∀ {n : Nat}, i < n → f 0 + f i ≤ b_sm f n := by
  intro n
  induction n with
  | zero => intro h; omega
  | succ n ih =>
    intro h
    show f 0 + f i ≤ b_sm f n + f n
    by_cases h1 : i = n
    · subst h1
      have := b_sm_le (f := f) (n := i) (i := 0) (by omega)
      omega
    · have := ih (by omega)
      omega
theorem b_off {f : Nat → Nat} (h : b_ok f) : b_ab f 0 = false ↔ f 0 = 6 := by
  rw [b_ab_false]
  constructor
  · intro hz
    have := b_sm_0 (n := 18) (f := f) (by omega) (fun i h1 h2 => hz i (by omega) h2)
    exact this.symm.trans h
  · intro h6 i h1 h2
    have := b_sm_2 (f := f) (i := i) (by omega) h2
    have h' : b_sm f 18 = 6 := h
    omega
theorem c_allOff {f : Nat → Nat} (h : b_ok f) : mX3_allOff (b_L f) = some (decide (f 0 = 6)) := by
  unfold mX3_allOff
  rw [k_bd_some (show mX3_anyBeyond (b_L f) 0 = some (b_ab f 0) from b_anyBeyond (w := 0) h (by omega))]
  by_cases h6 : f 0 = 6
  · rw [(b_off h).mpr h6, if_pos (by decide), decide_eq_true h6]
  · have : b_ab f 0 = true := by
      cases hb : b_ab f 0
      · exact absurd ((b_off h).mp hb) h6
      · rfl
    rw [this, if_neg (by decide), decide_eq_false h6]
theorem pp_is : ∀ q, q < 2 → ∀ w, w < 18 → mX9_isPlace (pl q w) = some true ∧ mX10_in (pl q w) (-1) 16 = some true := by decide +kernel
theorem pp_or (q : Nat) (hq : q < 2) (a : Int32) : (∃ w, w < 18 ∧ a = pl q w) ∨ (mX9_isPlace a = some false ∧ mX10_in a (-1) 16 = some false) := by
  by_cases h16 : a = 16
  · exact Or.inl ⟨0, by omega, h16.trans (pl_off q hq)⟩
  rcases pb_or q hq a with ⟨w, hw1, hw, rfl⟩ | ⟨h1, h2⟩
  · exact Or.inl ⟨w, by omega, rfl⟩
  · refine Or.inr ⟨?_, ?_⟩
    · unfold mX9_isPlace
      rw [k_bd_some h1, if_pos (by decide), if_neg h16]
    · have h3 := h2 (nI 1)
      unfold mX10_fault at h3
      unfold mX10_in at h3 ⊢
      by_cases c1 : a < -1
      · rw [if_pos c1]
      · rw [if_neg c1] at h3 ⊢
        by_cases c2 : (16 : Int32) < a
        · rw [if_pos c2]
        · exfalso
          have c3 : ¬ (15 : Int32) < a := by
            intro q
            rw [Int32.lt_iff_toInt_lt] at q c2
            have e1 : (15 : Int32).toInt = 15 := by decide
            have e2 : (16 : Int32).toInt = 16 := by decide
            have e3 : a.toInt ≠ 16 := fun e => h16 (Int32.toInt_inj.mp (e.trans e2.symm))
            omega
          rw [if_neg c3] at h3
          exact absurd h3 (by decide)
