/-! the reference tells a board as two words, and takes them up again -/
theorem w_or (a b : Nat) : lN a ||| lN b = lN (a ||| b) := by
  apply Int64.toBitVec_inj.mp
  show BitVec.ofNat 64 a ||| BitVec.ofNat 64 b = BitVec.ofNat 64 (a ||| b)
  exact (BitVec.ofNat_or).symm
theorem w_shl : ∀ v, v < 8 → ∀ l, l < 18 → k_lshl (Int32.toInt64 (nI v)) (3 * nI l) = lN (v * 8 ^ l) := by decide +kernel
theorem w_add {x v l : Nat} (hx : x < 8 ^ l) : lN x ||| lN (v * 8 ^ l) = lN (x + v * 8 ^ l) := by
  rw [w_or]
  congr 1
  rw [b_8] at hx ⊢
  rw [Nat.or_comm, Nat.mul_comm v, ← Nat.two_pow_add_eq_or_of_lt hx v, Nat.add_comm]
theorem w_sh1 : ∀ k, k < 64 → ((nI k).toInt64 &&& 63).toBitVec.smod 64 = BitVec.ofNat 64 k := by decide +kernel
theorem w_shr {N k : Nat} (hN : N < 2 ^ 63) (hk : k < 64) : k_lshr (lN N) (nI k) = lN (N / 2 ^ k) := by
  apply Int64.toBitVec_inj.mp
  unfold k_lshr
  rw [Int64.toBitVec_shiftRight, w_sh1 k hk]
  have hm : (lN N).toBitVec.msb = false := by
    rw [BitVec.msb_eq_false_iff_two_mul_lt, b_lN_bv hN]; omega
  show (lN N).toBitVec.sshiftRight (BitVec.ofNat 64 k).toNat = _
  rw [BitVec.sshiftRight_eq_of_msb_false hm]
  apply BitVec.eq_of_toNat_eq
  rw [BitVec.toNat_ushiftRight, Nat.shiftRight_eq_div_pow, b_lN_bv hN, b_lN_bv (Nat.lt_of_le_of_lt (Nat.div_le_self _ _) hN), BitVec.toNat_ofNat, Nat.mod_eq_of_lt (by omega)]
theorem w_and7 {N : Nat} (hN : N < 2 ^ 63) : lN N &&& 7 = lN (N % 8) := by
  apply Int64.toBitVec_inj.mp
  show (lN N).toBitVec &&& BitVec.ofNat 64 7 = _
  apply BitVec.eq_of_toNat_eq
  rw [BitVec.toNat_and, b_lN_bv hN, b_lN_bv (by omega)]
  show N &&& (2 ^ 3 - 1) = N % 2 ^ 3
  exact Nat.and_two_pow_sub_one_eq_mod N 3
theorem w_dig {N l : Nat} (hN : N < 2 ^ 54) (hl : l < 18) : Int64.toInt32 ((k_lshr (lN N) (3 * nI l)) &&& 7) = nI (N / 8 ^ l % 8) := by
  rw [show (3 : Int32) * nI l = nI (3 * l) from pk_mul 3 l, w_shr (by omega) (by omega), w_and7 (Nat.lt_of_le_of_lt (Nat.div_le_self _ _) (by omega)), lN_i, b_8]
/-- pieces by places of a player -/
def p_at (p : Nat) (f : Nat → Nat) : Nat → Nat := fun l => if l < 18 then f (tr p l) else 0
theorem p_at_sm0 : ∀ (f : Nat → Nat), b_sm (p_at 0 f) 18 = b_sm f 18 := by
  intro f
  show 0 + f 17 + f 16 + f 15 + f 14 + f 13 + f 12 + f 11 + f 10 + f 9 + f 8 + f 7 + f 6 + f 5 + f 4 + f 3 + f 2 + f 1 + f 0 = 0 + f 0 + f 1 + f 2 + f 3 + f 4 + f 5 + f 6 + f 7 + f 8 + f 9 + f 10 + f 11 + f 12 + f 13 + f 14 + f 15 + f 16 + f 17
  omega
theorem p_at_sm1 : ∀ (f : Nat → Nat), b_sm (p_at 1 f) 18 = b_sm f 18 := by
  intro f
  show 0 + f 17 + f 1 + f 2 + f 3 + f 4 + f 5 + f 6 + f 7 + f 8 + f 9 + f 10 + f 11 + f 12 + f 13 + f 14 + f 15 + f 16 + f 0 = 0 + f 0 + f 1 + f 2 + f 3 + f 4 + f 5 + f 6 + f 7 + f 8 + f 9 + f 10 + f 11 + f 12 + f 13 + f 14 + f 15 + f 16 + f 17
  omega
theorem p_at_ok {p : Nat} {f : Nat → Nat} (hp : p < 2) (h : b_ok f) : b_ok (p_at p f) := by
  rcases (show p = 0 ∨ p = 1 by omega) with rfl | rfl
  · exact (p_at_sm0 f).trans h
  · exact (p_at_sm1 f).trans h
theorem RH_at {s : Nat → Int32} {q l : Nat} {f : Nat → Nat} (hq : q < 2) (h : RH s q f) (hl : l < 18) : s (18 * q + l) = nI (p_at q f l) := by
  have h1 := h (tr q l) (tr_lt q hq l hl)
  unfold ix at h1
  rw [tr_tr q hq l hl] at h1
  rw [h1]
  unfold p_at
  rw [if_pos hl]
theorem RH_of {s : Nat → Int32} {q : Nat} {f : Nat → Nat} (hq : q < 2) (h : ∀ l, l < 18 → s (18 * q + l) = nI (p_at q f l)) : RH s q f := by
  intro w hw
  have h1 := h (tr q w) (tr_lt q hq w hw)
  unfold ix
  rw [h1]
  unfold p_at
  rw [if_pos (tr_lt q hq w hw), tr_tr q hq w hw]
theorem w_18 (q l : Nat) : (18 * nI q) + nI l = nI (18 * q + l) := by
  rw [show (18 : Int32) * nI q = nI (18 * q) from pk_mul 18 q, nI_add]
theorem r_told {s : Nat → Int32} {q : Nat} {f : Nat → Nat} (hq : q < 2) (hf : b_ok f) (h : RH s q f) : mX10_told s (nI q) = some (b_L (p_at q f)) := by
  have hok := p_at_ok hq hf
  have hdig : ∀ l, l < 18 → p_at q f l ≤ 6 := fun l hl => b_ok_le hok hl
  have key : ∀ (n l F : Nat), l + n = 18 → n < F → k_fix (fun _ _ => none) (mX10_told_5 s (nI q)) F (lN (b_pk (p_at q f) l)) (nI l) = some (lN (b_pk (p_at q f) 18)) := by
    intro n
    induction n with
    | zero =>
      intro l F hl hF
      obtain rfl : l = 18 := by omega
      rw [k_fix1 hF, mX10_told_5, if_pos (show (18 : Int32) ≤ nI 18 by decide)]
    | succ n ih =>
      intro l F hl hF
      have hd := hdig l (by omega)
      have hx : b_pk (p_at q f) l < 8 ^ l := b_pk_lt (fun i hi => by have := hdig i (by omega); omega)
      rw [k_fix1 (by omega), mX10_told_5, if_neg (show ¬ (18 : Int32) ≤ nI l from nI_ge (a := l) (b := 18) (by omega) (by omega)), w_18, k_g_in (by omega) (by omega), nI_clamp (by omega), RH_at hq h (by omega), w_shl _ (by omega) l (by omega), w_add hx, nI_1]
      exact ih (l + 1) (F - 1) (by omega) (by omega)
  unfold mX10_told b_L
  have e := key 18 0 k_F (by omega) (by decide)
  rw [nI_0] at e
  exact e
theorem r_stands {s : Nat → Int32} {q : Nat} {f : Nat → Nat} (hq : q < 2) (hf : b_ok f) : ∃ s', mX10_stands s (nI q) (b_L (p_at q f)) = some s' ∧ RH s' q f ∧ (∀ k, (k < 18 * q ∨ 18 * q + 18 ≤ k) → s' k = s k) := by
  have hok := p_at_ok hq hf
  have hdig : ∀ i, i < 18 → p_at q f i < 8 := fun i hi => by have := b_ok_le hok hi; omega
  have key : ∀ (n l F : Nat) (s : Nat → Int32), l + n = 18 → n < F → ∃ s', k_fix (fun _ _ => none) (mX10_stands_3 (nI q) (b_L (p_at q f))) F (nI l) s = some s' ∧ (∀ i, l ≤ i → i < 18 → s' (18 * q + i) = nI (p_at q f i)) ∧ ∀ k, (k < 18 * q + l ∨ 18 * q + 18 ≤ k) → s' k = s k := by
    intro n
    induction n with
    | zero =>
      intro l F s hl hF
      obtain rfl : l = 18 := by omega
      refine ⟨s, ?_, fun i h1 h2 => by omega, fun _ _ => rfl⟩
      rw [k_fix1 hF, mX10_stands_3, if_pos (show (18 : Int32) ≤ nI 18 by decide)]
    | succ n ih =>
      intro l F s hl hF
      obtain ⟨s', e, h1, h2⟩ := ih (l + 1) (F - 1) (upd s (18 * q + l) (nI (p_at q f l))) (by omega) (by omega)
      refine ⟨s', ?_, fun i h3 h4 => ?_, fun k hk => ?_⟩
      · have hw : Int64.toInt32 ((k_lshr (b_L (p_at q f)) (3 * nI l)) &&& 7) = nI (p_at q f l) := by
          unfold b_L
          rw [w_dig (b_pk_lt54 hok) (by omega), b_pk_dig hdig (by omega)]
        rw [k_fix1 (by omega), mX10_stands_3, if_neg (show ¬ (18 : Int32) ≤ nI l from nI_ge (a := l) (b := 18) (by omega) (by omega)), w_18, k_g_in (by omega) (by omega), nI_clamp (by omega), hw, nI_1]
        exact e
      · by_cases c : i = l
        · subst c
          rw [h2 _ (by omega), pk_us]
        · exact h1 i (by omega) h4
      · rw [h2 k (by omega), pk_un (by omega)]
  obtain ⟨s', e, h1, h2⟩ := key 18 0 k_F s (by omega) (by decide)
  rw [nI_0] at e
  exact ⟨s', e, RH_of hq (fun l hl => h1 l (by omega) hl), fun k hk => h2 k (by omega)⟩
