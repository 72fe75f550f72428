/-! carrying a piece: the class and the reference -/
theorem pp_v0 : ∀ q, q < 2 → mX10_isPoint (pl q 0) = some false ∧ pl q 0 = 16 ∧ ¬ pl q 0 = -1 := by decide +kernel
theorem pp_v17 : ∀ q, q < 2 → mX10_isPoint (pl q 17) = some false ∧ pl q 17 = -1 ∧ ¬ pl q 17 = 16 := by decide +kernel
theorem pp_vp : ∀ q, q < 2 → ∀ v, v < 17 → (1 ≤ v → mX10_isPoint (pl q v) = some true ∧ ¬ pl q v = -1 ∧ ¬ pl q v = 16) := by decide +kernel
theorem pp_16 : ∀ q, q < 2 → ∀ w, w < 18 → (pl q w = 16 ↔ w = 0) := by decide +kernel
theorem c_po {F : Nat → Nat → Nat} {q : Nat} (hq : q < 2) : mX1_piecesOf (b_L (F 0)) (b_L (F 1)) (nI q) = some (b_L (F q)) := by
  rcases (show q = 0 ∨ q = 1 by omega) with rfl | rfl <;> rfl
theorem c_cw {F : Nat → Nat → Nat} {q w : Nat} (hq : q < 2) (hw : w < 18) (ho : g_ok (F 0, F 1)) (ho' : g_ok (F 1, F 0)) : mX1_countAt (b_L (F 0)) (b_L (F 1)) (nI q) (pl q w) = some (nI (F q w)) := by
  unfold mX1_countAt
  rw [k_bd_some (c_po hq), k_bd_some (pb_wayOf q hq w hw), k_bd_some (c_on hq (ok_q hq ho ho') hw)]
theorem c_carried {F : Nat → Nat → Nat} {q w v : Nat} (hq : q < 2) (hw : w < 18) (hv : v < 18) (ho : g_ok (F 0, F 1)) (ho' : g_ok (F 1, F 0)) (hf : 0 < F q w) : mX1_carried (b_L (F 0)) (b_L (F 1)) (nI q) (pl q w) (pl q v) = some (b_L (b_mv (F q) w v)) := by
  unfold mX1_carried
  rw [k_bd_some (c_po hq), k_bd_some (pb_wayOf q hq w hw), k_bd_some (pb_wayOf q hq v hv), k_bd_some (b_moved (ok_q hq ho ho').1 hw hv hf)]
theorem c_cc54 {F : Nat → Nat → Nat} {q w v : Nat} {x : Int32} (hq : q < 2) (hw : w < 18) (hv : v < 18) (ho : g_ok (F 0, F 1)) (ho' : g_ok (F 1, F 0)) (hf : 0 < F q w) : mX1_canCarry_54 x (b_L (F 0)) (b_L (F 1)) (nI q) (pl q w) (pl q v) = some (decide (¬ b_mv (F q) w v 0 = 6)) := by
  unfold mX1_canCarry_54
  rw [k_bd_some (c_carried hq hw hv ho ho' hf), k_bd_some (c_allOff (b_ok_mv (ok_q hq ho ho').1 hw hv hf))]
  by_cases h6 : b_mv (F q) w v 0 = 6
  · rw [decide_eq_true h6, if_neg (by decide), decide_eq_false (fun h => h h6)]
  · rw [decide_eq_false h6, if_pos (by decide), decide_eq_true h6]
def g_free (F : Nat → Nat → Nat) (q v : Nat) : Bool := decide (1 ≤ v ∧ v ≤ 16 → F (1 - q) (17 - v) = 0)
def g_last (F : Nat → Nat → Nat) (q w v : Nat) : Bool := decide (v = 0 ∧ w ≠ 0 ∧ F q 0 = 5)
theorem g_last6 {F : Nat → Nat → Nat} {q w v : Nat} (hw : w < 18) (hv : v < 18) (hok : b_ok (F q)) (h6 : F q 0 < 6) (hf : 0 < F q w) : (b_mv (F q) w v 0 = 6) ↔ g_last F q w v = true := by
  unfold g_last
  rw [decide_eq_true_iff, b_mv_at]
  by_cases h1 : v = 0
  · subst h1
    by_cases h2 : w = 0
    · subst h2; simp; omega
    · rw [if_neg (Ne.symm h2), if_pos rfl]; constructor
      · intro h; exact ⟨rfl, h2, by omega⟩
      · intro h; omega
  · rw [if_neg (Ne.symm h1)]
    constructor
    · intro h; split at h <;> omega
    · intro h; exact absurd h.1 h1
theorem c_canCarry {F : Nat → Nat → Nat} {q w v ph : Nat} (hph : ph < 4) (hq : q < 2) (hw : w < 18) (hv : v < 18) (ho : g_ok (F 0, F 1)) (ho' : g_ok (F 1, F 0)) (h6 : ph = 0 → F q 0 < 6) : mX1_canCarry (nI ph) (b_L (F 0)) (b_L (F 1)) (nI q) (pl q w) (pl q v) = some (decide (ph = 0 ∧ 0 < F q w ∧ g_free F q v = true ∧ g_last F q w v = false)) := by
  unfold mX1_canCarry
  by_cases h0 : ¬ ph = 0
  · rw [if_neg (show ¬ nI ph = (0 : Int32) from fun e => h0 ((nI_phs hph 0 (by omega)).mp e)), decide_eq_false (fun h => h0 h.1)]
  have h0 : ph = 0 := Classical.not_not.mp h0
  subst h0
  have hok := ok_q hq ho ho'
  have hle : F q w ≤ 6 := b_ok_le hok.1 hw
  rw [if_pos (show nI 0 = (0 : Int32) from nI_0), k_bd_some (c_cw hq hw ho ho')]
  by_cases hf : F q w = 0
  · rw [hf, if_pos (show nI 0 = (0 : Int32) from nI_0), decide_eq_false (fun h => by omega)]
  have hf' : 0 < F q w := by omega
  rw [if_neg (show ¬ nI (F q w) = (0 : Int32) from nI_ne0 hf' (by omega))]
  have hl := g_last6 (F := F) (q := q) hw hv hok.1 (h6 rfl) hf'
  have e54 : ∀ x, mX1_canCarry_54 x (b_L (F 0)) (b_L (F 1)) (nI q) (pl q w) (pl q v) = some (decide (g_last F q w v = false)) := fun x => by
    rw [c_cc54 hq hw hv ho ho' hf']
    refine congrArg some (decide_eq_decide.mpr ?_)
    rw [hl, Bool.not_eq_true]
  have fin : ∀ b : Bool, g_free F q v = true → decide (0 = 0 ∧ 0 < F q w ∧ g_free F q v = true ∧ g_last F q w v = false) = decide (g_last F q w v = false) := fun _ hfr => decide_eq_decide.mpr ⟨fun h => h.2.2.2, fun h => ⟨rfl, hf', hfr, h⟩⟩
  by_cases hv0 : v = 0
  · subst hv0
    have hfr : g_free F q 0 = true := decide_eq_true (fun h => by omega)
    rw [if_neg (pp_v0 q hq).2.2, if_pos (pp_v0 q hq).2.1]
    unfold mX1_canCarry_33 mX1_canCarry_34
    rw [if_pos (by decide), e54, fin true hfr]
  by_cases hv17 : v = 17
  · subst hv17
    have hfr : g_free F q 17 = true := decide_eq_true (fun h => by omega)
    rw [if_pos (pp_v17 q hq).2.1]
    unfold mX1_canCarry_33 mX1_canCarry_34
    rw [if_pos (by decide), e54, fin true hfr]
  have hvp := pp_vp q hq v (by omega) (by omega)
  rw [if_neg hvp.2.1, if_neg hvp.2.2]
  unfold mX1_canCarry_34
  have hq1 : 1 - q < 2 := by omega
  have hok1 := ok_q hq1 ho ho'
  have hle1 : F (1 - q) (17 - v) ≤ 6 := b_ok_le hok1.1 (by omega)
  have ec : mX1_countAt (b_L (F 0)) (b_L (F 1)) (1 - nI q) (pl q v) = some (nI (F (1 - q) (17 - v))) := by
    rw [show (1 : Int32) - nI q = nI (1 - q) from r_1p hq, pl_opp q hq v (by omega) (by omega)]
    exact c_cw hq1 (by omega) ho ho'
  rw [if_neg (by decide), k_bd_some ec]
  by_cases ht : F (1 - q) (17 - v) = 0
  · have hfr : g_free F q v = true := decide_eq_true (fun _ => ht)
    rw [ht, if_pos (by decide), e54, fin true hfr]
  · have hfr : g_free F q v = false := decide_eq_false (fun h => ht (h ⟨by omega, by omega⟩))
    rw [if_neg (show ¬ nI (F (1 - q) (17 - v)) ≤ (0 : Int32) from nI_nle (by omega) (by omega)), hfr, decide_eq_false (fun h => by cases h.2.2.1)]
