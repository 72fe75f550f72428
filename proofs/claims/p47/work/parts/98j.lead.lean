/-! the share of the mover, times both players' pips: within one of the other's pips -/
def l_q (a b : Nat) : UInt64 := FP.ddiv (FP.i2d (nI a)) (FP.i2d (nI (a + b)))
def l_m (a b : Nat) : UInt64 := FP.dmul (l_q a b) (FP.i2d (nI (a + b)))
def l_in (a b : Nat) : Bool := (a + b == 0) || (k_nn (l_q a b) && k_nn (l_m a b) && !decide (Op.cmpValue (FP.dcmp (l_m a b) (FP.i2d (nI a - 1))) CmpOp.l ≤ 0) && !decide (0 ≤ Op.cmpValue (FP.dcmp (l_m a b) (FP.i2d (nI a + 1))) CmpOp.g))
theorem l_t0 : ((List.range 13).all (fun a => (List.range 103).all (fun b => l_in (a + 0) b))) = true := by decide +kernel
theorem l_t1 : ((List.range 13).all (fun a => (List.range 103).all (fun b => l_in (a + 13) b))) = true := by decide +kernel
theorem l_t2 : ((List.range 13).all (fun a => (List.range 103).all (fun b => l_in (a + 26) b))) = true := by decide +kernel
theorem l_t3 : ((List.range 13).all (fun a => (List.range 103).all (fun b => l_in (a + 39) b))) = true := by decide +kernel
theorem l_t4 : ((List.range 13).all (fun a => (List.range 103).all (fun b => l_in (a + 52) b))) = true := by decide +kernel
theorem l_t5 : ((List.range 13).all (fun a => (List.range 103).all (fun b => l_in (a + 65) b))) = true := by decide +kernel
theorem l_t6 : ((List.range 13).all (fun a => (List.range 103).all (fun b => l_in (a + 78) b))) = true := by decide +kernel
theorem l_t7 : ((List.range 13).all (fun a => (List.range 103).all (fun b => l_in (a + 91) b))) = true := by decide +kernel
theorem l_tt {k a b : Nat} (h : ((List.range 13).all (fun a => (List.range 103).all (fun b => l_in (a + k) b))) = true) (ha : k ≤ a) (ha2 : a < k + 13) (hb : b < 103) : l_in a b = true := by
  rw [List.all_eq_true] at h
  have h1 := h (a - k) (List.mem_range.mpr (by omega))
  rw [List.all_eq_true] at h1
  have h2 := h1 b (List.mem_range.mpr hb)
  rw [show a - k + k = a by omega] at h2
  exact h2
theorem l_all {a b : Nat} (ha : a < 103) (hb : b < 103) : l_in a b = true := by
  rcases (show a < 13 ∨ (13 ≤ a ∧ a < 26) ∨ (26 ≤ a ∧ a < 39) ∨ (39 ≤ a ∧ a < 52) ∨ (52 ≤ a ∧ a < 65) ∨ (65 ≤ a ∧ a < 78) ∨ (78 ≤ a ∧ a < 91) ∨ (91 ≤ a ∧ a < 104) by omega) with q | q | q | q | q | q | q | q
  · exact l_tt l_t0 (by omega) (by omega) hb
  · exact l_tt l_t1 (by omega) (by omega) hb
  · exact l_tt l_t2 (by omega) (by omega) hb
  · exact l_tt l_t3 (by omega) (by omega) hb
  · exact l_tt l_t4 (by omega) (by omega) hb
  · exact l_tt l_t5 (by omega) (by omega) hb
  · exact l_tt l_t6 (by omega) (by omega) hb
  · exact l_tt l_t7 (by omega) (by omega) hb
theorem l_sp {a b : Nat} (ha : a < 103) (hb : b < 103) (h0 : 0 < a + b) : k_nn (l_q a b) = true ∧ k_nn (l_m a b) = true ∧ ¬ Op.cmpValue (FP.dcmp (l_m a b) (FP.i2d (nI a - 1))) CmpOp.l ≤ 0 ∧ ¬ 0 ≤ Op.cmpValue (FP.dcmp (l_m a b) (FP.i2d (nI a + 1))) CmpOp.g := by
  have h := l_all ha hb
  unfold l_in at h
  rw [show (a + b == 0) = false from beq_eq_false_iff_ne.mpr (by omega), Bool.false_or, Bool.and_eq_true, Bool.and_eq_true, Bool.and_eq_true, Bool.not_eq_true', Bool.not_eq_true', decide_eq_false_iff_not, decide_eq_false_iff_not] at h
  exact ⟨h.1.1.1, h.1.1.2, h.1.2, h.2⟩
theorem gn_t {α : Type} {c : Bool} {k : Option α} (h : c = true) : k_gn c k = k := if_pos h
theorem l_half : k_nn (FP.dmul 4602678819172646912 4611686018427387904) = true ∧ Op.cmpValue (FP.dcmp (FP.dmul 4602678819172646912 4611686018427387904) 4607182418800017408) CmpOp.l = 0 := by decide +kernel
