/-! questions about steps and shots -/
def setTL (m : MT) (t : Int32) (l : Nat → Int32) : MT := (m.1, m.2.1, m.2.2.1, m.2.2.2.1, m.2.2.2.2.1, m.2.2.2.2.2.1, m.2.2.2.2.2.2.1, m.2.2.2.2.2.2.2.1, t, l, m.2.2.2.2.2.2.2.2.2.2)
theorem Rel_TL {x : XT} {m : MT} {t : Int32} {l : Nat → Int32} (h : Rel x m) : Rel x (setTL m t l) := h
theorem RG_mine {p : Nat} {F : Nat → Nat → Nat} {ds : List Nat} {ph : Nat} {g : GT} {s : Nat → Int32} (h : RGw p F ds ph g s) : mX1_moversPieces g.1 (g.2.2.2.2.2.1) (g.2.2.2.2.2.2.1) = some (b_L (F p)) := by
  obtain ⟨⟨hp, -⟩, -, -, -, ⟨-, -, g1, -⟩, -, ⟨g5, g6⟩, -⟩ := h
  unfold mX1_moversPieces
  rw [g1, k_bd_some (po_1 hp g5 g6)]
theorem RG_others {p : Nat} {F : Nat → Nat → Nat} {ds : List Nat} {ph : Nat} {g : GT} {s : Nat → Int32} (h : RGw p F ds ph g s) : mX1_othersPieces g.1 (g.2.2.2.2.2.1) (g.2.2.2.2.2.2.1) = some (b_L (F (1 - p))) := by
  obtain ⟨⟨hp, -⟩, -, -, -, ⟨-, -, g1, -⟩, -, ⟨g5, g6⟩, -⟩ := h
  unfold mX1_othersPieces
  rw [g1, show (1 : Int32) - nI p = nI (1 - p) from r_1p hp, k_bd_some (po_1 (by omega) g5 g6)]
theorem RG_B {p : Nat} {F : Nat → Nat → Nat} {ds : List Nat} {ph : Nat} {g : GT} {s : Nat → Int32} (h : RGw p F ds ph g s) : RB s p (F p, F (1 - p)) ∧ g_ok (F p, F (1 - p)) := by
  obtain ⟨⟨hp, -⟩, ⟨ho, ho'⟩, ⟨h0, h1⟩, -⟩ := h
  exact ⟨⟨RH_q hp h0 h1, RH_q (by omega) h0 h1⟩, ok_q hp ho ho'⟩
theorem RG_reach {p : Nat} {F : Nat → Nat → Nat} {ds : List Nat} {ph : Nat} {g : GT} {s : Nat → Int32} (h : RGw p F ds ph g s) : mX1_reachNow g.1 (g.2.2.1) (g.2.2.2.2.2.1) (g.2.2.2.2.2.2.1) = some (nI (g_R ds (F p, F (1 - p)))) := by
  have h1 := RG_mine h
  have h2 := RG_others h
  have h3 := RG_B h
  obtain ⟨⟨-, -, hds, -⟩, -, -, -, ⟨-, -, -, -, g3⟩, -⟩ := h
  have e : mX7_reachOf 6 (b_L (F p)) (b_L (F (1 - p))) (d_I ds) (nI 4) = some (nI (g_R ds (F p, F (1 - p)))) := c_reach (P := (F p, F (1 - p))) hds h3.2
  unfold mX1_reachNow
  rw [k_bd_some h1, k_bd_some h2, g3, kn_4, k_bd_some e]
theorem pb_wayOf : ∀ p, p < 2 → ∀ w, w < 18 → mX1_wayOf (nI p) (pl p w) = some (nI w) := by decide +kernel
theorem pb_is : ∀ p, p < 2 → ∀ w, w < 18 → (1 ≤ w → mX9_isPointOrBar (pl p w) = some true) := by decide +kernel
theorem pb_f00 : ∀ p, p < 2 → ∀ w, w < 18 → ∀ d, d < 7 → (1 ≤ w ∧ 1 ≤ d → mX10_fault (pl p w) (nI d) = some 0) := by decide +kernel
theorem pb_f0 (p : Nat) (hp : p < 2) (w : Nat) (hw : w < 18) (h1 : 1 ≤ w) (d : Nat) (hd : d < 7) (h2 : 1 ≤ d) : mX10_fault (pl p w) (nI d) = some 0 := pb_f00 p hp w hw d hd ⟨h1, h2⟩
theorem pb_in : ∀ p, p < 2 → ∀ w, w < 18 → (1 ≤ w → mX10_in (pl p w) (-1) 15 = some true) := by decide +kernel
theorem pb_or (p : Nat) (hp : p < 2) (a : Int32) : (∃ w, 1 ≤ w ∧ w ≤ 17 ∧ a = pl p w) ∨ (mX9_isPointOrBar a = some false ∧ ∀ d, mX10_fault a d = some 1) := by
  by_cases hb : a = -1
  · exact Or.inl ⟨17, by omega, by omega, hb.trans (pl_bar p hp)⟩
  rcases pk_ix a (n := 16) (by omega) with h | h | ⟨j, hj, rfl⟩
  · refine Or.inr ⟨?_, fun d => ?_⟩
    · unfold mX9_isPointOrBar mX9_isPoint
      rw [if_neg hb, if_pos h]; rfl
    · unfold mX10_fault mX10_in
      have h2 : a < -1 := by
        rw [Int32.lt_iff_toInt_lt] at h ⊢
        have h3 : a.toInt ≠ -1 := fun e => hb (Int32.toInt_inj.mp (e.trans (by decide)))
        have h4 : (0 : Int32).toInt = 0 := rfl
        have h5 : (-1 : Int32).toInt = -1 := by decide
        omega
      rw [if_pos h2]; rfl
  · have h3 : ¬ a < 0 := fun q => absurd (Int32.le_trans h (Int32.le_of_lt q)) (by decide)
    have h4 : ¬ a < -1 := fun q => absurd (Int32.le_trans h (Int32.le_of_lt q)) (by decide)
    have h5 : ¬ a ≤ 15 := fun q => absurd (Int32.le_trans h q) (by decide)
    refine Or.inr ⟨?_, fun d => ?_⟩
    · unfold mX9_isPointOrBar mX9_isPoint
      rw [if_neg hb, if_neg h3, if_pos (show (16 : Int32) ≤ a from h)]; rfl
    · unfold mX10_fault mX10_in
      rw [if_neg h4, if_pos (Int32.not_le.mp h5)]; rfl
  · have h1 := pw_r p hp j hj
    exact Or.inl ⟨pw p j, h1.1, by omega, pl_pt p hp j hj⟩
theorem dd_is : ∀ d, d < 7 → (1 ≤ d → mX0_isDie (nI d) = some true ∧ mX10_in (nI d) 1 6 = some true) := by decide +kernel
theorem dd_or (a : Int32) : (∃ d, 1 ≤ d ∧ d < 7 ∧ a = nI d) ∨ (mX0_isDie a = some false ∧ mX10_in a 1 6 = some false) := by
  rcases pk_ix a (n := 7) (by omega) with h | h | ⟨j, hj, rfl⟩
  · have h2 : a < 1 := Int32.lt_trans h (by decide)
    refine Or.inr ⟨?_, ?_⟩
    · unfold mX0_isDie; rw [if_pos h2]
    · unfold mX10_in; rw [if_pos h2]
  · have h2 : ¬ a < 1 := fun q => absurd (Int32.le_trans h (Int32.le_of_lt q)) (by decide)
    have h3 : (6 : Int32) < a := Int32.lt_of_lt_of_le (by decide) h
    refine Or.inr ⟨?_, ?_⟩
    · unfold mX0_isDie; rw [if_neg h2, if_pos h3]
    · unfold mX10_in; rw [if_neg h2, if_pos h3]
  · by_cases hj0 : j = 0
    · subst hj0; exact Or.inr ⟨by decide +kernel, by decide +kernel⟩
    · exact Or.inl ⟨j, by omega, hj, rfl⟩
theorem pb_f2 {p w : Nat} {a : Int32} (hp : p < 2) (hw1 : 1 ≤ w) (hw : w ≤ 17) (h : mX10_in a 1 6 = some false) : mX10_fault (pl p w) a = some 2 := by
  unfold mX10_fault
  rw [k_bd_some (pb_in p hp w (by omega) hw1), if_neg (by decide), k_bd_some h]; rfl
theorem RG_reason {p : Nat} {F : Nat → Nat → Nat} {ds : List Nat} {ph : Nat} {g : GT} {s : Nat → Int32} {d w : Nat} (h : RGw p F ds ph g s) (hd1 : 1 ≤ d) (hd : d < 7) (hw1 : 1 ≤ w) (hw : w ≤ 17) : mX1_reasonAgainst g.1 (g.2.2.1) (g.2.2.2.2.2.1) (g.2.2.2.2.2.2.1) (pl p w) (nI d) = some (nI (g_re ds (F p, F (1 - p)) d w)) := by
  have h1 := RG_mine h
  have h2 := RG_others h
  have h3 := RG_B h
  have h4 := RG_reach h
  obtain ⟨⟨hp, -, hds, -⟩, -, -, -, ⟨-, -, g1, -, g3⟩, -⟩ := h
  unfold mX1_reasonAgainst
  rw [k_bd_some h1, k_bd_some h2, g1, k_bd_some (pb_wayOf p hp w (by omega))]
  rw [g1] at h4
  have e9 : mX7_reason (b_L (F p)) (b_L (F (1 - p))) (d_I ds) (nI w) (nI d) (nI (g_R ds (F p, F (1 - p)))) = some (nI (g_re ds (F p, F (1 - p)) d w)) := c_reason (P := (F p, F (1 - p))) hds h3.2 hd1 hd hw1 hw
  rw [k_bd_some h4, g3, k_bd_some e9]
theorem RG_why {p : Nat} {F : Nat → Nat → Nat} {ds : List Nat} {ph : Nat} {g : GT} {s laid : Nat → Int32} {d w : Nat} (h : RGw p F ds ph g s) (hd1 : 1 ≤ d) (hd : d < 7) (hw1 : 1 ≤ w) (hw : w ≤ 17) : ∃ laid', mX10_why s laid (pl p w) (nI d) = some (nI (g_re ds (F p, F (1 - p)) d w), s, laid') := by
  have h3 := RG_B h
  obtain ⟨⟨hp, -, hds, -⟩, -, -, hD, ⟨h36, -⟩, -⟩ := h
  exact r_why hp h3.2 h3.1 hds hD h36 hd1 hd hw1 hw
theorem ok_possibleSteps {x : XT} {m : MT} (h : Rel x m) : OK_possibleSteps Rel x m := by
  obtain ⟨p, F, ds, ph, hg⟩ := h.1
  have h1 := RG_mine hg
  have h2 := RG_others hg
  have h3 := RG_B hg
  obtain ⟨⟨hp, -, hds, -⟩, -, -, hD, ⟨h36, -, -, -, g3⟩, -⟩ := hg
  obtain ⟨laid', e⟩ := r_possible (laid := m.2.2.2.2.2.2.2.2.2.1) hp h3.2 h3.1 hds hD h36
  have e9 : mX7_countPossible (b_L (F p)) (b_L (F (1 - p))) (d_I ds) = some (nI (g_poss ds (F p, F (1 - p)))) := c_count (P := (F p, F (1 - p))) hds h3.2
  refine ⟨nI (g_poss ds (F p, F (1 - p))), x, nI (g_poss ds (F p, F (1 - p))), setTL m 0 laid', ?_, ?_, rfl, Rel_TL h⟩
  · unfold XN_possibleSteps mX9_possibleSteps
    rw [k_bd_some h1, k_bd_some h2, g3, k_bd_some e9]
    rfl
  · unfold MN_possibleSteps mX10_possibleSteps
    rw [k_bd3_some e]; rfl
theorem ok_reach {x : XT} {m : MT} (h : Rel x m) : OK_reach Rel x m := by
  obtain ⟨p, F, ds, ph, hg⟩ := h.1
  have h1 := RG_reach hg
  have h3 := RG_B hg
  obtain ⟨⟨hp, -, hds, -⟩, -, -, hD, ⟨h36, -, -, -, g3⟩, -⟩ := hg
  obtain ⟨laid', e⟩ := r_reaches (laid := m.2.2.2.2.2.2.2.2.2.1) hp h3.2 h3.1 hds hD h36
  refine ⟨nI (g_R ds (F p, F (1 - p))), x, nI (g_R ds (F p, F (1 - p))), setTL m 0 laid', ?_, ?_, rfl, Rel_TL h⟩
  · unfold XN_reach mX9_reach
    rw [k_bd_some h1]; rfl
  · unfold MN_reach mX10_reach
    rw [k_bd3_some e]; rfl
theorem ok_whyNoStep {x : XT} {m : MT} (h : Rel x m) (a a2 : Int32) : OK_whyNoStep Rel x m a a2 := by
  obtain ⟨p, F, ds, ph, hg⟩ := h.1
  have hp := hg.1.1
  rcases pb_or p hp a with ⟨w, hw1, hw, rfl⟩ | ⟨e1, e2⟩
  · rcases dd_or a2 with ⟨d, hd1, hd, rfl⟩ | ⟨e1, e2⟩
    · obtain ⟨laid', e⟩ := RG_why (laid := m.2.2.2.2.2.2.2.2.2.1) hg hd1 hd hw1 hw
      refine Or.inl ⟨nI (g_re ds (F p, F (1 - p)) d w), x, nI (g_re ds (F p, F (1 - p)) d w), setTL m 0 laid', ?_, ?_, rfl, rfl, Rel_TL h⟩
      · unfold XN_whyNoStep mX9_whyNoStep
        rw [k_bd_some (pb_is p hp w (by omega) hw1), if_neg (by decide), k_bd_some (dd_is d hd hd1).1, if_neg (by decide), k_bd_some (RG_reason hg hd1 hd hw1 hw)]; rfl
      · unfold MN_whyNoStep mX10_whyNoStep
        rw [k_bd_some (pb_f0 p hp w (by omega) hw1 d hd hd1), if_pos rfl, k_bd3_some e]; rfl
    · refine Or.inr (Or.inr ⟨0, setT m 2, ?_, ?_, rfl, Rel_T h⟩)
      · unfold XT_whyNoStep mT9_whyNoStep
        rw [k_bd_some (pb_is p hp w (by omega) hw1), if_neg (by decide), k_bd_some e1, if_pos (by decide)]
      · unfold MN_whyNoStep mX10_whyNoStep
        rw [k_bd_some (pb_f2 hp hw1 hw e2)]; rfl
  · refine Or.inr (Or.inl ⟨0, setT m 1, ?_, ?_, rfl, Rel_T h⟩)
    · unfold XT_whyNoStep mT9_whyNoStep
      rw [k_bd_some e1, if_pos (by decide)]
    · unfold MN_whyNoStep mX10_whyNoStep
      rw [k_bd_some (e2 a2)]; rfl
theorem c_cnt {F : Nat → Nat → Nat} {q y : Nat} (hq : q < 2) (hy : y < 16) (ho : g_ok (F 0, F 1)) (ho' : g_ok (F 1, F 0)) : mX1_countAt (b_L (F 0)) (b_L (F 1)) (nI q) (nI y) = some (nI (F q (pw q y))) := by
  have h5 := pw_r q hq y hy
  unfold mX1_countAt
  rw [k_bd_some (show mX1_piecesOf (b_L (F 0)) (b_L (F 1)) (nI q) = some (b_L (F q)) from by rcases (show q = 0 ∨ q = 1 by omega) with rfl | rfl <;> rfl), k_bd_some (c_way q hq y hy), k_bd_some (c_on hq (ok_q hq ho ho') (by omega))]
theorem c_own {F : Nat → Nat → Nat} {y : Nat} (hy : y < 16) (ho : g_ok (F 0, F 1)) (ho' : g_ok (F 1, F 0)) : mX1_ownerOfBlot (b_L (F 0)) (b_L (F 1)) (nI y) = some (if F 0 (pw 0 y) = 1 then 0 else if F 1 (pw 1 y) = 1 then 1 else -1) := by
  have h0 := pw_r 0 (by omega) y hy
  have h1 := pw_r 1 (by omega) y hy
  have l0 : F 0 (pw 0 y) ≤ 6 := b_ok_le ho.1 (i := pw 0 y) (by omega)
  have l1 : F 1 (pw 1 y) ≤ 6 := b_ok_le ho'.1 (i := pw 1 y) (by omega)
  unfold mX1_ownerOfBlot
  rw [k_bd_some (show mX1_countAt (b_L (F 0)) (b_L (F 1)) 0 (nI y) = _ from c_cnt (q := 0) (by omega) hy ho ho')]
  by_cases e0 : F 0 (pw 0 y) = 1
  · rw [if_pos (show nI (F 0 (pw 0 y)) = 1 by rw [e0]; rfl), if_pos e0]
  · rw [if_neg (show ¬ nI (F 0 (pw 0 y)) = (1 : Int32) from fun h => e0 ((nI_eq (by omega) (by omega)).mp (show nI (F 0 (pw 0 y)) = nI 1 from h))), if_neg e0, k_bd_some (show mX1_countAt (b_L (F 0)) (b_L (F 1)) 1 (nI y) = _ from c_cnt (q := 1) (by omega) hy ho ho')]
    by_cases e1 : F 1 (pw 1 y) = 1
    · rw [if_pos (show nI (F 1 (pw 1 y)) = 1 by rw [e1]; rfl), if_pos e1]
    · rw [if_neg (show ¬ nI (F 1 (pw 1 y)) = (1 : Int32) from fun h => e1 ((nI_eq (by omega) (by omega)).mp (show nI (F 1 (pw 1 y)) = nI 1 from h))), if_neg e1]
theorem c_shotsR {F : Nat → Nat → Nat} {y : Nat} (hy : y < 16) (ho : g_ok (F 0, F 1)) (ho' : g_ok (F 1, F 0)) : mX9_shotsRollByRoll (b_L (F 0)) (b_L (F 1)) (nI y) = some (nI (g_sh F y)) := by
  have h0 := pw_r 0 (by omega) y hy
  have h1 := pw_r 1 (by omega) y hy
  unfold mX9_shotsRollByRoll g_sh
  rw [k_bd_some (c_own hy ho ho')]
  by_cases e0 : F 0 (pw 0 y) = 1
  · rw [if_pos e0, if_pos e0, if_pos (by decide)]
    rw [k_bd_some (show mX1_wayOf (1 - 0) (nI y) = _ from c_way 1 (by omega) y hy), k_bd_some (show mX1_piecesOf (b_L (F 0)) (b_L (F 1)) (1 - 0) = some (b_L (F 1)) from rfl), k_bd_some (show mX1_piecesOf (b_L (F 0)) (b_L (F 1)) 0 = some (b_L (F 0)) from rfl), k_bd_some (show mX6_rollByRoll (b_L (F 1)) (b_L (F 0)) (nI (pw 1 y)) = _ from c_rolls (P := (F 1, F 0)) ho' h1.1 h1.2.1), c_rolls_eq]
  · rw [if_neg e0, if_neg e0]
    by_cases e1 : F 1 (pw 1 y) = 1
    · rw [if_pos e1, if_pos e1, if_pos (by decide)]
      rw [k_bd_some (show mX1_wayOf (1 - 1) (nI y) = _ from c_way 0 (by omega) y hy), k_bd_some (show mX1_piecesOf (b_L (F 0)) (b_L (F 1)) (1 - 1) = some (b_L (F 0)) from rfl), k_bd_some (show mX1_piecesOf (b_L (F 0)) (b_L (F 1)) 1 = some (b_L (F 1)) from rfl), k_bd_some (show mX6_rollByRoll (b_L (F 0)) (b_L (F 1)) (nI (pw 0 y)) = _ from c_rolls (P := (F 0, F 1)) ho h0.1 h0.2.1), c_rolls_eq]
    · rw [if_neg e1, if_neg e1, if_neg (by decide)]; rfl
theorem c_shotsK {F : Nat → Nat → Nat} {y : Nat} (hy : y < 16) (ho : g_ok (F 0, F 1)) (ho' : g_ok (F 1, F 0)) : mX9_shotsKindByKind (b_L (F 0)) (b_L (F 1)) (nI y) = some (nI (g_sh F y)) := by
  have h0 := pw_r 0 (by omega) y hy
  have h1 := pw_r 1 (by omega) y hy
  unfold mX9_shotsKindByKind g_sh
  rw [k_bd_some (c_own hy ho ho')]
  by_cases e0 : F 0 (pw 0 y) = 1
  · rw [if_pos e0, if_pos e0, if_pos (by decide)]
    rw [k_bd_some (show mX1_wayOf (1 - 0) (nI y) = _ from c_way 1 (by omega) y hy), k_bd_some (show mX1_piecesOf (b_L (F 0)) (b_L (F 1)) (1 - 0) = some (b_L (F 1)) from rfl), k_bd_some (show mX1_piecesOf (b_L (F 0)) (b_L (F 1)) 0 = some (b_L (F 0)) from rfl), k_bd_some (show mX6_kindByKind (b_L (F 1)) (b_L (F 0)) (nI (pw 1 y)) = _ from c_kinds (P := (F 1, F 0)) ho' h1.1 h1.2.1), c_kinds_eq]
  · rw [if_neg e0, if_neg e0]
    by_cases e1 : F 1 (pw 1 y) = 1
    · rw [if_pos e1, if_pos e1, if_pos (by decide)]
      rw [k_bd_some (show mX1_wayOf (1 - 1) (nI y) = _ from c_way 0 (by omega) y hy), k_bd_some (show mX1_piecesOf (b_L (F 0)) (b_L (F 1)) (1 - 1) = some (b_L (F 0)) from rfl), k_bd_some (show mX1_piecesOf (b_L (F 0)) (b_L (F 1)) 1 = some (b_L (F 1)) from rfl), k_bd_some (show mX6_kindByKind (b_L (F 0)) (b_L (F 1)) (nI (pw 0 y)) = _ from c_kinds (P := (F 0, F 1)) ho h0.1 h0.2.1), c_kinds_eq]
    · rw [if_neg e1, if_neg e1, if_neg (by decide)]; rfl
theorem th_p {x : Nat} {th : Int32} (hx : x < 16) : mX10_isThere th 0 (nI x) = some (true, 0) := th_1 (q := 0) (by omega) hx
theorem ok_shots {x : XT} {m : MT} (h : Rel x m) (a : Int32) : OK_shots Rel x m a := by
  obtain ⟨p, F, ds, ph, -, ⟨ho, ho'⟩, ⟨hr0, hr1⟩, -, -, -, ⟨gp0, gp1⟩, -⟩ := h.1
  rcases pt_or a with ⟨y, hy, rfl⟩ | ⟨h1, h2⟩
  · obtain ⟨laid', e⟩ := r_shotsAt (laid := m.2.2.2.2.2.2.2.2.2.1) hy hr0 hr1 ho ho'
    refine Or.inl ⟨nI (g_sh F y), x, nI (g_sh F y), setTL m 0 laid', ?_, ?_, rfl, rfl, Rel_TL h⟩
    · unfold XN_shots mX9_shots
      rw [k_bd_some (pt_1 y hy), if_neg (by decide), gp0, gp1, k_bd_some (c_shotsR hy ho ho')]; rfl
    · unfold MN_shots mX10_shots
      rw [k_bd2_some (th_p hy), if_neg (by decide), k_bd3_some e]; rfl
  · refine Or.inr ⟨0, setT m 1, ?_, ?_, rfl, Rel_T h⟩
    · unfold XT_shots mT9_shots
      rw [k_bd_some h1, if_pos (by decide)]
    · unfold MN_shots mX10_shots; rw [k_bd2_some (h2 _ _)]; rfl
theorem ok_shotsByKinds {x : XT} {m : MT} (h : Rel x m) (a : Int32) : OK_shotsByKinds Rel x m a := by
  obtain ⟨p, F, ds, ph, -, ⟨ho, ho'⟩, ⟨hr0, hr1⟩, -, -, -, ⟨gp0, gp1⟩, -⟩ := h.1
  rcases pt_or a with ⟨y, hy, rfl⟩ | ⟨h1, h2⟩
  · obtain ⟨laid', e⟩ := r_shotsAt (laid := m.2.2.2.2.2.2.2.2.2.1) hy hr0 hr1 ho ho'
    refine Or.inl ⟨nI (g_sh F y), x, nI (g_sh F y), setTL m 0 laid', ?_, ?_, rfl, rfl, Rel_TL h⟩
    · unfold XN_shotsByKinds mX9_shotsByKinds
      rw [k_bd_some (pt_1 y hy), if_neg (by decide), gp0, gp1, k_bd_some (c_shotsK hy ho ho')]; rfl
    · unfold MN_shotsByKinds mX10_shotsByKinds
      rw [k_bd2_some (th_p hy), if_neg (by decide), k_bd3_some e]; rfl
  · refine Or.inr ⟨0, setT m 1, ?_, ?_, rfl, Rel_T h⟩
    · unfold XT_shotsByKinds mT9_shotsByKinds
      rw [k_bd_some h1, if_pos (by decide)]
    · unfold MN_shotsByKinds mX10_shotsByKinds; rw [k_bd2_some (h2 _ _)]; rfl
