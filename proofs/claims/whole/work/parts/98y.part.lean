/-! a part is played -/
theorem t_dg {sg : Nat → Int32} {c : Nat → Nat} {n j : Nat} (h : TX sg c n) (hj : j < n) (hc : 48 ≤ c j) : mX8_digitAt sg (nI n) (nI j) = some (nI (c j - 48)) := by
  unfold mX8_digitAt
  rw [k_bd_some (t_at h hj), kn_48, pk_sub hc]
theorem t_m1 {i : Nat} (h : 1 ≤ i) : nI i - 1 = nI (i - 1) := by rw [kn_1, pk_sub h]
theorem t_isDg : ∀ j, j < 127 → mX8_isDigit (nI j) = some (decide (48 ≤ j ∧ j ≤ 57)) := by decide +kernel
theorem t_num1 {sg : Nat → Int32} {c : Nat → Nat} {n j : Nat} (h : TX sg c n) (hj : j + 1 < n) (hc : 48 ≤ c j) (h2 : c (j + 1) = 46) : mX8_numberAt sg (nI n) (nI j) = some (nI (c j - 48)) := by
  unfold mX8_numberAt
  rw [k_bd_some (t_dg h (by omega) hc), nI_1, k_bd_some (t_at h hj), h2, k_bd_some (t_isDg 46 (by omega)), decide_eq_false (by omega), if_pos (show k_b false = 0 from rfl)]
theorem t_num2 {sg : Nat → Int32} {c : Nat → Nat} {n j : Nat} (h : TX sg c n) (hj : j + 1 < n) (hc : c j = 49) (h2 : 48 ≤ c (j + 1) ∧ c (j + 1) ≤ 53) : mX8_numberAt sg (nI n) (nI j) = some (nI (10 + (c (j + 1) - 48))) := by
  unfold mX8_numberAt
  rw [k_bd_some (t_dg h (by omega) (by omega)), nI_1, k_bd_some (t_at h hj), k_bd_some (t_isDg _ (by omega)), decide_eq_true (by omega), if_neg (show ¬ k_b true = 0 by decide), k_bd_some (t_dg h hj h2.1), hc, show (10 : Int32) * nI (49 - 48) = nI 10 from by decide, nI_add]
theorem t_l4 : ∀ j, j < 54 → (48 ≤ j → (10 : Int32) + nI j - 48 = nI (10 + (j - 48))) := by decide +kernel
theorem t_l0 {j : Nat} (h : 48 ≤ j) : nI j - 48 = nI (j - 48) := by rw [kn_48, pk_sub h]
def T_res (g : GT) (s laid sg : Nat → Int32) (n i i' k : Nat) (l4 l5 : Int32) : Prop := ∃ b, mX9_isPartPossible g.1 g.2.1 g.2.2.1 g.2.2.2.1 g.2.2.2.2.1 g.2.2.2.2.2.1 g.2.2.2.2.2.2.1 sg (nI n) (nI i) (nI i') = some b ∧ (b = false → ∃ laid', mX10_isPlayed s laid (nI k) l4 l5 = some (false, s, laid')) ∧ (b = true → ∃ s' laid' m' ph' di' stk' cub' P0' P1' sc0' sc1' h0' h1', mX10_isPlayed s laid (nI k) l4 l5 = some (true, s', laid') ∧ mX9_doPart g.1 g.2.1 g.2.2.1 g.2.2.2.1 g.2.2.2.2.1 g.2.2.2.2.2.1 g.2.2.2.2.2.2.1 g.2.2.2.2.2.2.2.1 g.2.2.2.2.2.2.2.2.1 g.2.2.2.2.2.2.2.2.2.1 g.2.2.2.2.2.2.2.2.2.2.1 sg (nI n) (nI i) (nI i') = some (m', ph', di', stk', cub', P0', P1', sc0', sc1', h0', h1') ∧ RG (m', ph', di', stk', cub', P0', P1', sc0', sc1', h0', h1', g.2.2.2.2.2.2.2.2.2.2.2) s')
theorem T_res_r {p : Nat} {F : Nat → Nat → Nat} {ds : List Nat} {ph : Nat} {g : GT} {s laid sg : Nat → Int32} {c : Nat → Nat} {n i : Nat} (h : RGw p F ds ph g s) (hs : TX sg c n) (hn : i + 3 ≤ n) (hk : c i = 114) (ha : 49 ≤ c (i + 1) ∧ c (i + 1) ≤ 54) (hb : 49 ≤ c (i + 2) ∧ c (i + 2) ≤ 54) : T_res g s laid sg n i (i + 3) 114 (nI (c (i + 1)) - 48) (nI (c (i + 2)) - 48) := by
  have hph := h.1.2.1
  have g2 := h.2.2.2.2.1.2.2.2.1
  have h37 := h.2.2.2.2.1.2.1
  have hat := t_at hs (show i < n by omega)
  rw [hk] at hat
  have k0 : (nI ph = (0 : Int32)) ↔ ph = 0 := nI_phs hph 0 (by omega)
  rw [t_l0 (by omega), t_l0 (by omega)]
  refine ⟨decide (ph = 0), ?_, fun hb0 => ?_, fun hb0 => ?_⟩
  · unfold mX9_isPartPossible
    rw [k_bd_some hat, if_neg (by decide), if_neg (by decide), if_neg (by decide), if_neg (by decide), if_pos (show nI 114 = (114 : Int32) from rfl), k_bd_some (show mX1_awaitsRoll g.2.1 = some (decide (ph = 0)) from by rw [g2]; exact awaits_iff hph)]
  · rw [decide_eq_false_iff_not] at hb0
    refine ⟨laid, ?_⟩
    unfold mX10_isPlayed mX10_isPlayed_17 mX10_isPlayed_117
    rw [if_neg (by decide), if_neg (by decide), if_pos (show nI 114 = (114 : Int32) from rfl), if_neg (show ¬ s 37 = (0 : Int32) from fun e => hb0 (k0.mp (h37.symm.trans e))), if_pos (show k_b false = 0 from rfl)]
  · rw [decide_eq_true_iff] at hb0
    subst hb0
    obtain ⟨s', e1, e2, -, e3⟩ := T_roll (a := c (i + 1) - 48) (b := c (i + 2) - 48) h (by omega) (by omega) (by omega) (by omega)
    refine ⟨s', laid, _, _, _, _, _, _, _, _, _, _, _, ?_, ?_, ⟨p, F, _, 1, e3⟩⟩
    · unfold mX10_isPlayed mX10_isPlayed_17 mX10_isPlayed_117 mX10_isPlayed_142 mX10_isPlayed_143
      rw [if_neg (by decide), if_neg (by decide), if_pos (show nI 114 = (114 : Int32) from rfl), if_pos (show s 37 = (0 : Int32) from h37.trans nI_0), if_neg (show ¬ k_b true = 0 by decide), if_pos (show k_b false = 0 from rfl), if_pos (show k_b false = 0 from rfl), if_pos (show nI 114 = (114 : Int32) from rfl), k_bd2_some e1]
    · unfold mX9_doPart
      rw [k_bd_some hat, if_neg (by decide), if_neg (by decide), if_neg (by decide), if_neg (by decide), if_pos (show nI 114 = (114 : Int32) from rfl), nI_1, k_bd_some (t_dg hs (by omega) (by omega)), show (2 : Int32) = nI 2 from rfl, nI_add, k_bd_some (t_dg hs (by omega) (by omega)), k_bd2_some e2]
theorem T_isPl {k : Nat} {s laid s1 laid1 s' : Nat → Int32} {l4 l5 r : Int32} {b : Bool} (hk : k = 109 ∨ k = 98) (e : mX10_why s laid l4 l5 = some (r, s1, laid1)) : (r ≠ 0 → mX10_isPlayed s laid (nI k) l4 l5 = some (false, s1, laid1)) ∧ (r = 0 → mX10_steps s1 l4 l5 = some (b, s') → mX10_isPlayed s laid (nI k) l4 l5 = some (true, s', laid1)) := by
  have hn : ¬ nI k = (114 : Int32) := by rcases hk with rfl | rfl <;> decide
  have e0 : mX10_isPlayed s laid (nI k) l4 l5 = mX10_isPlayed_17 (nI k) l4 l5 true s laid := by
    unfold mX10_isPlayed
    rcases hk with rfl | rfl
    · rw [if_pos (show nI 109 = (109 : Int32) from rfl)]
    · rw [if_neg (by decide), if_pos (show nI 98 = (98 : Int32) from rfl)]
  rw [e0]
  unfold mX10_isPlayed_17
  rw [if_neg hn, if_neg (show ¬ k_b true = 0 by decide), k_bd3_some e]
  refine ⟨fun hr => ?_, fun hr e2 => ?_⟩
  · rw [if_neg hr]
    unfold mX10_isPlayed_117
    rw [if_pos (show k_b false = 0 from rfl)]
  · rw [if_pos hr]
    unfold mX10_isPlayed_117
    rw [if_neg (show ¬ k_b true = 0 by decide), if_neg (show ¬ k_b true = 0 by decide), k_bd2_some e2]
    unfold mX10_isPlayed_142 mX10_isPlayed_143
    rw [if_neg (show ¬ k_b true = 0 by decide), ite_self]
theorem T_res_s {p : Nat} {F : Nat → Nat → Nat} {ds : List Nat} {ph : Nat} {g : GT} {s laid sg : Nat → Int32} {n i i' k w d : Nat} (h : RGw p F ds ph g s) (hk : k = 109 ∨ k = 98) (hw1 : 1 ≤ w) (hw : w ≤ 17) (hd1 : 1 ≤ d) (hd : d < 7)
    (hpp : mX9_isPartPossible g.1 g.2.1 g.2.2.1 g.2.2.2.1 g.2.2.2.2.1 g.2.2.2.2.2.1 g.2.2.2.2.2.2.1 sg (nI n) (nI i) (nI i') = k_bd (mX1_reasonAgainst g.1 g.2.2.1 g.2.2.2.2.2.1 g.2.2.2.2.2.2.1 (pl p w) (nI d)) (fun r => if r = 0 then some true else some false))
    (hdp : mX9_doPart g.1 g.2.1 g.2.2.1 g.2.2.2.1 g.2.2.2.2.1 g.2.2.2.2.2.1 g.2.2.2.2.2.2.1 g.2.2.2.2.2.2.2.1 g.2.2.2.2.2.2.2.2.1 g.2.2.2.2.2.2.2.2.2.1 g.2.2.2.2.2.2.2.2.2.2.1 sg (nI n) (nI i) (nI i') = k_bd9 (mX1_doStep g.1 g.2.1 g.2.2.1 g.2.2.2.1 g.2.2.2.2.2.1 g.2.2.2.2.2.2.1 g.2.2.2.2.2.2.2.1 g.2.2.2.2.2.2.2.2.1 g.2.2.2.2.2.2.2.2.2.1 g.2.2.2.2.2.2.2.2.2.2.1 (pl p w) (nI d)) (fun r21 w22 w23 w24 w25 w26 w27 w28 w29 => some (g.1, w22, w23, g.2.2.2.1, g.2.2.2.2.1, w24, w25, w26, w27, w28, w29))) : T_res g s laid sg n i i' k (pl p w) (nI d) := by
  obtain ⟨laid', e⟩ := RG_why (laid := laid) h hd1 hd hw1 hw
  have er := RG_reason h hd1 hd hw1 hw
  rw [k_bd_some er] at hpp
  by_cases h0 : g_re ds (F p, F (1 - p)) d w = 0
  · rw [h0, if_pos (show nI 0 = (0 : Int32) from nI_0)] at hpp
    obtain ⟨b, s', phs, di, P0, P1, sc0, sc1, hi0, hi1, y1, y2, y3⟩ := T_step h hw1 hw h0
    refine ⟨true, hpp, (fun q => by cases q), fun _ => ⟨s', laid', _, _, _, _, _, _, _, _, _, _, _, (T_isPl (b := b) hk e).2 (by rw [h0]; exact nI_0) y1, ?_, y3⟩⟩
    rw [hdp, k_bd9_some y2]
  · have hne : ¬ nI (g_re ds (F p, F (1 - p)) d w) = (0 : Int32) := nI_ne0 (by omega) (by have := g_re_lt (ds := ds) (P := (F p, F (1 - p))) (d := d) (w := w); omega)
    rw [if_neg hne] at hpp
    exact ⟨false, hpp, fun _ => ⟨laid', (T_isPl (b := true) (s' := s) hk e).1 hne⟩, (fun q => by cases q)⟩
theorem T_res_m {p : Nat} {F : Nat → Nat → Nat} {ds : List Nat} {ph : Nat} {g : GT} {s laid sg : Nat → Int32} {c : Nat → Nat} {n i i' q : Nat} (h : RGw p F ds ph g s) (hs : TX sg c n) (hi : i < n) (hn : i' ≤ n) (hi1 : i < i') (hk : c i = 109) (hq : q < 16) (hnum : mX8_numberAt sg (nI n) (nI (i + 1)) = some (nI q)) (hd : 49 ≤ c (i' - 1) ∧ c (i' - 1) ≤ 54) : T_res g s laid sg n i i' 109 (nI q) (nI (c (i' - 1)) - 48) := by
  have hp := h.1.1
  have hat := t_at hs hi
  rw [hk] at hat
  have hpw := pw_r p hp q hq
  have hdg : mX8_digitAt sg (nI n) (nI i' - 1) = some (nI (c (i' - 1) - 48)) := by rw [t_m1 (by omega)]; exact t_dg hs (by omega) (by omega)
  rw [t_l0 (by omega), pl_pt p hp q hq]
  rw [pl_pt p hp q hq] at hnum
  refine T_res_s h (Or.inl rfl) hpw.1 (by omega) (by omega) (by omega) ?_ ?_
  · unfold mX9_isPartPossible
    rw [k_bd_some hat, if_neg (by decide), if_neg (by decide), if_neg (by decide), if_pos (show nI 109 = (109 : Int32) from rfl), nI_1, k_bd_some hnum, k_bd_some hdg]
  · unfold mX9_doPart
    rw [k_bd_some hat, if_neg (by decide), if_neg (by decide), if_neg (by decide), if_pos (show nI 109 = (109 : Int32) from rfl), nI_1, k_bd_some hnum, k_bd_some hdg]
theorem T_res_b {p : Nat} {F : Nat → Nat → Nat} {ds : List Nat} {ph : Nat} {g : GT} {s laid sg : Nat → Int32} {c : Nat → Nat} {n i i' : Nat} (h : RGw p F ds ph g s) (hs : TX sg c n) (hi : i < n) (hn : i' ≤ n) (hi1 : i < i') (hk : c i = 98) (hd : 49 ≤ c (i' - 1) ∧ c (i' - 1) ≤ 54) : T_res g s laid sg n i i' 98 (-1) (nI (c (i' - 1)) - 48) := by
  have hp := h.1.1
  have hat := t_at hs hi
  rw [hk] at hat
  have hdg : mX8_digitAt sg (nI n) (nI i' - 1) = some (nI (c (i' - 1) - 48)) := by rw [t_m1 (by omega)]; exact t_dg hs (by omega) (by omega)
  have hbar : (-1 : Int32) = pl p 17 := pl_bar p hp
  rw [t_l0 (by omega), hbar]
  refine T_res_s h (Or.inr rfl) (by omega) (by omega) (by omega) (by omega) ?_ ?_
  · unfold mX9_isPartPossible
    rw [k_bd_some hat, if_pos (show nI 98 = (98 : Int32) from rfl), k_bd_some hdg, hbar]
  · unfold mX9_doPart
    rw [k_bd_some hat, if_pos (show nI 98 = (98 : Int32) from rfl), k_bd_some hdg, hbar]
