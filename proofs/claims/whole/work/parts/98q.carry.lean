theorem r_atw {s : Nat → Int32} {F : Nat → Nat → Nat} {q w : Nat} (hq : q < 2) (hw : w < 18) (h : RH s q (F q)) : mX10_at s (nI q) (pl q w) = some (nI (F q w)) := by rw [r_at hq hw, h w hw]
theorem r_carry61 {s before : Nat → Int32} {known th : Int32} {F : Nat → Nat → Nat} {q w v : Nat} (hq : q < 2) (hw : w < 18) (hv : v < 18) (h0 : RH s 0 (F 0)) (h1 : RH s 1 (F 1)) (ho : g_ok (F 0, F 1)) (ho' : g_ok (F 1, F 0)) : mX10_carry s before known th (nI q) (pl q w) (pl q v) = mX10_carry_61 (nI q) (pl q w) (pl q v) (!(g_free F q v)) s before known 0 := by
  have hpl : mX10_isPlayer (nI q) = some true := by rcases (show q = 0 ∨ q = 1 by omega) with rfl | rfl <;> decide +kernel
  unfold mX10_carry
  rw [k_bd_some hpl, if_neg (by decide), k_bd_some (pp_is q hq w hw).2, if_neg (by decide), k_bd_some (pp_is q hq v hv).2, if_neg (by decide)]
  by_cases hv0 : v = 0
  · subst hv0
    rw [k_bd_some (pp_v0 q hq).1, if_pos (by decide)]
    rw [show g_free F q 0 = true from decide_eq_true (fun h => by omega)]
    rfl
  by_cases hv17 : v = 17
  · subst hv17
    rw [k_bd_some (pp_v17 q hq).1, if_pos (by decide)]
    rw [show g_free F q 17 = true from decide_eq_true (fun h => by omega)]
    rfl
  have hvp := pp_vp q hq v (by omega) (by omega)
  have hq1 : 1 - q < 2 := by omega
  have hok1 := ok_q hq1 ho ho'
  have hle1 : F (1 - q) (17 - v) ≤ 6 := b_ok_le hok1.1 (by omega)
  have ea : mX10_at s (1 - nI q) (pl q v) = some (nI (F (1 - q) (17 - v))) := by
    rw [show (1 : Int32) - nI q = nI (1 - q) from r_1p hq, pl_opp q hq v (by omega) (by omega)]
    exact r_atw hq1 (by omega) (RH_q hq1 h0 h1)
  rw [k_bd_some hvp.1, if_neg (by decide), k_bd_some ea]
  by_cases ht : F (1 - q) (17 - v) = 0
  · rw [show g_free F q v = true from decide_eq_true (fun _ => ht), ht, if_pos (by decide)]
    rfl
  · rw [show g_free F q v = false from decide_eq_false (fun h => ht (h ⟨by omega, by omega⟩)), if_neg (show ¬ nI (F (1 - q) (17 - v)) ≤ (0 : Int32) from nI_nle (by omega) (by omega))]
    rfl
theorem r_carry91 {s before : Nat → Int32} {known : Int32} {F : Nat → Nat → Nat} {q w v : Nat} {t : Bool} (hq : q < 2) (hw : w < 18) (hv : v < 18) (h0 : RH s 0 (F 0)) (h1 : RH s 1 (F 1)) (ho : g_ok (F q, F (1 - q))) : mX10_carry_61 (nI q) (pl q w) (pl q v) t s before known 0 = mX10_carry_91 (nI q) (pl q w) (pl q v) (g_last F q w v) t s before known 0 := by
  have hle : F q 0 ≤ 6 := b_ok_le ho.1 (by omega)
  unfold mX10_carry_61 mX10_carry_90
  by_cases hv0 : v = 0
  · subst hv0
    rw [if_pos ((pp_16 q hq 0 (by omega)).mpr rfl)]
    by_cases hw0 : w = 0
    · subst hw0
      rw [if_pos ((pp_16 q hq 0 (by omega)).mpr rfl), show g_last F q 0 0 = false from decide_eq_false (fun h => h.2.1 rfl)]
    · rw [if_neg (fun e => hw0 ((pp_16 q hq w hw).mp e)), k_bd_some (show mX10_at s (nI q) 16 = some (nI (F q 0)) from by rw [show (16 : Int32) = pl q 0 from pl_off q hq]; exact r_atw hq (by omega) (RH_q hq h0 h1))]
      by_cases h5 : F q 0 = 5
      · rw [h5, if_pos (by decide), show g_last F q w 0 = true from decide_eq_true ⟨rfl, hw0, h5⟩]
      · rw [if_neg (show ¬ nI (F q 0) = (5 : Int32) from fun e => h5 ((nI_eq (by omega) (by omega)).mp (show nI (F q 0) = nI 5 from e))), show g_last F q w 0 = false from decide_eq_false (fun h => h5 h.2.2)]
  · rw [if_neg (fun e => hv0 ((pp_16 q hq v hv).mp e)), show g_last F q w v = false from decide_eq_false (fun h => hv0 h.1)]
theorem r_carryNo {s before : Nat → Int32} {known : Int32} {F : Nat → Nat → Nat} {q w v ph : Nat} (hph : ph < 4) (h37 : s 37 = nI ph) (hq : q < 2) (hw : w < 18) (h0 : RH s 0 (F 0)) (h1 : RH s 1 (F 1)) (ho : g_ok (F q, F (1 - q))) (hno : ¬ (ph = 0 ∧ 0 < F q w ∧ g_free F q v = true ∧ g_last F q w v = false)) : mX10_carry_91 (nI q) (pl q w) (pl q v) (g_last F q w v) (!(g_free F q v)) s before known 0 = some (0, s, before, known, 2) := by
  have hle : F q w ≤ 6 := b_ok_le ho.1 hw
  have e122 : mX10_carry_122 (nI q) (pl q w) (pl q v) s before known 0 = some (0, s, before, known, 2) := rfl
  unfold mX10_carry_91
  rw [k_bd_some (r_atw hq hw (RH_q hq h0 h1)), e122]
  by_cases hf : F q w = 0
  · rw [hf, if_pos (show nI 0 = (0 : Int32) from nI_0)]
  rw [if_neg (show ¬ nI (F q w) = (0 : Int32) from nI_ne0 (by omega) (by omega))]
  cases hfr : g_free F q v
  · rw [if_neg (by decide)]
  rw [if_pos (by decide)]
  cases hl : g_last F q w v
  · rw [if_pos (by decide), if_neg (show ¬ s 37 = (0 : Int32) from fun e => hno ⟨(nI_phs hph 0 (by omega)).mp (h37.symm.trans e), by omega, hfr, hl⟩)]
  · rw [if_neg (by decide)]
theorem r_carryYes {s before : Nat → Int32} {known : Int32} {F : Nat → Nat → Nat} {q w v : Nat} {b' : Nat → Int32} {k' : Int32} (h37 : s 37 = nI 0) (hq : q < 2) (hw : w < 18) (hv : v < 18) (h0 : RH s 0 (F 0)) (h1 : RH s 1 (F 1)) (ho : g_ok (F q, F (1 - q))) (hf : 0 < F q w) (hs : mX10_save s before known = some (b', k')) : ∃ s', mX10_carry_91 (nI q) (pl q w) (pl q v) false (!true) s before known 0 = some (nI (g_pip (b_mv (F q) w v)), s', b', k', 0) ∧ RH s' q (b_mv (F q) w v) ∧ RH s' (1 - q) (F (1 - q)) ∧ ∀ k, 36 ≤ k → s' k = s k := by
  have hle : F q w ≤ 6 := b_ok_le ho.1 hw
  have hr := RH_q hq h0 h1
  have hr1 := RH_q (show 1 - q < 2 by omega) h0 h1
  have d1 := RH_dec hq hw hr hf
  have d2 := RH_inc hq hv d1
  have d3 : RH (upd (upd s (ix q w) (s (ix q w) + -nI 1)) (ix q v) ((upd s (ix q w) (s (ix q w) + -nI 1)) (ix q v) + nI 1)) q (b_mv (F q) w v) := d2
  refine ⟨upd (upd s (ix q w) (s (ix q w) + -nI 1)) (ix q v) ((upd s (ix q w) (s (ix q w) + -nI 1)) (ix q v) + nI 1), ?_, d3, RH_oth hq hv (RH_oth hq hw hr1), fun k hk => by rw [RH_hi hq hv hk, RH_hi hq hw hk]⟩
  unfold mX10_carry_91
  rw [k_bd_some (r_atw hq hw hr), if_neg (show ¬ nI (F q w) = (0 : Int32) from nI_ne0 hf (by omega)), if_pos (by decide), if_pos (by decide), if_pos (show s 37 = (0 : Int32) from h37.trans nI_0), k_bd2_some hs]
  rw [k_bd_some (show mX10_grow s (nI q) (pl q w) (-1) = some (upd s (ix q w) (s (ix q w) + -nI 1)) from r_grow hq hw), k_bd_some (show mX10_grow (upd s (ix q w) (s (ix q w) + -nI 1)) (nI q) (pl q v) 1 = some (upd (upd s (ix q w) (s (ix q w) + -nI 1)) (ix q v) ((upd s (ix q w) (s (ix q w) + -nI 1)) (ix q v) + nI 1)) from r_grow hq hv), k_bd_some (r_pip hq d3)]
