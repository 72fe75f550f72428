/-! the looks, as the law holds them against each other -/
section QK
variable {x : XT} {p : Nat} {F : Nat → Nat → Nat} {ds : List Nat} {ph : Nat}
theorem q_lead (h : RX x p F ds ph) : XR_lead x = some (if g_pip (F (1 - p)) + g_pip (F p) = 0 then 4602678819172646912 else l_q (g_pip (F (1 - p))) (g_pip (F p))) := by
  have hok := RX_ok h
  have h1 := RX_mine h
  have h2 := RX_others h
  have b1 : g_pip (F p) < 103 := pip_le hok.1
  have b2 : g_pip (F (1 - p)) < 103 := pip_le hok.2.1
  have e1 := c_pip (f := F p) hok.1
  have e2 := c_pip (f := F (1 - p)) hok.2.1
  generalize g_pip (F p) = a at b1 e1 ⊢
  generalize g_pip (F (1 - p)) = b at b2 e2 ⊢
  have hc : XR_lead x = if nI a + nI b = 0 then some 4602678819172646912 else k_gn (k_nn (FP.ddiv (FP.i2d (nI b)) (FP.i2d (nI a + nI b)))) (some (FP.ddiv (FP.i2d (nI b)) (FP.i2d (nI a + nI b)))) := by
    unfold XR_lead mX9_lead mX9_shareOfMover
    rw [k_bd_some h1, k_bd_some e1, k_bd_some h2, k_bd_some e2]
    split
    · rfl
    · unfold k_gn
      split
      · rfl
      · rfl
  rw [nI_add, Nat.add_comm a b] at hc
  rw [hc]
  by_cases h0 : b + a = 0
  · rw [h0, if_pos nI_0, if_pos rfl]
  · have hs := (l_sp b2 b1 (by omega)).1
    rw [if_neg (show ¬ nI (b + a) = (0 : Int32) from nI_ne0 (by omega) (by omega)), if_neg h0]
    exact gn_t hs
theorem a_230 (h : RX x p F ds ph) {v : Int32} {l6 l7 : Int32} (e6 : l6 = nI (g_pip (F (1 - p)) + g_pip (F p))) (e7 : l7 = nI (g_pip (F (1 - p)))) : mL_areLooksSo_230 x v true l6 l7 = some true := by
  have hok := RX_ok h
  have b1 : g_pip (F p) < 103 := pip_le hok.1
  have b2 : g_pip (F (1 - p)) < 103 := pip_le hok.2.1
  have el := q_lead h
  subst e6 e7
  generalize g_pip (F p) = a at b1 el ⊢
  generalize g_pip (F (1 - p)) = b at b2 el ⊢
  unfold mL_areLooksSo_230
  rw [if_neg (by decide)]
  by_cases h0 : b + a = 0
  · rw [h0, if_pos rfl] at el
    rw [h0, if_pos nI_0, k_bd_some el, gn_t l_half.1, if_pos l_half.2]
  · rw [if_neg h0] at el
    obtain ⟨-, s2, s3, s4⟩ := l_sp b2 b1 (by omega)
    rw [if_neg (show ¬ nI (b + a) = (0 : Int32) from nI_ne0 (by omega) (by omega)), k_bd_some el,
      show FP.dmul (l_q b a) (FP.i2d (nI (b + a))) = l_m b a from rfl, gn_t s2, if_neg s3, k_bd_some el,
      show FP.dmul (l_q b a) (FP.i2d (nI (b + a))) = l_m b a from rfl, gn_t s2, if_neg s4]
theorem a_195 (h : RX x p F ds ph) {v : Int32} {t : Bool} {l6 l7 : Int32} (et : t = decide (g_R ds (x_P p F) = 0)) (e6 : l6 = nI (g_pip (F (1 - p)) + g_pip (F p))) (e7 : l7 = nI (g_pip (F (1 - p)))) : mL_areLooksSo_195 x v t l6 l7 = some true := by
  have hRl : g_R ds (x_P p F) ≤ ds.length := g_R_le
  have hdl := d_len ds (RX_ds h)
  have hph := RX_ph h
  have h230 := a_230 (v := v) h e6 e7
  have h207 : mL_areLooksSo_207 x v t t l6 l7 = some true := by
    unfold mL_areLooksSo_207
    rw [if_pos rfl, k_bd_some (q_phase h)]
    by_cases c : ph = 1
    · rw [if_pos (show nI ph = (1 : Int32) by rw [c]; exact kn_1.symm)]; exact h230
    · rw [if_neg (show ¬ nI ph = (1 : Int32) from fun e => c ((nI_phs hph 1 (by omega)).mp e)), k_bd_some (q_diceLeft h), RX_dn h c, if_pos (show nI ([] : List Nat).length = 0 from nI_0)]
      exact h230
  unfold mL_areLooksSo_195
  rw [k_bd_some (q_reach h)]
  by_cases c : g_R ds (x_P p F) = 0
  · rw [decide_eq_true c] at et
    subst et
    rw [if_pos (show nI (g_R ds (x_P p F)) = 0 by rw [c]; exact nI_0)]
    exact h207
  · rw [decide_eq_false c] at et
    subst et
    rw [if_neg (show ¬ nI (g_R ds (x_P p F)) = 0 from nI_ne0 (by omega) (by omega))]
    exact h207
def k_c0 (ds : List Nat) (P : GP) (p k : Nat) : Nat := g_c0 ds P (f_dd k) (f_ww p k)
theorem g_sum_app (K : Nat → Nat) : ∀ (m n a : Nat), g_sum K a (m + n) = g_sum K a m + g_sum K (a + m) n
  | 0, n, a => by rw [Nat.zero_add, Nat.add_zero]; exact (Nat.zero_add _).symm
  | m + 1, n, a => by
    rw [show m + 1 + n = (m + n) + 1 by omega]
    show K a + g_sum K (a + 1) (m + n) = K a + g_sum K (a + 1) m + g_sum K (a + (m + 1)) n
    rw [g_sum_app K m n (a + 1), show a + 1 + m = a + (m + 1) by omega, Nat.add_assoc]
theorem g_sum_at (K : Nat → Nat) : ∀ (n a b : Nat), g_sum K (a + b) n = g_sum (fun i => K (a + i)) b n
  | 0, _, _ => rfl
  | n + 1, a, b => by
    show K (a + b) + g_sum K (a + b + 1) n = K (a + b) + g_sum (fun i => K (a + i)) (b + 1) n
    rw [← g_sum_at K n a (b + 1)]; rfl
def k_r (ds : List Nat) (P : GP) (d : Nat) : Nat := g_sum (fun w => g_c0 ds P d w) 1 17
theorem g_sum6 (K : Nat → Nat) : g_sum K 1 6 = K 1 + (K 2 + (K 3 + (K 4 + (K 5 + K 6)))) := rfl
theorem k_row {ds : List Nat} {P : GP} {p d : Nat} (hp : p < 2) : g_sum (k_c0 ds P p) (17 * d) 17 = k_r ds P (d + 1) := by
  show g_sum (k_c0 ds P p) (17 * d) 17 = g_sum (fun w => g_c0 ds P (d + 1) w) 1 17
  rw [show 17 * d = 17 * d + 0 from rfl, g_sum_at, ← g_sum_tr hp]
  refine g_sum_congr (fun i _ h => ?_)
  show g_c0 ds P (1 + (17 * d + i) / 17) (tr p ((17 * d + i) % 17)) = g_c0 ds P (d + 1) (tr p i)
  rw [show 1 + (17 * d + i) / 17 = d + 1 by omega, show (17 * d + i) % 17 = i by omega]
theorem k_all {ds : List Nat} {P : GP} {p : Nat} (hp : p < 2) (hds : ds ∈ d_all) : g_sum (k_c0 ds P p) 0 102 = g_poss ds P := by
  have h3 : g_poss ds P = g_sum (k_r ds P) 1 6 := (poss_sum hds).trans (g_sum_swap (fun w d => g_c0 ds P d w) 17 1 6 1)
  have r0 : g_sum (k_c0 ds P p) 0 17 = k_r ds P 1 := k_row (d := 0) hp
  have r1 : g_sum (k_c0 ds P p) 17 17 = k_r ds P 2 := k_row (d := 1) hp
  have r2 : g_sum (k_c0 ds P p) 34 17 = k_r ds P 3 := k_row (d := 2) hp
  have r3 : g_sum (k_c0 ds P p) 51 17 = k_r ds P 4 := k_row (d := 3) hp
  have r4 : g_sum (k_c0 ds P p) 68 17 = k_r ds P 5 := k_row (d := 4) hp
  have r5 : g_sum (k_c0 ds P p) 85 17 = k_r ds P 6 := k_row (d := 5) hp
  have a0 : g_sum (k_c0 ds P p) 0 102 = g_sum (k_c0 ds P p) 0 17 + g_sum (k_c0 ds P p) 17 85 := g_sum_app _ 17 85 0
  have a1 : g_sum (k_c0 ds P p) 17 85 = g_sum (k_c0 ds P p) 17 17 + g_sum (k_c0 ds P p) 34 68 := g_sum_app _ 17 68 17
  have a2 : g_sum (k_c0 ds P p) 34 68 = g_sum (k_c0 ds P p) 34 17 + g_sum (k_c0 ds P p) 51 51 := g_sum_app _ 17 51 34
  have a3 : g_sum (k_c0 ds P p) 51 51 = g_sum (k_c0 ds P p) 51 17 + g_sum (k_c0 ds P p) 68 34 := g_sum_app _ 17 34 51
  have a4 : g_sum (k_c0 ds P p) 68 34 = g_sum (k_c0 ds P p) 68 17 + g_sum (k_c0 ds P p) 85 17 := g_sum_app _ 17 17 68
  rw [h3, g_sum6, a0, a1, a2, a3, a4, r0, r1, r2, r3, r4, r5]
theorem g_poss_le {ds : List Nat} {P : GP} (hds : ds ∈ d_all) : g_poss ds P ≤ 102 := by
  rw [← k_all (p := 0) (by omega) hds]
  exact g_sum_le (fun i _ _ => by unfold k_c0 g_c0; split <;> omega)
theorem a_102 (h : RX x p F ds ph) {v : Int32} : ∀ (m i fu c : Nat), i + m = 102 → m < fu → c + g_sum (k_c0 ds (x_P p F) p) i m = g_poss ds (x_P p F) → k_fix (fun _ _ _ => none) (mL_areLooksSo_102 x v) fu true (nI c) (nI i) = some true := by
  intro m
  induction m with
  | zero =>
    intro i fu c hi hfu hc
    obtain rfl : i = 102 := by omega
    have hc : c + 0 = g_poss ds (x_P p F) := hc
    obtain rfl : c = g_poss ds (x_P p F) := by omega
    have hp := RX_p h
    have hpl := g_poss_le (P := x_P p F) (RX_ds h)
    have h0 := poss_0 (P := x_P p F) (RX_ds h)
    have ep0 : XR_pips x 0 = some (nI (g_pip (F 0))) := q_pips h (q := 0) (by omega)
    have ep1 : XR_pips x 1 = some (nI (g_pip (F 1))) := q_pips h (q := 1) (by omega)
    have eo : XR_pips x (1 - nI p) = some (nI (g_pip (F (1 - p)))) := by rw [show (1 : Int32) - nI p = nI (1 - p) from r_1p hp]; exact q_pips h (by omega)
    have es : nI (g_pip (F 0)) + nI (g_pip (F 1)) = nI (g_pip (F (1 - p)) + g_pip (F p)) := by
      rw [nI_add]
      rcases (show p = 0 ∨ p = 1 by omega) with rfl | rfl
      · rw [Nat.add_comm]
      · rfl
    rw [k_fix1 hfu, mL_areLooksSo_102, if_pos (by decide), k_bd_some ep0, k_bd_some ep1, k_bd_some (q_mover h), k_bd_some eo, if_neg (by decide), k_bd_some (q_possible h), if_pos rfl]
    by_cases c : g_poss ds (x_P p F) = 0
    · rw [if_pos (show nI (g_poss ds (x_P p F)) = 0 by rw [c]; exact nI_0)]
      exact a_195 h (decide_eq_true (h0.mp c)).symm es rfl
    · rw [if_neg (show ¬ nI (g_poss ds (x_P p F)) = 0 from nI_ne0 (by omega) (by omega))]
      exact a_195 h (decide_eq_false (fun q => c (h0.mpr q))).symm es rfl
  | succ m ih =>
    intro i fu c hi hfu hc
    have hc : c + (k_c0 ds (x_P p F) p i + g_sum (k_c0 ds (x_P p F) p) (i + 1) m) = g_poss ds (x_P p F) := hc
    rw [k_fix1 (by omega), mL_areLooksSo_102, if_neg (show ¬ (102 : Int32) ≤ nI i from nI_ge (a := i) (b := 102) (by omega) (by omega)), k_bd_some (q_why' h (show i < 102 by omega)), show nI i + 1 = nI (i + 1) from nI_1 i]
    by_cases c1 : g_re ds (x_P p F) (f_dd i) (f_ww p i) = 0
    · have e1 : k_c0 ds (x_P p F) p i = 1 := if_pos c1
      rw [if_pos (by rw [c1]; exact nI_0), show nI c + 1 = nI (c + 1) from nI_1 c]
      exact ih (i + 1) _ _ (by omega) (by omega) (by omega)
    · have e1 : k_c0 ds (x_P p F) p i = 0 := if_neg c1
      rw [if_neg (re_ne c1), show nI c + 0 = nI c from k_ad0 (nI c)]
      exact ih (i + 1) _ _ (by omega) (by omega) (by omega)
theorem g_sum_leB {K : Nat → Nat} {B : Nat} : ∀ {n a : Nat}, (∀ i, a ≤ i → i < a + n → K i ≤ B) → g_sum K a n ≤ n * B
  | 0, _, _ => Nat.zero_le _
  | n + 1, a, h => by
    have h1 := h a (by omega) (by omega)
    have h2 := g_sum_leB (K := K) (B := B) (n := n) (a := a + 1) (fun i q1 q2 => h i (by omega) (by omega))
    show K a + g_sum K (a + 1) n ≤ (n + 1) * B
    rw [Nat.succ_mul]; omega
theorem sh_36 {P : GP} {t : Nat} : g_shots P t ≤ 36 := by
  rw [← c_rolls_eq]
  exact g_sum_leB (B := 6) (n := 6) (fun a _ _ => g_sum_le (fun b _ _ => by unfold c_h1; split <;> omega))
theorem t_looks {x : XT} (h : x_inv x) {y : Nat} (hy : y < 16) : mL_areLooksSo x (nI y) = some true := by
  obtain ⟨p, F, ds, ph, h, -⟩ := h
  have hp := RX_p h
  obtain ⟨N, hN⟩ := n_all (P := x_P p F) (RX_ds h) (RX_ok h)
  obtain ⟨eN1, eN2⟩ := q_plays h hN.1
  have hN1 := hN.2.1
  have hN2 := hN.2.2.1
  have hRl : g_R ds (x_P p F) ≤ ds.length := g_R_le
  have hdl := d_len ds (RX_ds h)
  have h94 : mL_areLooksSo_94 x (nI y) true = some true := by
    have e := a_102 h (v := nI y) 102 0 k_F 0 (by omega) (by decide) (by rw [Nat.zero_add]; exact k_all hp (RX_ds h))
    rw [nI_0] at e
    unfold mL_areLooksSo_94
    exact e
  have h56 : mL_areLooksSo_56 x (nI y) = some true := by
    unfold mL_areLooksSo_56
    rw [k_bd_some eN2, k_bd_some eN1, if_pos rfl, k_bd_some eN1, if_neg (nI_nle (by omega) (by omega)), k_bd_some (q_reach h)]
    by_cases c : g_R ds (x_P p F) = 0
    · rw [if_neg (show ¬ (0 : Int32) < nI (g_R ds (x_P p F)) by rw [c]; decide), k_bd_some eN1, if_pos (show nI N = 1 by rw [hN.2.2.2 c]; exact kn_1.symm)]
      exact h94
    · rw [if_pos (show (0 : Int32) < nI (g_R ds (x_P p F)) from nI_lt (a := 0) (by omega) (by omega))]
      exact h94
  have hsh : g_sh F y ≤ 36 := by
    unfold g_sh
    split
    · exact sh_36
    · split
      · exact sh_36
      · exact Nat.zero_le _
  have h28 : ∀ t : Bool, (t = false → g_sh F y = 0) → mL_areLooksSo_28 x (nI y) t (nI (g_sh F y)) = some true := by
    intro t ht
    unfold mL_areLooksSo_28
    rw [k_bd_some (q_shots h hy).2, if_pos rfl, if_neg (nI_pos (by omega)), if_neg (show ¬ (36 : Int32) < nI (g_sh F y) from nI_nlt (b := g_sh F y) (a := 36) hsh (by omega))]
    cases t
    · rw [if_pos (by decide), if_pos (show nI (g_sh F y) = 0 by rw [ht rfl]; exact nI_0)]
      exact h56
    · rw [if_neg (by decide)]
      exact h56
  have e0 : XR_piecesOn x 0 (nI y) = some (nI (F 0 (pw 0 y))) := q_piecesOn h (q := 0) (by omega) hy
  have e1 : XR_piecesOn x 1 (nI y) = some (nI (F 1 (pw 1 y))) := q_piecesOn h (q := 1) (by omega) hy
  have hpw := pw_r 0 (by omega) y hy
  have hfr := RX_free h (q := 0) (w := pw 0 y) (by omega) hpw.1 hpw.2.1
  rw [hpw.2.2] at hfr
  have hfr : F 0 (pw 0 y) = 0 ∨ F 1 (pw 1 y) = 0 := hfr
  have l0 : F 0 (pw 0 y) ≤ 6 := b_ok_le (RX_b h (q := 0) (by omega)) (by omega)
  have l1 : F 1 (pw 1 y) ≤ 6 := b_ok_le (RX_b h (q := 1) (by omega)) (by have := pw_r 1 (by omega) y hy; omega)
  unfold mL_areLooksSo
  rw [k_bd_some (q_shots h hy).1, k_bd_some e0, k_bd_some e1, nI_add]
  by_cases c : F 0 (pw 0 y) + F 1 (pw 1 y) = 1
  · rw [if_pos (show nI (F 0 (pw 0 y) + F 1 (pw 1 y)) = 1 by rw [c]; exact kn_1.symm)]
    exact h28 true (fun q => by cases q)
  · rw [if_neg (show ¬ nI (F 0 (pw 0 y) + F 1 (pw 1 y)) = 1 from fun e => c ((nI_eq (b := 1) (by omega) (by omega)).mp e))]
    refine h28 false (fun _ => ?_)
    unfold g_sh
    rw [if_neg (by omega), if_neg (by omega)]
end QK
