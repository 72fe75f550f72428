/-! a step, as the law asks for it -/
theorem g_sum_mv {c : Nat → Nat} {f : Nat → Nat} {w v : Nat} : ∀ (n a : Nat), g_sum (fun i => c i * (f i - (if i = w then 1 else 0) + (if i = v then 1 else 0))) a n + (if a ≤ w ∧ w < a + n ∧ 0 < f w then c w else 0) = g_sum (fun i => c i * f i) a n + (if a ≤ v ∧ v < a + n then c v else 0)
  | 0, a => by
    rw [if_neg (by omega), if_neg (by omega)]; rfl
  | n + 1, a => by
    have ih := g_sum_mv (c := c) (f := f) (w := w) (v := v) n (a + 1)
    show c a * (f a - (if a = w then 1 else 0) + (if a = v then 1 else 0)) + g_sum _ (a + 1) n + _ = c a * f a + g_sum _ (a + 1) n + _
    have e1 : c a * (f a - (if a = w then 1 else 0) + (if a = v then 1 else 0)) + (if a = w ∧ 0 < f w then c w else 0) = c a * f a + (if a = v then c v else 0) := by
      by_cases hw : a = w
      · subst hw
        by_cases hf : 0 < f a
        · rw [if_pos (show a = a from rfl), if_pos (show a = a ∧ 0 < f a from ⟨rfl, hf⟩)]
          by_cases hv : a = v
          · subst hv
            rw [if_pos (show a = a from rfl), if_pos (show a = a from rfl), show f a - 1 + 1 = f a by omega]
          · rw [if_neg hv, if_neg hv, Nat.add_zero, Nat.add_zero]
            have : c a * (f a - 1) + c a * 1 = c a * f a := by rw [← Nat.mul_add, show f a - 1 + 1 = f a by omega]
            omega
        · rw [if_pos (show a = a from rfl), if_neg (show ¬ (a = a ∧ 0 < f a) from fun q => hf q.2)]
          have hz : f a = 0 := by omega
          rw [hz]
          by_cases hv : a = v
          · subst hv; rw [if_pos (show a = a from rfl), if_pos (show a = a from rfl)]; omega
          · rw [if_neg hv, if_neg hv]
      · rw [if_neg hw, if_neg (show ¬ (a = w ∧ 0 < f w) from fun q => hw q.1), Nat.sub_zero, Nat.add_zero]
        by_cases hv : a = v
        · subst hv; rw [if_pos (show a = a from rfl), if_pos (show a = a from rfl), Nat.mul_add, Nat.mul_one]
        · rw [if_neg hv, if_neg hv, Nat.add_zero, Nat.add_zero]
    have e2 : (if a ≤ w ∧ w < a + (n + 1) ∧ 0 < f w then c w else 0) = (if a = w ∧ 0 < f w then c w else 0) + (if a + 1 ≤ w ∧ w < a + 1 + n ∧ 0 < f w then c w else 0) := by
      by_cases h1 : a = w
      · by_cases h2 : 0 < f w
        · rw [if_pos (by omega), if_pos ⟨h1, h2⟩, if_neg (by omega)]; rfl
        · rw [if_neg (by omega), if_neg (by omega), if_neg (by omega)]
      · by_cases h2 : a + 1 ≤ w ∧ w < a + 1 + n ∧ 0 < f w
        · rw [if_pos (by omega), if_neg (by omega), if_pos h2]; omega
        · rw [if_neg (by omega), if_neg (by omega), if_neg h2]
    have e3 : (if a ≤ v ∧ v < a + (n + 1) then c v else 0) = (if a = v then c v else 0) + (if a + 1 ≤ v ∧ v < a + 1 + n then c v else 0) := by
      by_cases h1 : a = v
      · rw [if_pos (by omega), if_pos h1, if_neg (by omega)]; rfl
      · by_cases h2 : a + 1 ≤ v ∧ v < a + 1 + n
        · rw [if_pos (by omega), if_neg h1, if_pos h2]; omega
        · rw [if_neg (by omega), if_neg h1, if_neg h2]
    rw [e2, e3]
    generalize g_sum (fun i => c i * (f i - (if i = w then 1 else 0) + (if i = v then 1 else 0))) (a + 1) n = s1 at ih ⊢
    generalize g_sum (fun i => c i * f i) (a + 1) n = s2 at ih ⊢
    generalize c a * (f a - (if a = w then 1 else 0) + (if a = v then 1 else 0)) = t1 at e1 ⊢
    generalize c a * f a = t2 at e1 ⊢
    generalize (if a = w ∧ 0 < f w then c w else 0) = t3 at e1 ⊢
    generalize (if a = v then c v else 0) = t4 at e1 ⊢
    generalize (if a + 1 ≤ w ∧ w < a + 1 + n ∧ 0 < f w then c w else 0) = t5 at ih ⊢
    generalize (if a + 1 ≤ v ∧ v < a + 1 + n then c v else 0) = t6 at ih ⊢
    omega
theorem pip_mv {f : Nat → Nat} {w v : Nat} (hw1 : 1 ≤ w) (hw : w ≤ 17) (hv : v ≤ 17) (hf : 0 < f w) : g_pip (b_mv f w v) + w = g_pip f + v := by
  have h := g_sum_mv (c := fun i => i) (f := f) (w := w) (v := v) 17 1
  rw [if_pos (show 1 ≤ w ∧ w < 1 + 17 ∧ 0 < f w by omega)] at h
  have h2 : (if 1 ≤ v ∧ v < 1 + 17 then v else 0) = v := by
    by_cases c : v = 0
    · subst c; rfl
    · rw [if_pos (by omega)]
  rw [show (if 1 ≤ v ∧ v < 1 + 17 then (fun i => i) v else 0) = v from h2] at h
  exact h
theorem pip_6 {f : Nat → Nat} (h : b_ok f) (h6 : f 0 = 6) : g_pip f = 0 := by
  have hz := b_ab_false.mp ((b_off h).mpr h6)
  refine g_sum_z0 (fun i h1 h2 => ?_)
  show i * f i = 0
  rw [hz i (by omega) (by omega), Nat.mul_zero]
section QT
variable {x x' : XT} {p : Nat} {F F' : Nat → Nat → Nat} {ds ds' : List Nat} {ph : Nat}
theorem t_332 {v to dl R bl : Int32} {hit : Bool} (hcase : (RX x' p F' [] 3 ∧ F' p 0 = 6) ∨ (RX x' p F' ds' 1 ∧ bl = nI (g_blot (F' p)) ∧ nI ds'.length = dl - 1 ∧ nI (g_R ds' (x_P p F')) = R - 1 ∧ (to = 16 ∨ hit = false ∨ ∃ u, 1 ≤ u ∧ u ≤ 16 ∧ to = pl p u ∧ F' p u = 1))) : mL_isStepped_332 v true (nI p) to hit dl R bl x' = some (true, x') := by
  unfold mL_isStepped_332
  rcases hcase with ⟨h, h6⟩ | ⟨h, rfl, e1, e2, e3⟩
  · have hp := RX_p h
    have e1 : nI (F' p 0) = 6 := by rw [h6]; exact kn_6.symm
    have e2 : nI (g_pip (F' p)) = 0 := by rw [pip_6 (RX_b h hp) h6]; exact nI_0
    rw [k_bd_some (q_phase h), if_pos (show nI 3 = (3 : Int32) from kn_3.symm), if_neg (by decide), k_bd_some (q_borneOff h hp), if_pos e1, k_bd_some (q_diceLeft h), if_pos (show nI ([] : List Nat).length = 0 from nI_0), k_bd_some (q_pips h hp), if_pos e2]
  · have hp := RX_p h
    rw [k_bd_some (q_phase h), if_neg (show ¬ nI 1 = (3 : Int32) by decide), if_neg (by decide), k_bd_some (q_phase h), if_pos (show nI 1 = (1 : Int32) from kn_1.symm), k_bd_some (q_blots h hp), if_pos rfl, k_bd_some (q_diceLeft h), if_pos e1, k_bd_some (q_reach h), if_pos e2]
    rcases e3 with rfl | rfl | ⟨u, u1, u2, rfl, u4⟩
    · rw [if_pos rfl]
    · by_cases c : to = 16
      · rw [if_pos c]
      · rw [if_neg c, if_pos (by decide)]
    · rw [if_neg (fun q => by have := ((pl_16 p hp u (by omega)).2.mp q); omega)]
      cases hit
      · rw [if_pos (by decide)]
      · rw [if_neg (by decide), k_bd_some (q_piecesW h hp u1 u2), u4, if_pos (show nI 1 = (1 : Int32) from kn_1.symm)]
theorem t_293 {v to dl R bl l4 l14 t1 t2 : Int32} {hit t0 : Bool} {w : Nat} (h : RX x' p F' ds' ph) (hw1 : 1 ≤ w) (hw : w ≤ 17) (e0 : t2 = t1 + k_b t0) (e1 : to = 16 → nI (g_pip (F' p)) = l14 - nI w) (e2 : ¬ to = 16 → nI (g_pip (F' p)) = l14 - l4) (hend : mL_isStepped_332 v true (nI p) to hit dl R bl x' = some (true, x')) : mL_isStepped_293 v t0 t1 t2 (pl p w) l4 (nI p) to hit dl R bl l14 x' = some (true, x') := by
  have hp := RX_p h
  unfold mL_isStepped_293 mL_isStepped_323
  rw [if_pos e0, k_bd_some (q_pips h hp)]
  by_cases c : to = 16
  · rw [if_pos c, k_bd_some (l_way p hp w (by omega) hw1), if_pos (e1 c)]; exact hend
  · rw [if_neg c, if_pos (e2 c)]; exact hend
theorem t_269 {v to dl R bl l4 l12 l14 t1 t2 : Int32} {hit t0 : Bool} {w : Nat} (h : RX x' p F' ds' ph) (hw1 : 1 ≤ w) (hw : w ≤ 17) (e0 : t2 = t1 + k_b t0) (e00 : to = 16 → nI (F' p 0) = l12 + k_b true) (e01 : ¬ to = 16 → nI (F' p 0) = l12 + k_b false) (e1 : to = 16 → nI (g_pip (F' p)) = l14 - nI w) (e2 : ¬ to = 16 → nI (g_pip (F' p)) = l14 - l4) (hend : mL_isStepped_332 v true (nI p) to hit dl R bl x' = some (true, x')) : mL_isStepped_269 v t0 t1 t2 (pl p w) l4 (nI p) to hit dl R l12 bl l14 x' = some (true, x') := by
  have hp := RX_p h
  unfold mL_isStepped_269
  rw [if_pos e0, k_bd_some (q_borneOff h hp)]
  by_cases c : to = 16
  · rw [if_pos c]; exact t_293 h hw1 hw (e00 c) e1 e2 hend
  · rw [if_neg c]; exact t_293 h hw1 hw (e01 c) e1 e2 hend
theorem t_245 {v to dl R bl l4 l11 l12 l14 t1 t2 : Int32} {hit t0 : Bool} {w : Nat} (h : RX x' p F' ds' ph) (hw1 : 1 ≤ w) (hw : w ≤ 17) (e0 : t2 = t1 + k_b t0) (eb : nI (F' (1 - p) 17) = l11 + k_b hit) (e00 : to = 16 → nI (F' p 0) = l12 + k_b true) (e01 : ¬ to = 16 → nI (F' p 0) = l12 + k_b false) (e1 : to = 16 → nI (g_pip (F' p)) = l14 - nI w) (e2 : ¬ to = 16 → nI (g_pip (F' p)) = l14 - l4) (hend : mL_isStepped_332 v true (nI p) to hit dl R bl x' = some (true, x')) : mL_isStepped_245 v t0 t1 t2 (pl p w) l4 (nI p) to hit dl R l11 l12 bl l14 x' = some (true, x') := by
  have hp := RX_p h
  have hp1 : 1 - p < 2 := by omega
  have eo : XR_onBar x' (1 - nI p) = some (nI (F' (1 - p) 17)) := by rw [show (1 : Int32) - nI p = nI (1 - p) from r_1p hp]; exact q_onBar h hp1
  unfold mL_isStepped_245
  rw [if_pos e0, k_bd_some eo]
  cases hit
  · rw [if_pos (by decide)]; exact t_269 h hw1 hw eb e00 e01 e1 e2 hend
  · rw [if_neg (by decide)]; exact t_269 h hw1 hw eb e00 e01 e1 e2 hend
theorem t_206 {v to dl R bl l10 l11 l12 l14 : Int32} {hit : Bool} {w d : Nat} (h : RX x' p F' ds' ph) (hw1 : 1 ≤ w) (hw : w ≤ 17) (es : XN_step x (pl p w) (nI d) = some (hit, x')) (eh : x_hits (x_g x') (1 - p) = l10 + k_b hit) (eb : nI (F' (1 - p) 17) = l11 + k_b hit) (e00 : to = 16 → nI (F' p 0) = l12 + k_b true) (e01 : ¬ to = 16 → nI (F' p 0) = l12 + k_b false) (e1 : to = 16 → nI (g_pip (F' p)) = l14 - nI w) (e2 : ¬ to = 16 → nI (g_pip (F' p)) = l14 - nI d) (hend : mL_isStepped_332 v true (nI p) to hit dl R bl x' = some (true, x')) : mL_isStepped_206 v true (pl p w) (nI d) (nI p) to hit dl R l10 l11 l12 bl l14 x = some (true, x') := by
  have hp := RX_p h
  have hp1 : 1 - p < 2 := by omega
  have eo : XR_hits x' (1 - nI p) = some (x_hits (x_g x') (1 - p)) := by rw [show (1 : Int32) - nI p = nI (1 - p) from r_1p hp]; exact q_hits hp1
  unfold mL_isStepped_206
  rw [if_neg (by decide), k_bd2_some es, if_pos rfl, k_bd_some eo]
  cases hit
  · rw [if_pos (by decide)]; exact t_245 h hw1 hw eh eb e00 e01 e1 e2 hend
  · rw [if_neg (by decide)]; exact t_245 h hw1 hw eh eb e00 e01 e1 e2 hend
theorem t_175 {v dl bl l10 l11 l12 l14 : Int32} {hit : Bool} {w d n : Nat} (h : RX x p F ds ph) (hw1 : 1 ≤ w) (hw : w ≤ 17) (hA : g_A (x_P p F) d w) (hd1 : 1 ≤ d) (hn0 : 0 < n) (hn : n < 100) (hend : mL_isStepped_206 v true (pl p w) (nI d) (nI p) (pl p (w - d)) hit dl (nI n) l10 l11 l12 bl l14 x = some (true, x')) : mL_isStepped_175 v (pl p w) (nI d) (nI p) (pl p (w - d)) hit dl (nI n) l10 l11 l12 bl l14 x = some (true, x') := by
  have hp := RX_p h
  unfold mL_isStepped_175
  rw [if_neg (show ¬ nI n ≤ (0 : Int32) from nI_nle hn0 (by omega))]
  have h16 := pl_16 p hp (w - d) (by omega)
  by_cases c : w - d = 0
  · rw [if_pos (h16.2.mpr c)]; exact hend
  · have h3 : F (1 - p) (17 - (w - d)) ≤ 1 := (g_ban0.mp hA.2.2).2.2.1 (by omega)
    rw [if_neg (fun q => c (h16.2.mp q)), k_bd_some (q_piecesO h hp (by omega) (by omega)), if_neg (show ¬ (2 : Int32) ≤ nI (F (1 - p) (17 - (w - d))) from nI_ge (a := F (1 - p) (17 - (w - d))) (b := 2) (by omega) (by omega))]
    exact hend
theorem t_93 {v : Int32} {hit : Bool} {w d : Nat} (h : RX x p F ds ph) (hw1 : 1 ≤ w) (hw : w ≤ 17) (hd1 : 1 ≤ d) (hd : d < 7) (h0 : g_re ds (x_P p F) d w = 0) (hR : 0 < g_R ds (x_P p F)) (hend : mL_isStepped_206 v true (pl p w) (nI d) (nI p) (pl p (w - d)) hit (nI ds.length) (nI (g_R ds (x_P p F))) (x_hits (x_g x) (1 - p)) (nI (F (1 - p) 17)) (nI (F p 0)) (nI (g_blot (g_mv (F p) d w))) (nI (g_pip (F p))) x = some (true, x')) : mL_isStepped_93 v hit (pl p w) (nI d) (nI p) (pl p (w - d)) x = some (true, x') := by
  obtain ⟨-, hA⟩ := g_re_A hw1 hw h0
  have hp := RX_p h
  have hp1 : 1 - p < 2 := by omega
  have hm : (1 : Int32) - nI p = nI (1 - p) := r_1p hp
  have eh : XR_hits x (1 - nI p) = some (x_hits (x_g x) (1 - p)) := by rw [hm]; exact q_hits hp1
  have eb : XR_onBar x (1 - nI p) = some (nI (F (1 - p) 17)) := by rw [hm]; exact q_onBar h hp1
  have hb := g_ban0.mp hA.2.2
  have hle : F p w ≤ 6 := b_ok_le (RX_b h hp) (by omega)
  have hRl : g_R ds (x_P p F) ≤ ds.length := g_R_le
  have hdl := d_len ds (RX_ds h)
  have e175 := t_175 (x' := x') h hw1 hw hA hd1 hR (by omega) hend
  have hneg := (pl_neg p hp w (by omega) hw1).1
  unfold mL_isStepped_93
  rw [k_bd_some (q_diceLeft h), k_bd_some (q_reach h), k_bd_some eh, k_bd_some eb, k_bd_some (q_borneOff h hp), k_bd_some (q_blotsBehind h hd1 hd hw1 hw h0), k_bd_some (q_pips h hp), k_bd_some (q_pieces h hw1 hw), if_neg (show ¬ nI (F p w) ≤ (0 : Int32) from nI_nle hb.1 (by omega))]
  by_cases c : w = 17
  · rw [if_pos (hneg.mpr c)]; exact e175
  · have h17 : F p 17 = 0 := by
      rcases hb.2.1 with q | q
      · exact absurd q c
      · exact q
    rw [if_neg (fun q => c (hneg.mp q)), k_bd_some (q_onBar h hp), h17, if_pos nI_0]; exact e175
set_option maxHeartbeats 8000000 in
theorem t_stepped (h : RX x p F ds 1) (hR : 0 < g_R ds (x_P p F)) (v : Int32) : ∃ x' F' ds' ph', mL_isStepped x v = some (true, x') ∧ RX x' p F' ds' ph' ∧ ph' ≠ 2 := by
  have hp := RX_p h
  have hds := RX_ds h
  obtain ⟨l, el, hl⟩ := q_find h v
  rcases hl with ⟨-, hno⟩ | ⟨j, hj, rfl, h0⟩
  · obtain ⟨d, w, d1, w1, w2, d3⟩ := R_pos hds hR
    have hr := d_range ds hds d d1
    exact absurd d3 (hno d w hr.1 hr.2 w1 w2)
  · obtain ⟨d1, d2, w1, w2⟩ := f_bd hp hj
    have efrom := f_from hp hj
    have edie := f_die hj
    have hcc : f_cc j < 2 ^ 31 := by unfold f_cc; omega
    have hp0 : (0 : Int32) ≤ nI (f_cc j) := nI_le (a := 0) (Nat.zero_le _) hcc
    generalize f_dd j = d at d1 d2 edie h0
    generalize f_ww p j = w at w1 w2 efrom h0
    obtain ⟨hd, hA⟩ := g_re_A w1 w2 h0
    obtain ⟨x', F', es, qp, qo, qh, qc⟩ := q_step h hd w1 w2 h0
    have hstep := R_step hds w1 w2 h0
    have hb := g_ban0.mp hA.2.2
    have hpos : 0 < F p w := hb.1
    have hRX : ∃ ds' ph', RX x' p F' ds' ph' ∧ ph' ≠ 2 := by
      rcases qc with ⟨-, q⟩ | ⟨-, q⟩
      · exact ⟨_, _, q, by omega⟩
      · exact ⟨_, _, q, by omega⟩
    obtain ⟨ds', ph', hx', hph'⟩ := hRX
    refine ⟨x', F', ds', ph', ?_, hx', hph'⟩
    have hlen := d_erl ds hds d hd
    have h16 := pl_16 p hp (w - d) (by omega)
    obtain ⟨hit, ehit⟩ : ∃ hit, hit = g_hit (x_P p F) d w := ⟨_, rfl⟩
    rw [← ehit] at es qh
    have hF0 : F' p 0 = F p 0 + (if w - d = 0 then 1 else 0) := by
      rw [qp, g_mv_at, if_neg (show ¬ 0 = w by omega)]
      by_cases c : w - d = 0
      · rw [if_pos c.symm, if_pos c, Nat.sub_zero]
      · rw [if_neg (fun q => c q.symm), if_neg c, Nat.sub_zero]
    have hB : F' (1 - p) 17 = F (1 - p) 17 + (if hit = true then 1 else 0) := by
      rw [qo, ehit]
      unfold g_th g_hit
      by_cases c : d < w ∧ F (1 - p) (17 - (w - d)) = 1
      · rw [if_pos c, b_mv_at, if_neg (show ¬ 17 = 17 - (w - d) by omega), if_pos rfl, if_pos (decide_eq_true c), Nat.sub_zero]
      · rw [if_neg c, if_neg (fun q => c (of_decide_eq_true q)), Nat.add_zero]
    have hpip : g_pip (F' p) + w = g_pip (F p) + (w - d) := by rw [qp]; exact pip_mv w1 w2 (by omega) hpos
    have hpl : g_pip (F p) < 103 := pip_le (RX_b h hp)
    have hend : mL_isStepped_332 v true (nI p) (pl p (w - d)) hit (nI ds.length) (nI (g_R ds (x_P p F))) (nI (g_blot (g_mv (F p) d w))) x' = some (true, x') := by
      rcases qc with ⟨q1, q2⟩ | ⟨q1, q2⟩
      · exact t_332 (ds' := []) (Or.inl ⟨q2, q1⟩)
      · refine t_332 (ds' := ds.erase d) (Or.inr ⟨q2, by rw [qp], ?_, ?_, ?_⟩)
        · rw [show nI ds.length - 1 = nI (ds.length - 1) from pk_sub (b := 1) (by omega)]
          exact congrArg nI (by omega)
        · have e9 : g_R (ds.erase d) (x_P p F') = g_R ds (x_P p F) - 1 := by
            have e8 : x_P p F' = g_st (x_P p F) d w := by
              show (F' p, F' (1 - p)) = g_st (F p, F (1 - p)) d w
              rw [qp, qo]; rfl
            rw [e8]; omega
          rw [show nI (g_R ds (x_P p F)) - 1 = nI (g_R ds (x_P p F) - 1) from pk_sub (b := 1) (by omega), e9]
        · by_cases c : w - d = 0
          · exact Or.inl (h16.2.mpr c)
          · cases hh : hit
            · exact Or.inr (Or.inl rfl)
            · right; right
              rw [hh] at ehit
              have h1 : d < w ∧ F (1 - p) (17 - (w - d)) = 1 := of_decide_eq_true ehit.symm
              refine ⟨w - d, by omega, by omega, rfl, ?_⟩
              have h2 := RX_free h hp (w := w - d) (by omega) (by omega)
              rw [qp, g_mv_at, if_neg (show ¬ w - d = w by omega), if_pos rfl]
              omega
    have k1 : ∀ n : Nat, nI n + k_b true = nI (n + 1) := fun n => nI_1 n
    have h206 : mL_isStepped_206 v true (pl p w) (nI d) (nI p) (pl p (w - d)) hit (nI ds.length) (nI (g_R ds (x_P p F))) (x_hits (x_g x) (1 - p)) (nI (F (1 - p) 17)) (nI (F p 0)) (nI (g_blot (g_mv (F p) d w))) (nI (g_pip (F p))) x = some (true, x') := by
      refine t_206 hx' w1 w2 es qh ?_ ?_ ?_ ?_ ?_ hend
      · rw [hB]
        cases hit
        · rw [k_ad0, if_neg (by decide), Nat.add_zero]
        · rw [k1, if_pos rfl]
      · intro c; rw [hF0, if_pos (h16.2.mp c), k1]
      · intro c; rw [hF0, if_neg (fun q => c (h16.2.mpr q)), k_ad0, Nat.add_zero]
      · intro c
        have := h16.2.mp c
        rw [pk_sub (by omega)]
        exact congrArg nI (by omega)
      · intro c
        have hc : ¬ w - d = 0 := fun q => c (h16.2.mpr q)
        rw [pk_sub (by omega)]
        exact congrArg nI (by omega)
    have h93 := t_93 h w1 w2 d1 d2 h0 hR h206
    unfold mL_isStepped
    rw [k_bd_some el, if_pos hp0, k_bd_some (q_mover h), efrom, edie, k_bd_some (l_target p hp w (by omega) d d2 ⟨w1, d1⟩)]
    by_cases c : w - d = 0
    · have hh : hit = false := by
        rw [ehit]; exact decide_eq_false (fun q => by omega)
      rw [if_pos (h16.1.mpr c)]
      unfold mL_isStepped_92
      rw [hh] at h93
      exact h93
    · have h3 : F (1 - p) (17 - (w - d)) ≤ 1 := hb.2.2.1 (by omega)
      rw [if_neg (fun q => c (h16.1.mp q)), k_bd_some (q_piecesO h hp (by omega) (by omega))]
      by_cases c2 : F (1 - p) (17 - (w - d)) = 1
      · have hh : hit = true := by
          rw [ehit]; exact decide_eq_true ⟨by omega, c2⟩
        rw [hh] at h93
        rw [if_pos (show nI (F (1 - p) (17 - (w - d))) = (1 : Int32) by rw [c2]; exact kn_1.symm)]
        exact h93
      · have hh : hit = false := by
          rw [ehit]; exact decide_eq_false (fun q => c2 q.2)
        rw [hh] at h93
        rw [if_neg (show ¬ nI (F (1 - p) (17 - (w - d))) = (1 : Int32) from fun q => c2 ((nI_eq (b := 1) (by omega) (by omega)).mp q))]
        unfold mL_isStepped_92
        exact h93
end QT
