/-! the law's doings: roll, offer, take, drop, a new game, carrying, the end of a turn -/
theorem g_sum_ge {F : Nat → Nat} : ∀ {n a i : Nat}, a ≤ i → i < a + n → F i ≤ g_sum F a n
  | 0, a, i, h1, h2 => by omega
  | n + 1, a, i, h1, h2 => by
    show F i ≤ F a + g_sum F (a + 1) n
    rcases Nat.eq_or_lt_of_le h1 with q | q
    · subst q; exact Nat.le_add_right _ _
    · exact Nat.le_trans (g_sum_ge (F := F) (n := n) (a := a + 1) (by omega) (by omega)) (Nat.le_add_left _ _)
theorem pip_ge {f : Nat → Nat} {w : Nat} (h1 : 1 ≤ w) (h2 : w ≤ 17) (hf : 0 < f w) : w ≤ g_pip f := by
  have h : w * f w ≤ g_pip f := g_sum_ge (F := fun w => w * f w) (n := 17) (a := 1) h1 (by omega)
  exact Nat.le_trans (Nat.le_mul_of_pos_right w hf) h
def x_inv (x : XT) : Prop := ∃ p F ds ph, RX x p F ds ph ∧ ph ≠ 2
section QD
variable {x : XT} {p : Nat} {F : Nat → Nat → Nat} {ds : List Nat} {ph : Nat}
theorem d_rol_0 {a b : Nat} : (d_rol a b).getD 0 0 = a ∧ (d_rol a b).getD 1 0 = b ∧ (a = b → (d_rol a b).length = 4) ∧ (¬ a = b → (d_rol a b).length = 2) ∧ 2 ≤ (d_rol a b).length ∧ (d_rol a b).length ≤ 4 := by
  unfold d_rol
  by_cases c : a = b
  · subst c
    rw [if_pos rfl]
    exact ⟨rfl, rfl, fun _ => rfl, fun q => absurd rfl q, by show 2 ≤ 4; omega, by show 4 ≤ 4; omega⟩
  · rw [if_neg c]
    exact ⟨rfl, rfl, fun q => absurd q c, fun _ => rfl, by show 2 ≤ 2; omega, by show 2 ≤ 4; omega⟩
theorem t_rolled29 (h : RX x p F ds 0) (v : Int32) {a b : Nat} (ha1 : 1 ≤ a) (ha : a < 7) (hb1 : 1 ≤ b) (hb : b < 7) : ∃ x', mL_isRolled_29 v (nI b) (nI a) x = some (true, x') ∧ RX x' p F (d_rol a b) 1 := by
  obtain ⟨N, hN1, hN2⟩ := n_rol (P := x_P p F) ha1 ha hb1 hb (RX_ok h)
  obtain ⟨kn, G', e1, hx'⟩ := q_roll h ha1 ha hb1 hb
  generalize x_set x kn G' ((x_g x).1, 1, d_I (d_rol a b), (x_g x).2.2.2) = x' at e1 hx'
  obtain ⟨q1, q2⟩ := q_plays hx' hN1.1
  obtain ⟨l0, l1, l4, l2, l2', l4'⟩ := d_rol_0 (a := a) (b := b)
  have hR : g_R (d_rol a b) (x_P p F) ≤ (d_rol a b).length := g_R_le
  have e81 : ∀ t : Int32, nI (d_rol a b).length = t → mL_isRolled_81 v t (nI (d_rol a b).length) (nI a) (nI b) (nI N) (nI (d_rol a b).length) x' = some (true, x') := by
    intro t ht
    unfold mL_isRolled_81
    rw [if_pos ht, k_bd_some (q_diceLeft hx'), if_pos rfl, k_bd_some (q_phase hx'), if_pos (show nI 1 = (1 : Int32) from kn_1.symm),
      k_bd_some (show XR_dieLeft x' 0 = some (nI ((d_rol a b).getD 0 0)) from q_dieLeft hx' (j := 0) (by omega)), l0, if_pos rfl,
      k_bd_some (show XR_dieLeft x' 1 = some (nI ((d_rol a b).getD 1 0)) from q_dieLeft hx' (j := 1) (by omega)), l1, if_pos rfl, k_bd_some q1, if_pos rfl, k_bd_some (q_reach hx'), if_neg (nI_nlt hR (by omega))]
  refine ⟨x', ?_, hx'⟩
  unfold mL_isRolled_29
  rw [k_bd_some (q_playsWith h ha1 ha hb1 hb (hN1.1 false)), k_bd_some (q_playsWith h hb1 hb ha1 ha (hN2.1 false)), if_pos rfl]
  unfold mL_isRolled_54
  rw [k_bd2_some e1, if_neg (by decide)]
  by_cases c : a = b
  · rw [if_pos (show nI a = nI b by rw [c])]
    exact e81 4 (by rw [l4 c]; exact kn_4.symm)
  · rw [if_neg (show ¬ nI a = nI b from fun q => c ((nI_eq (by omega) (by omega)).mp q))]
    exact e81 2 (by rw [l2 c]; exact kn_2.symm)
theorem t_rolled (h : RX x p F ds 0) (v : Int32) : ∃ x', mL_isRolled x v = some (true, x') ∧ x_inv x' := by
  obtain ⟨r, hr, er⟩ := l_low6 v
  have ea : (1 : Int32) + nI r = nI (1 + r) := nI_add 1 r
  unfold mL_isRolled
  rw [k_bd_some er, ea]
  by_cases c : (v &&& 3) = 0
  · rw [if_pos c]
    obtain ⟨x', e, hx'⟩ := t_rolled29 h v (a := 1 + r) (b := 1 + r) (by omega) (by omega) (by omega) (by omega)
    exact ⟨x', e, p, F, _, 1, hx', by omega⟩
  · rw [if_neg c]
    obtain ⟨r2, hr2, er2⟩ := l_low6 (v >>> ((3 : Int32) &&& 31))
    have eb : (1 : Int32) + nI r2 = nI (1 + r2) := nI_add 1 r2
    obtain ⟨x', e, hx'⟩ := t_rolled29 h v (a := 1 + r) (b := 1 + r2) (by omega) (by omega) (by omega) (by omega)
    refine ⟨x', ?_, p, F, _, 1, hx', by omega⟩
    rw [k_bd_some er2, eb]
    exact e
theorem t_offered (h : RX x p F ds 0) (t : Bool) : ∃ x', mL_isOffered x t = some (true, x') ∧ x_inv x' := by
  have hp := RX_p h
  have hm : (1 : Int32) - nI p = nI (1 - p) := r_1p hp
  unfold mL_isOffered
  rw [k_bd_some q_stake, k_bd_some (q_mover h), k_bd_some (q_score hp)]
  by_cases c1 : (32 : Int32) < (x_g x).2.2.2.1
  · rw [if_pos c1]; exact ⟨x, rfl, p, F, ds, 0, h, by omega⟩
  rw [if_neg c1, k_bd_some q_cubeOf, hm]
  by_cases c2 : (x_g x).2.2.2.2.1 = nI (1 - p)
  · rw [if_pos c2]; exact ⟨x, rfl, p, F, ds, 0, h, by omega⟩
  rw [if_neg c2]
  obtain ⟨kn, G', e1, h1⟩ := q_offer h c2 c1
  have es : XR_stake (x_set x kn G' ((x_g x).1, 2, (x_g x).2.2)) = some (x_g x).2.2.2.1 := rfl
  have esc : x_g (x_set x kn G' ((x_g x).1, 2, (x_g x).2.2)) = ((x_g x).1, 2, (x_g x).2.2) := rfl
  rw [k_bd2_some e1, if_pos rfl, k_bd_some (q_phase h1), if_pos (show nI 2 = (2 : Int32) from kn_2.symm), k_bd_some es, if_pos rfl]
  generalize x_set x kn G' ((x_g x).1, 2, (x_g x).2.2) = y at h1 esc
  unfold mL_isOffered_66
  cases t
  · obtain ⟨kn2, G2, sc0, sc1, e2, h2, hsc⟩ := q_drop h1
    have eo : XR_score (x_set y kn2 G2 ((x_g y).1, 3, 0, (x_g y).2.2.2.1, (x_g y).2.2.2.2.1, (x_g y).2.2.2.2.2.1, (x_g y).2.2.2.2.2.2.1, sc0, sc1, (x_g y).2.2.2.2.2.2.2.2.2)) (nI p) = some ((if p = 0 then (x_g y).2.2.2.2.2.2.2.1 else (x_g y).2.2.2.2.2.2.2.2.1) + (x_g y).2.2.2.1) := by
      rw [q_score hp]; exact congrArg some hsc
    rw [if_pos (by decide), if_neg (by decide), k_bd2_some e2, if_pos (by rw [esc]), k_bd_some (q_phase h2), if_pos (show nI 3 = (3 : Int32) from kn_3.symm), k_bd_some eo, if_pos (by rw [esc])]
    exact ⟨_, rfl, p, F, [], 3, h2, by omega⟩
  · obtain ⟨kn2, G2, e2, h2⟩ := q_take h1
    have e3 : XR_stake (x_set y kn2 G2 ((x_g y).1, 0, (x_g y).2.2.1, 2 * (x_g y).2.2.2.1, nI (1 - p), (x_g y).2.2.2.2.2)) = some (2 * (x_g y).2.2.2.1) := rfl
    have e4 : XR_cubeOf (x_set y kn2 G2 ((x_g y).1, 0, (x_g y).2.2.1, 2 * (x_g y).2.2.2.1, nI (1 - p), (x_g y).2.2.2.2.2)) = some (nI (1 - p)) := rfl
    rw [if_neg (by decide), if_neg (by decide), k_bd2_some e2, if_pos (by rw [esc]), k_bd_some e3, if_pos (by rw [esc]), k_bd_some e4, hm, if_pos rfl, k_bd_some (q_phase h2), if_pos nI_0, k_bd_some (q_mover h2), if_pos rfl]
    exact ⟨_, rfl, p, F, [], 0, h2, by omega⟩
theorem t_anew (h : RX x p F ds 3) : ∃ x', mL_isAnew x = some (true, x') ∧ x_inv x' := by
  have hp := RX_p h
  have hm : (1 : Int32) - nI p = nI (1 - p) := r_1p hp
  obtain ⟨kn, G', e1, h1⟩ := q_newGame h
  have e2 : XR_stake (x_set x kn G' (nI (1 - p), 0, (x_g x).2.2.1, 1, -1, 563087660810240, 563087660810240, (x_g x).2.2.2.2.2.2.2)) = some 1 := rfl
  have e3 : XR_cubeOf (x_set x kn G' (nI (1 - p), 0, (x_g x).2.2.1, 1, -1, 563087660810240, 563087660810240, (x_g x).2.2.2.2.2.2.2)) = some (-1) := rfl
  generalize x_set x kn G' (nI (1 - p), 0, (x_g x).2.2.1, 1, -1, 563087660810240, 563087660810240, (x_g x).2.2.2.2.2.2.2) = y at e1 h1 e2 e3
  have ep0 : XR_pips y 0 = some (nI (g_pip g_F0)) := q_pips h1 (q := 0) (by omega)
  have ep1 : XR_pips y 1 = some (nI (g_pip g_F0)) := q_pips h1 (q := 1) (by omega)
  have eb0 : XR_blots y 0 = some (nI (g_blot g_F0)) := q_blots h1 (q := 0) (by omega)
  have eb1 : XR_blots y 1 = some (nI (g_blot g_F0)) := q_blots h1 (q := 1) (by omega)
  have v1 : nI (g_pip g_F0) = 74 := by decide +kernel
  have v2 : nI (g_blot g_F0) = 0 := by decide +kernel
  refine ⟨y, ?_, 1 - p, _, [], 0, h1, by omega⟩
  unfold mL_isAnew
  rw [k_bd_some (q_mover h), k_bd2_some e1, hm, if_pos rfl, k_bd_some (q_mover h1), if_pos rfl, k_bd_some e2, if_pos rfl, k_bd_some e3, if_pos rfl, k_bd_some (q_phase h1), if_pos nI_0, k_bd_some ep0, if_pos v1, k_bd_some ep1, if_pos v1, k_bd_some eb0, if_pos v2, k_bd_some eb1, if_pos v2]
theorem pw_inj : ∀ q, q < 2 → ∀ y, y < 16 → ∀ z, z < 16 → (pw q y = pw q z → y = z) := by decide +kernel
set_option maxHeartbeats 8000000 in
theorem t_carried (h : RX x p F ds 0) (v : Int32) : ∃ x', mL_isCarried x v = some (true, x') ∧ x_inv x' := by
  have hself : ∃ x', some (true, x) = some (true, x') ∧ x_inv x' := ⟨x, rfl, p, F, ds, 0, h, by omega⟩
  obtain ⟨q, hq, eq⟩ := pk_andE v (m := 1) 1 (by decide)
  have hq : q < 2 := hq
  obtain ⟨y, hy, ey⟩ := l_low16 (v >>> ((1 : Int32) &&& 31))
  obtain ⟨z, hz, ez⟩ := l_low16 (v >>> ((5 : Int32) &&& 31))
  have hq1 : 1 - q < 2 := by omega
  have hm : (1 : Int32) - nI q = nI (1 - q) := r_1p hq
  have hpy := pw_r q hq y hy
  have hpz := pw_r q hq z hz
  have b1 : F q (pw q y) ≤ 6 := b_ok_le (RX_b h hq) (by omega)
  have b2 : F (1 - q) (pw (1 - q) z) ≤ 6 := b_ok_le (RX_b h hq1) (by have := pw_r (1 - q) hq1 z hz; omega)
  unfold mL_isCarried
  rw [k_bd_some ey, k_bd_some ez, eq, k_bd_some (q_piecesOn h hq hy)]
  by_cases c1 : F q (pw q y) = 0
  · rw [if_pos (show nI (F q (pw q y)) = 0 by rw [c1]; exact nI_0)]; exact hself
  rw [if_neg (show ¬ nI (F q (pw q y)) = 0 from nI_ne0 (by omega) (by omega)), hm, k_bd_some (q_piecesOn h hq1 hz)]
  by_cases c2 : F (1 - q) (pw (1 - q) z) = 0
  rotate_left
  · rw [if_neg (show ¬ nI (F (1 - q) (pw (1 - q) z)) ≤ 0 from nI_nle (by omega) (by omega))]; exact hself
  rw [if_pos (show nI (F (1 - q) (pw (1 - q) z)) ≤ 0 by rw [c2]; decide), k_bd_some (q_pips h hq), k_bd_some (q_piecesOn h hq hz)]
  obtain ⟨x', F', e1, qp, h1⟩ := q_carry (w := pw q y) (v := pw q z) h hq hpy.1 hpy.2.1 hpz.1 hpz.2.1 (by omega) (by rw [hpz.2.2]; exact c2)
  rw [← pl_pt q hq y hy, ← pl_pt q hq z hz] at e1
  have hge := pip_ge (f := F q) (w := pw q y) hpy.1 (by omega) (by omega)
  have hmv := pip_mv (f := F q) (w := pw q y) (v := pw q z) hpy.1 (by omega) (by omega) (by omega)
  have e2 : nI (g_pip (b_mv (F q) (pw q y) (pw q z))) = (nI (g_pip (F q)) - nI (pw q y)) + nI (pw q z) := by
    rw [pk_sub hge, nI_add]
    exact congrArg nI (by omega)
  have hF' : F' q (pw q z) = F q (pw q z) - (if pw q z = pw q y then 1 else 0) + 1 := by rw [qp, b_mv_at, if_pos (c := pw q z = pw q z) rfl]
  have b3 : F' q (pw q z) ≤ 6 := b_ok_le (RX_b h1 hq) (by omega)
  have e108 : mL_isCarried_108 v (nI q) (nI z) x' = some (true, x') := by
    unfold mL_isCarried_108
    rw [k_bd_some (q_piecesOn h1 hq hz), if_neg (nI_nle (by omega) (by omega))]
  rw [k_bd2_some e1, k_bd_some (l_wayY q hq y hy), k_bd_some (l_wayY q hq z hz), if_pos e2]
  refine ⟨x', ?_, p, F', [], 0, h1, by omega⟩
  by_cases c3 : y = z
  · rw [if_pos (show nI y = nI z by rw [c3])]; exact e108
  · have hne : ¬ pw q z = pw q y := fun e => c3 (pw_inj q hq y hy z hz e.symm)
    rw [if_neg hne, Nat.sub_zero] at hF'
    rw [if_neg (show ¬ nI y = nI z from fun e => c3 ((nI_eq (by omega) (by omega)).mp e)), k_bd_some (q_piecesOn h1 hq hz), hF', if_pos (show nI (F q (pw q z) + 1) = nI (F q (pw q z)) + 1 from (nI_1 _).symm)]
    exact e108
theorem t_does {x : XT} (h : x_inv x) (v w : Int32) : ∃ x', mL_does x v w = some (true, x') ∧ x_inv x' := by
  obtain ⟨p, F, ds, ph, h, h2⟩ := h
  have hph := RX_ph h
  have hp := RX_p h
  have hm : (1 : Int32) - nI p = nI (1 - p) := r_1p hp
  unfold mL_does
  rw [k_bd_some (q_phase h)]
  rcases (show ph = 0 ∨ ph = 1 ∨ ph = 3 by omega) with rfl | rfl | rfl
  · rw [if_pos nI_0]
    by_cases c1 : 2 ≤ (v &&& 15)
    · rw [if_pos c1]
      by_cases c2 : (v &&& 15) = 2
      · rw [if_pos c2]
        have e69 : ∀ t, ∃ x', mL_does_69 v w t x = some (true, x') ∧ x_inv x' := fun t => by
          obtain ⟨x', e, hx⟩ := t_offered h t
          refine ⟨x', ?_, hx⟩
          unfold mL_does_69
          exact k_bd2_some e
        by_cases c3 : (w &&& 7) ≤ 0
        · rw [if_pos c3]; exact e69 false
        · rw [if_neg c3]; exact e69 true
      · rw [if_neg c2]
        obtain ⟨x', e, hx⟩ := t_rolled h w
        exact ⟨x', k_bd2_some e, hx⟩
    · rw [if_neg c1]
      obtain ⟨x', e, hx⟩ := t_carried h w
      exact ⟨x', k_bd2_some e, hx⟩
  · rw [if_neg (show ¬ nI 1 = (0 : Int32) by decide), if_pos (show nI 1 = (1 : Int32) from kn_1.symm), k_bd_some (q_mover h), k_bd_some (q_reach h)]
    have hRl : g_R ds (x_P p F) ≤ ds.length := g_R_le
    have hdl := d_len ds (RX_ds h)
    by_cases c : g_R ds (x_P p F) = 0
    · obtain ⟨kn, G', e1, h1⟩ := q_endTurn h c
      generalize x_set x kn G' (nI (1 - p), 0, 0, (x_g x).2.2.2) = y at e1 h1
      rw [if_pos (show nI (g_R ds (x_P p F)) ≤ 0 by rw [c]; decide), k_bd2_some e1, hm, if_pos rfl, k_bd_some (q_mover h1), if_pos rfl, k_bd_some (q_phase h1), if_pos nI_0, k_bd_some (q_diceLeft h1), if_pos (show nI ([] : List Nat).length = 0 from nI_0)]
      exact ⟨y, rfl, 1 - p, F, [], 0, h1, by omega⟩
    · rw [if_neg (nI_nle (by omega) (by omega))]
      obtain ⟨x', F', ds', ph', e, h1, h2⟩ := t_stepped h (by omega) w
      exact ⟨x', k_bd2_some e, p, F', ds', ph', h1, h2⟩
  · rw [if_neg (show ¬ nI 3 = (0 : Int32) by decide), if_neg (show ¬ nI 3 = (1 : Int32) by decide), if_neg (show ¬ nI 3 = (2 : Int32) by decide)]
    obtain ⟨x', e, hx⟩ := t_anew h
    exact ⟨x', k_bd2_some e, hx⟩
end QD
