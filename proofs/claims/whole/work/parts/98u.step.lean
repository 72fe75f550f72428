theorem k_ad0 (x : Int32) : x + k_b false = x := by show x + 0 = x; exact Int32.add_zero x
theorem g_re_A {ds : List Nat} {P : GP} {d w : Nat} (hw1 : 1 ≤ w) (hw : w ≤ 17) (h : g_re ds P d w = 0) : d ∈ ds ∧ g_A P d w := by
  unfold g_re at h
  by_cases hd : d ∈ ds
  · rw [if_pos hd] at h
    by_cases hb : g_ban P.1 P.2 d w = 0
    · exact ⟨hd, hw1, hw, hb⟩
    · rw [if_neg hb] at h; exact absurd h hb
  · rw [if_neg hd] at h; cases h
theorem d_ph {ds : List Nat} {d ph : Nat} (hd : d ∈ ds) (hn : ph ≠ 1 → ds = []) : ph = 1 := by
  by_cases h : ph = 1
  · exact h
  · rw [hn h] at hd; cases hd
theorem c_doStep' {F F' : Nat → Nat → Nat} {p d w : Nat} {ds : List Nat} {mv ph di stk sc0 sc1 h0 h1 : Int32} {P0 P1 : Int64} (e1 : mv = nI p) (e3 : di = d_I ds) (e4 : P0 = b_L (F 0)) (e5 : P1 = b_L (F 1)) (hp : p < 2) (ho : g_ok (F p, F (1 - p))) (hds : ds ∈ d_all) (hd : d ∈ ds) (hA : g_A (F p, F (1 - p)) d w) (q0 : F' = F_set (F_set F (1 - p) (g_th (F (1 - p)) d w)) p (g_mv (F p) d w)) (ho2 : g_ok (F' p, F' (1 - p))) {b : Bool} (hb : b = g_hit (F p, F (1 - p)) d w) : (F' p 0 = 6 → mX1_doStep mv ph di stk P0 P1 sc0 sc1 h0 h1 (pl p w) (nI d) = some (b, 3, 0, b_L (F' 0), b_L (F' 1), s_s0 p sc0 (s_w F' p stk), s_s1 p sc1 (s_w F' p stk), s_h0 b p h0, s_h1 b p h1)) ∧ (F' p 0 ≠ 6 → mX1_doStep mv ph di stk P0 P1 sc0 sc1 h0 h1 (pl p w) (nI d) = some (b, ph, d_I (ds.erase d), b_L (F' 0), b_L (F' 1), sc0, sc1, s_h0 b p h0, s_h1 b p h1)) := by
  subst e1 e3 e4 e5 hb
  have h := c_doStep (ph := ph) (stk := stk) (sc0 := sc0) (sc1 := sc1) (h0 := h0) (h1 := h1) hp ho hds hd hA q0 ho2
  exact ⟨fun h6 => by rw [if_pos h6] at h; exact h, fun h6 => by rw [if_neg h6] at h; exact h⟩
theorem h_ok4 {F' : Nat → Nat → Nat} {p : Nat} {s' : Nat → Int32} (hp : p < 2) (ho2 : g_ok (F' p, F' (1 - p))) (c1 : RB s' p (F' p, F' (1 - p))) : g_ok (F' 0, F' 1) ∧ g_ok (F' 1, F' 0) ∧ RH s' 0 (F' 0) ∧ RH s' 1 (F' 1) := by
  have hok2 : g_ok (F' (1 - p), F' p) := ⟨ho2.2.1, ho2.1, fun i hi => ⟨(ho2.2.2 i hi).2, (ho2.2.2 i hi).1⟩⟩
  rcases (show p = 0 ∨ p = 1 by omega) with rfl | rfl
  · exact ⟨ho2, hok2, c1.1, c1.2⟩
  · exact ⟨hok2, ho2, c1.2, c1.1⟩
theorem h_hits {p : Nat} {b : Bool} {s s' : Nat → Int32} {h0 h1 : Int32} (hp : p < 2) (c2 : s' (48 - p) = s (48 - p) + k_b b) (c5 : s' (47 + p) = s (47 + p)) (d3 : s 47 = h0) (d4 : s 48 = h1) : s' 47 = s_h0 b p h0 ∧ s' 48 = s_h1 b p h1 := by
  unfold s_h0 s_h1
  rcases (show p = 0 ∨ p = 1 by omega) with rfl | rfl
  · rw [if_neg (by omega)]
    refine ⟨(show s' 47 = s 47 from c5).trans d3, ?_⟩
    rw [show s' 48 = s 48 + k_b b from c2, d4]
    cases b
    · rw [if_neg (by simp), k_ad0]
    · rw [if_pos ⟨rfl, rfl⟩]; rfl
  · rw [if_neg (show ¬ (b = true ∧ 1 = 0) by omega)]
    refine ⟨?_, (show s' 48 = s 48 from c5).trans d4⟩
    rw [show s' 47 = s 47 + k_b b from c2, d3]
    cases b
    · rw [if_neg (by simp), k_ad0]
    · rw [if_pos ⟨rfl, rfl⟩]; rfl
theorem h_win {p : Nat} {F' : Nat → Nat → Nat} {s s' : Nat → Int32} {stk sc0 sc1 : Int32} (hp : p < 2) (x3 : s' (45 + p) = s (45 + p) + (if F' (1 - p) 0 = 0 then 2 * s 43 else s 43)) (c5 : s' (46 - p) = s (46 - p)) (b1 : s 43 = stk) (d1 : s 45 = sc0) (d2 : s 46 = sc1) : s' 45 = s_s0 p sc0 (s_w F' p stk) ∧ s' 46 = s_s1 p sc1 (s_w F' p stk) := by
  unfold s_s0 s_s1 s_w
  rw [b1] at x3
  rcases (show p = 0 ∨ p = 1 by omega) with rfl | rfl
  · rw [if_pos rfl, if_pos rfl]
    exact ⟨by rw [← d1]; exact x3, (show s' 46 = s 46 from c5).trans d2⟩
  · rw [if_neg (by omega), if_neg (by omega)]
    exact ⟨(show s' 45 = s 45 from c5).trans d1, by rw [← d2]; exact x3⟩
theorem h_six {p : Nat} {F F' : Nat → Nat → Nat} (hp : p < 2) (ho2 : g_ok (F' p, F' (1 - p))) (h6 : F' p 0 ≠ 6) (hle3 : F' (1 - p) 0 ≤ F (1 - p) 0) (hF : F 0 0 < 6 ∧ F 1 0 < 6) : F' 0 0 < 6 ∧ F' 1 0 < 6 := by
  have hle : F' p 0 ≤ 6 := b_ok_le (f := F' p) ho2.1 (by omega)
  rcases (show p = 0 ∨ p = 1 by omega) with rfl | rfl
  · exact ⟨by omega, Nat.lt_of_le_of_lt hle3 hF.2⟩
  · exact ⟨Nat.lt_of_le_of_lt hle3 hF.1, by omega⟩
theorem T_stepW {p : Nat} {F F' : Nat → Nat → Nat} {ds : List Nat} {g : GT} {s s' : Nat → Int32} {b : Bool} (h : RGw p F ds 1 g s) (ho2 : g_ok (F' p, F' (1 - p))) (c1 : RB s' p (F' p, F' (1 - p))) (c2 : s' (48 - p) = s (48 - p) + k_b b) (x1 : RD s' []) (x2 : s' 37 = nI 3) (x3 : s' (45 + p) = s (45 + p) + (if F' (1 - p) 0 = 0 then 2 * s 43 else s 43)) (c5 : ∀ k, k ≠ 37 → k ≠ 48 - p → k ≠ 45 + p → 36 ≤ k → (k < 38 ∨ 43 ≤ k) → s' k = s k) : RG (g.1, 3, 0, g.2.2.2.1, g.2.2.2.2.1, b_L (F' 0), b_L (F' 1), s_s0 p g.2.2.2.2.2.2.2.1 (s_w F' p g.2.2.2.1), s_s1 p g.2.2.2.2.2.2.2.2.1 (s_w F' p g.2.2.2.1), s_h0 b p g.2.2.2.2.2.2.2.2.2.1, s_h1 b p g.2.2.2.2.2.2.2.2.2.2.1, g.2.2.2.2.2.2.2.2.2.2.2) s' := by
  have h' := h
  obtain ⟨⟨hp, -⟩, -, -, -, -, ⟨b1, -⟩, -, ⟨d1, d2, d3, d4⟩, -⟩ := h'
  obtain ⟨k1, k2, k3, k4⟩ := h_ok4 hp ho2 c1
  have o : ∀ k, k ≠ 37 → k < 45 ∨ 48 < k → 36 ≤ k → (k < 38 ∨ 43 ≤ k) → s' k = s k := fun k a1 a2 a3 a4 => c5 k a1 (by omega) (by omega) a3 a4
  have hh := h_hits (b := b) hp c2 (c5 _ (by omega) (by omega) (by omega) (by omega) (by omega)) d3 d4
  have hw := h_win (F' := F') hp x3 (c5 _ (by omega) (by omega) (by omega) (by omega) (by omega)) b1 d1 d2
  exact RGw_pc h (ph' := 3) (by omega) d_nil (fun _ => rfl) k1 k2 k3 k4 x1 (o _ (by omega) (by omega) (by omega) (by omega)) x2 kn_3 (by decide +kernel) (o _ (by omega) (by omega) (by omega) (by omega)) (o _ (by omega) (by omega) (by omega) (by omega)) rfl rfl hw.1 hw.2 hh.1 hh.2 (o _ (by omega) (by omega) (by omega) (by omega)) (o _ (by omega) (by omega) (by omega) (by omega)) (fun q => absurd rfl q)
theorem T_stepN {p : Nat} {F F' : Nat → Nat → Nat} {ds ds' : List Nat} {g : GT} {s s' : Nat → Int32} {b : Bool} (h : RGw p F ds 1 g s) (hds' : ds' ∈ d_all) (ho2 : g_ok (F' p, F' (1 - p))) (h6 : F' p 0 ≠ 6) (hle3 : F' (1 - p) 0 ≤ F (1 - p) 0) (c1 : RB s' p (F' p, F' (1 - p))) (c2 : s' (48 - p) = s (48 - p) + k_b b) (x1 : RD s' ds') (x2 : s' 37 = s 37) (x3 : s' (45 + p) = s (45 + p)) (c5 : ∀ k, k ≠ 37 → k ≠ 48 - p → k ≠ 45 + p → 36 ≤ k → (k < 38 ∨ 43 ≤ k) → s' k = s k) : RG (g.1, g.2.1, d_I ds', g.2.2.2.1, g.2.2.2.2.1, b_L (F' 0), b_L (F' 1), g.2.2.2.2.2.2.2.1, g.2.2.2.2.2.2.2.2.1, s_h0 b p g.2.2.2.2.2.2.2.2.2.1, s_h1 b p g.2.2.2.2.2.2.2.2.2.2.1, g.2.2.2.2.2.2.2.2.2.2.2) s' := by
  have h' := h
  obtain ⟨⟨hp, -⟩, -, -, -, ⟨-, h37, -, a4, -⟩, ⟨b1, -⟩, -, ⟨d1, d2, d3, d4⟩, -, hF⟩ := h'
  obtain ⟨k1, k2, k3, k4⟩ := h_ok4 hp ho2 c1
  have o : ∀ k, k ≠ 37 → k < 45 ∨ 48 < k → 36 ≤ k → (k < 38 ∨ 43 ≤ k) → s' k = s k := fun k a1 a2 a3 a4 => c5 k a1 (by omega) (by omega) a3 a4
  have hh := h_hits (b := b) hp c2 (c5 _ (by omega) (by omega) (by omega) (by omega) (by omega)) d3 d4
  have hsc : s' 45 = s 45 ∧ s' 46 = s 46 := by
    rcases (show p = 0 ∨ p = 1 by omega) with rfl | rfl
    · exact ⟨x3, c5 46 (by omega) (by omega) (by omega) (by omega) (by omega)⟩
    · exact ⟨c5 45 (by omega) (by omega) (by omega) (by omega) (by omega), x3⟩
  exact RGw_pc h (ph' := 1) (by omega) hds' (fun q => absurd rfl q) k1 k2 k3 k4 x1 (o _ (by omega) (by omega) (by omega) (by omega)) (x2.trans h37) a4 rfl (o _ (by omega) (by omega) (by omega) (by omega)) (o _ (by omega) (by omega) (by omega) (by omega)) rfl rfl (hsc.1.trans d1) (hsc.2.trans d2) hh.1 hh.2 (o _ (by omega) (by omega) (by omega) (by omega)) (o _ (by omega) (by omega) (by omega) (by omega)) (fun _ => h_six hp ho2 h6 hle3 (hF (by omega)))
theorem g_st_eq (f g : Nat → Nat) (d w : Nat) : g_st (f, g) d w = (g_mv f d w, g_th g d w) := rfl
theorem T_step {p : Nat} {F : Nat → Nat → Nat} {ds : List Nat} {ph : Nat} {g : GT} {s : Nat → Int32} {d w : Nat} (h : RGw p F ds ph g s) (hw1 : 1 ≤ w) (hw : w ≤ 17) (h0 : g_re ds (F p, F (1 - p)) d w = 0) : ∃ b s' phs di P0 P1 sc0 sc1 hi0 hi1, mX10_steps s (pl p w) (nI d) = some (b, s') ∧ mX1_doStep g.1 g.2.1 g.2.2.1 g.2.2.2.1 g.2.2.2.2.2.1 g.2.2.2.2.2.2.1 g.2.2.2.2.2.2.2.1 g.2.2.2.2.2.2.2.2.1 g.2.2.2.2.2.2.2.2.2.1 g.2.2.2.2.2.2.2.2.2.2.1 (pl p w) (nI d) = some (b, phs, di, P0, P1, sc0, sc1, hi0, hi1) ∧ RG (g.1, phs, di, g.2.2.2.1, g.2.2.2.2.1, P0, P1, sc0, sc1, hi0, hi1, g.2.2.2.2.2.2.2.2.2.2.2) s' := by
  obtain ⟨hd, hA⟩ := g_re_A hw1 hw h0
  obtain ⟨hB, hP⟩ := RG_B h
  have h' := h
  obtain ⟨⟨hp, -, hds, hn⟩, -, -, hD, ⟨h36, -, a3, -, a5⟩, -, ⟨gp0, gp1⟩, -⟩ := h'
  obtain rfl := d_ph hd hn
  obtain ⟨s', e1, c1, c2, c3, c4, c5⟩ := r_steps hp hP hB hds hd hD h36 hA
  have hst := g_ok_st hP hA
  rw [g_st_eq] at hst c1 c3 c4
  obtain ⟨F', q0⟩ : ∃ F', F' = F_set (F_set F (1 - p) (g_th (F (1 - p)) d w)) p (g_mv (F p) d w) := ⟨_, rfl⟩
  have qp : F' p = g_mv (F p) d w := by rw [q0]; exact F_set_q
  have qo : F' (1 - p) = g_th (F (1 - p)) d w := by rw [q0, F_set_o (by omega)]; exact F_set_q
  have ho2 : g_ok (F' p, F' (1 - p)) := by rw [qp, qo]; exact hst
  obtain ⟨b, hb⟩ : ∃ b, b = g_hit (F p, F (1 - p)) d w := ⟨_, rfl⟩
  obtain ⟨hC1, hC2⟩ := c_doStep' (ph := g.2.1) (stk := g.2.2.2.1) (sc0 := g.2.2.2.2.2.2.2.1) (sc1 := g.2.2.2.2.2.2.2.2.1) (h0 := g.2.2.2.2.2.2.2.2.2.1) (h1 := g.2.2.2.2.2.2.2.2.2.2.1) a3 a5 gp0 gp1 hp hP hds hd hA q0 ho2 hb
  have c1' : RB s' p (F' p, F' (1 - p)) := by rw [qp, qo]; exact c1
  rw [← qp, ← qo] at c3 c4
  rw [← hb] at e1 c2
  have hle3 : F' (1 - p) 0 ≤ F (1 - p) 0 := by rw [qo]; exact (g_th_le (g := F (1 - p)) (d := d) (w := w) (i := 0) (by omega)).1
  by_cases h6 : F' p 0 = 6
  · obtain ⟨x1, x2, x3⟩ := c3 h6
    exact ⟨b, s', _, _, _, _, _, _, _, _, e1, hC1 h6, T_stepW h ho2 c1' c2 x1 x2 x3 c5⟩
  · obtain ⟨x1, x2, x3⟩ := c4 h6
    exact ⟨b, s', _, _, _, _, _, _, _, _, e1, hC2 h6, T_stepN h (d_erase ds hds d hd) ho2 h6 hle3 c1' c2 x1 x2 x3 c5⟩
theorem ok_step {x : XT} {m : MT} (h : Rel x m) (a a2 : Int32) : OK_step Rel x m a a2 := by
  obtain ⟨hg, hp, hs, ht⟩ := h
  have hb : ∀ t l, Rel x (setTL m t l) := fun t l => ⟨hg, hp, hs, ht⟩
  have hb0 : ∀ t, Rel x (setT m t) := fun t => ⟨hg, hp, hs, ht⟩
  obtain ⟨p, F, ds, ph, hw0⟩ := hg
  have hp2 := hw0.1.1
  rcases pb_or p hp2 a with ⟨w, hw1, hw, rfl⟩ | ⟨e1, e2⟩
  · rcases dd_or a2 with ⟨d, hd1, hd, rfl⟩ | ⟨e1, e2⟩
    · obtain ⟨laid', e⟩ := RG_why (laid := m.2.2.2.2.2.2.2.2.2.1) hw0 hd1 hd hw1 hw
      have er := RG_reason hw0 hd1 hd hw1 hw
      by_cases h0 : g_re ds (F p, F (1 - p)) d w = 0
      · rw [h0] at e er
        obtain ⟨cnt', G', before', known', s1, s2, hp'⟩ := R_save hp ⟨p, F, ds, ph, hw0⟩
        obtain ⟨b, s', phs, di, P0, P1, sc0, sc1, hi0, hi1, y1, y2, y3⟩ := T_step hw0 hw1 hw h0
        refine Or.inl ⟨b, (x.1, cnt', x.2.2.1, G', (x.2.2.2.2.1.1, phs, di, x.2.2.2.2.1.2.2.2.1, x.2.2.2.2.1.2.2.2.2.1, P0, P1, sc0, sc1, hi0, hi1, x.2.2.2.2.1.2.2.2.2.2.2.2.2.2.2.2), x.2.2.2.2.2.1, x.2.2.2.2.2.2), b, (s', before', known', m.2.2.2.1, m.2.2.2.2.1, m.2.2.2.2.2.1, m.2.2.2.2.2.2.1, m.2.2.2.2.2.2.2.1, 0, laid', m.2.2.2.2.2.2.2.2.2.2), ?_, ?_, rfl, rfl, y3, hp', hs, ht⟩
        · unfold XN_step mX9_step
          rw [k_bd_some (pb_is p hp2 w (by omega) hw1), if_neg (by decide), k_bd_some (dd_is d hd hd1).1, if_neg (by decide), k_bd_some er, if_pos (show nI 0 = (0 : Int32) from nI_0), k_bd2_some s1, k_bd9_some y2]
          exact k_bd11_some rfl
        · unfold MN_step mX10_step mX10_step_30
          rw [k_bd_some (pb_f0 p hp2 w (by omega) hw1 d hd hd1), if_pos rfl, k_bd3_some e, if_pos (show nI 0 = (0 : Int32) from nI_0), if_pos (by decide), k_bd2_some s2, k_bd2_some y1]
          exact k_bd6_some rfl
      · have hne : ¬ nI (g_re ds (F p, F (1 - p)) d w) = (0 : Int32) := nI_ne0 (by omega) (by have := g_re_lt (ds := ds) (P := (F p, F (1 - p))) (d := d) (w := w); omega)
        refine Or.inr (Or.inr (Or.inr ⟨false, setTL m 3 laid', ?_, ?_, rfl, hb 3 laid'⟩))
        · unfold XT_step mT9_step
          rw [k_bd_some (pb_is p hp2 w (by omega) hw1), if_neg (by decide), k_bd_some (dd_is d hd hd1).1, if_neg (by decide), k_bd_some er, if_neg hne]
        · unfold MN_step mX10_step mX10_step_30
          rw [k_bd_some (pb_f0 p hp2 w (by omega) hw1 d hd hd1), if_pos rfl, k_bd3_some e, if_neg hne, if_neg (by decide)]
          rfl
    · refine Or.inr (Or.inr (Or.inl ⟨false, setT m 2, ?_, ?_, rfl, hb0 2⟩))
      · unfold XT_step mT9_step
        rw [k_bd_some (pb_is p hp2 w (by omega) hw1), if_neg (by decide), k_bd_some e1, if_pos (by decide)]
      · unfold MN_step mX10_step mX10_step_30
        rw [k_bd_some (pb_f2 hp2 hw1 hw e2), if_neg (by decide), if_neg (by decide)]
        rfl
  · refine Or.inr (Or.inl ⟨false, setT m 1, ?_, ?_, rfl, hb0 1⟩)
    · unfold XT_step mT9_step
      rw [k_bd_some e1, if_pos (by decide)]
    · unfold MN_step mX10_step mX10_step_30
      rw [k_bd_some (e2 a2), if_neg (by decide), if_neg (by decide)]
      rfl
