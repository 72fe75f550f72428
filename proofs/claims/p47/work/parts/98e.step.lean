/-! a step, a piece that is carried -/
section QS
variable {x : XT} {p : Nat} {F : Nat → Nat → Nat} {ds : List Nat} {ph : Nat}
theorem free_mv {f g : Nat → Nat} {d w : Nat} (hf : ∀ v, 1 ≤ v → v ≤ 16 → f v = 0 ∨ g (17 - v) = 0) (hA : g_A (f, g) d w) (hd : 1 ≤ d) : ∀ v, 1 ≤ v → v ≤ 16 → g_mv f d w v = 0 ∨ g_th g d w (17 - v) = 0 := by
  intro v h1 h2
  obtain ⟨w1, w2, w3⟩ := hA
  obtain ⟨c1, c2, c3, c4⟩ := g_ban0.mp w3
  dsimp only at c1 c2 c3 c4
  by_cases hv : v = w - d
  · right
    subst hv
    have h3 := c3 (by omega)
    unfold g_th
    by_cases c : d < w ∧ g (17 - (w - d)) = 1
    · rw [if_pos c, b_mv_at, if_pos rfl, if_neg (by omega)]; omega
    · rw [if_neg c]
      have : ¬ g (17 - (w - d)) = 1 := fun q => c ⟨by omega, q⟩
      omega
  · rcases hf v h1 h2 with q | q
    · left
      rw [g_mv_at, if_neg (c := v = w - d) hv]; omega
    · right
      have := (g_th_le (g := g) (d := d) (w := w) (i := 17 - v) (by omega)).1
      omega
theorem x_ok4 {F' : Nat → Nat → Nat} {p : Nat} (hp : p < 2) (ho2 : g_ok (F' p, F' (1 - p))) : g_ok (F' 0, F' 1) ∧ g_ok (F' 1, F' 0) := by
  have hok2 : g_ok (F' (1 - p), F' p) := ⟨ho2.2.1, ho2.1, fun i hi => ⟨(ho2.2.2 i hi).2, (ho2.2.2 i hi).1⟩⟩
  rcases (show p = 0 ∨ p = 1 by omega) with rfl | rfl
  · exact ⟨ho2, hok2⟩
  · exact ⟨hok2, ho2⟩
theorem x_free4 {F' : Nat → Nat → Nat} {p : Nat} (hp : p < 2) (h : ∀ v, 1 ≤ v → v ≤ 16 → F' p v = 0 ∨ F' (1 - p) (17 - v) = 0) : ∀ w, 1 ≤ w → w ≤ 16 → F' 0 w = 0 ∨ F' 1 (17 - w) = 0 := by
  rcases (show p = 0 ∨ p = 1 by omega) with rfl | rfl
  · exact h
  · intro w h1 h2
    have := h (17 - w) (by omega) (by omega)
    rw [show 17 - (17 - w) = w by omega] at this
    exact this.symm
def x_hits (g : GT) (q : Nat) : Int32 := if q = 0 then g.2.2.2.2.2.2.2.2.2.1 else g.2.2.2.2.2.2.2.2.2.2.1
theorem x_hit1 {g : GT} {p : Nat} {b : Bool} {h0 h1 : Int32} (hp : p < 2) (e0 : h0 = s_h0 b p g.2.2.2.2.2.2.2.2.2.1) (e1 : h1 = s_h1 b p g.2.2.2.2.2.2.2.2.2.2.1) : (if 1 - p = 0 then h0 else h1) = x_hits g (1 - p) + k_b b := by
  subst e0 e1
  unfold x_hits s_h0 s_h1
  rcases (show p = 0 ∨ p = 1 by omega) with rfl | rfl
  · cases b
    · exact (k_ad0 _).symm
    · rfl
  · cases b
    · exact (k_ad0 _).symm
    · rfl
/-- what a step leaves: the boards, how often pieces were hit, what is to be done -/
def S_is (x x' : XT) (p : Nat) (F F' : Nat → Nat → Nat) (ds : List Nat) (d w : Nat) : Prop :=
  F' p = g_mv (F p) d w ∧ F' (1 - p) = g_th (F (1 - p)) d w ∧ x_hits (x_g x') (1 - p) = x_hits (x_g x) (1 - p) + k_b (g_hit (x_P p F) d w) ∧ ((F' p 0 = 6 ∧ RX x' p F' [] 3) ∨ (F' p 0 ≠ 6 ∧ RX x' p F' (ds.erase d) 1))
theorem q_step {d w : Nat} (h : RX x p F ds 1) (hd : d ∈ ds) (hw1 : 1 ≤ w) (hw : w ≤ 17) (h0 : g_re ds (x_P p F) d w = 0) : ∃ x' F', XN_step x (pl p w) (nI d) = some (g_hit (x_P p F) d w, x') ∧ S_is x x' p F F' ds d w := by
  have hok := RX_ok h
  have hr := d_range ds (RX_ds h) d hd
  have er := RX_reason h hr.1 hr.2 hw1 hw
  rw [h0] at er
  obtain ⟨-, hA⟩ := g_re_A hw1 hw h0
  have hfr := fun v (h1 : 1 ≤ v) (h2 : v ≤ 16) => RX_free h (RX_p h) h1 h2
  have h' := h
  obtain ⟨⟨hp, -, hds, -⟩, -, -, ⟨g1, g2, g3⟩, hc, ⟨g5, g6⟩, hF, hs⟩ := h'
  obtain ⟨kn, G', hk, es⟩ := s_save (G := x.2.2.2.1) (a1 := (x_g x).1) (a2 := (x_g x).2.1) (a3 := (x_g x).2.2.1) (a4 := (x_g x).2.2.2.1) (a5 := (x_g x).2.2.2.2.1) (a6 := (x_g x).2.2.2.2.2.1) (a7 := (x_g x).2.2.2.2.2.2.1) (a8 := (x_g x).2.2.2.2.2.2.2.1) (a9 := (x_g x).2.2.2.2.2.2.2.2.1) (a10 := (x_g x).2.2.2.2.2.2.2.2.2.1) (a11 := (x_g x).2.2.2.2.2.2.2.2.2.2.1) (a12 := (x_g x).2.2.2.2.2.2.2.2.2.2.2.1) (a13 := (x_g x).2.2.2.2.2.2.2.2.2.2.2.2) hs
  have hst := g_ok_st hok hA
  rw [g_st_eq] at hst
  obtain ⟨F', q0⟩ : ∃ F', F' = F_set (F_set F (1 - p) (g_th (F (1 - p)) d w)) p (g_mv (F p) d w) := ⟨_, rfl⟩
  have qp : F' p = g_mv (F p) d w := by rw [q0]; exact F_set_q
  have qo : F' (1 - p) = g_th (F (1 - p)) d w := by rw [q0, F_set_o (by omega)]; exact F_set_q
  have ho2 : g_ok (F' p, F' (1 - p)) := by rw [qp, qo]; exact hst
  have hf2 : ∀ v, 1 ≤ v → v ≤ 16 → F' p v = 0 ∨ F' (1 - p) (17 - v) = 0 := by rw [qp, qo]; exact free_mv hfr hA hr.1
  obtain ⟨b, hb⟩ : ∃ b, b = g_hit (x_P p F) d w := ⟨_, rfl⟩
  obtain ⟨hC1, hC2⟩ := c_doStep' (ph := (x_g x).2.1) (stk := (x_g x).2.2.2.1) (sc0 := (x_g x).2.2.2.2.2.2.2.1) (sc1 := (x_g x).2.2.2.2.2.2.2.2.1) (h0 := (x_g x).2.2.2.2.2.2.2.2.2.1) (h1 := (x_g x).2.2.2.2.2.2.2.2.2.2.1) g1 g3 g5 g6 hp hok hds hd hA q0 ho2 hb
  have hle3 : F' (1 - p) 0 ≤ F (1 - p) 0 := by rw [qo]; exact (g_th_le (g := F (1 - p)) (d := d) (w := w) (i := 0) (by omega)).1
  rw [← hb]
  obtain ⟨B0, hB0⟩ : ∃ B, B = b_L (F' 0) := ⟨_, rfl⟩
  obtain ⟨B1, hB1⟩ : ∃ B, B = b_L (F' 1) := ⟨_, rfl⟩
  obtain ⟨H0, hH0⟩ : ∃ B, B = s_h0 b p (x_g x).2.2.2.2.2.2.2.2.2.1 := ⟨_, rfl⟩
  obtain ⟨H1, hH1⟩ : ∃ B, B = s_h1 b p (x_g x).2.2.2.2.2.2.2.2.2.2.1 := ⟨_, rfl⟩
  rw [← hB0, ← hB1, ← hH0, ← hH1] at hC1 hC2
  by_cases h6 : F' p 0 = 6
  · have e := hC1 h6
    clear hC1 hC2
    refine ⟨x_set x kn G' ((x_g x).1, 3, 0, (x_g x).2.2.2.1, (x_g x).2.2.2.2.1, B0, B1, s_s0 p (x_g x).2.2.2.2.2.2.2.1 (s_w F' p (x_g x).2.2.2.1), s_s1 p (x_g x).2.2.2.2.2.2.2.2.1 (s_w F' p (x_g x).2.2.2.1), H0, H1, (x_g x).2.2.2.2.2.2.2.2.2.2.2), F', ?_, qp, qo, ?_, Or.inl ⟨h6, ⟨⟨hp, by omega, d_nil, fun _ => rfl⟩, x_ok4 hp ho2, x_free4 hp hf2, ⟨g1, kn_3, (show (0 : Int32) = d_I [] by decide +kernel)⟩, hc, ⟨hB0, hB1⟩, fun q => absurd rfl q, kn, hk, rfl⟩⟩⟩
    · unfold XN_step mX9_step
      rw [k_bd_some (pb_is p hp w (by omega) hw1), if_neg (by decide), k_bd_some (die_is d hr.2 hr.1), if_neg (by decide), k_bd_some er, if_pos (show nI 0 = (0 : Int32) from nI_0), k_bd2_some es, k_bd9_some e]
      exact k_bd11_some rfl
    · rw [← hb]; exact x_hit1 hp hH0 hH1
  · have e := hC2 h6
    clear hC1 hC2
    obtain ⟨D1, hD1⟩ : ∃ B, B = d_I (ds.erase d) := ⟨_, rfl⟩
    rw [← hD1] at e
    refine ⟨x_set x kn G' ((x_g x).1, (x_g x).2.1, D1, (x_g x).2.2.2.1, (x_g x).2.2.2.2.1, B0, B1, (x_g x).2.2.2.2.2.2.2.1, (x_g x).2.2.2.2.2.2.2.2.1, H0, H1, (x_g x).2.2.2.2.2.2.2.2.2.2.2), F', ?_, qp, qo, ?_, Or.inr ⟨h6, ⟨⟨hp, by omega, d_erase ds hds d hd, fun q => absurd rfl q⟩, x_ok4 hp ho2, x_free4 hp hf2, ⟨g1, g2, hD1⟩, hc, ⟨hB0, hB1⟩, fun _ => h_six hp ho2 h6 hle3 (hF (by omega)), kn, hk, rfl⟩⟩⟩
    · unfold XN_step mX9_step
      rw [k_bd_some (pb_is p hp w (by omega) hw1), if_neg (by decide), k_bd_some (die_is d hr.2 hr.1), if_neg (by decide), k_bd_some er, if_pos (show nI 0 = (0 : Int32) from nI_0), k_bd2_some es, k_bd9_some e]
      exact k_bd11_some rfl
    · rw [← hb]; exact x_hit1 hp hH0 hH1
theorem pv_1 : ∀ q, q < 2 → ∀ v, v < 17 → (1 ≤ v → ¬ pl q v = -1 ∧ ¬ pl q v = 16 ∧ mX9_isPlace (pl q v) = some true) := by decide +kernel
theorem b_mv_free {f g : Nat → Nat} {w v : Nat} (hf : ∀ u, 1 ≤ u → u ≤ 16 → f u = 0 ∨ g (17 - u) = 0) (hg : g (17 - v) = 0) : ∀ u, 1 ≤ u → u ≤ 16 → b_mv f w v u = 0 ∨ g (17 - u) = 0 := by
  intro u h1 h2
  by_cases c : u = v
  · right; rw [c]; exact hg
  · rcases hf u h1 h2 with q | q
    · left; rw [b_mv_at, if_neg (c := u = v) c]; omega
    · exact Or.inr q
theorem q_carry {q w v : Nat} (h : RX x p F ds 0) (hq : q < 2) (hw1 : 1 ≤ w) (hw : w ≤ 16) (hv1 : 1 ≤ v) (hv : v ≤ 16) (hf : 0 < F q w) (hg : F (1 - q) (17 - v) = 0) : ∃ x' F', XN_carry x (nI q) (pl q w) (pl q v) = some (nI (g_pip (b_mv (F q) w v)), x') ∧ F' q = b_mv (F q) w v ∧ RX x' p F' [] 0 := by
  have hokq := RX_okq h hq
  have hbq := RX_b h hq
  have hq1 : 1 - q < 2 := by omega
  have hfr := fun u (h1 : 1 ≤ u) (h2 : u ≤ 16) => RX_free h hq h1 h2
  have h' := h
  obtain ⟨⟨hp, -, hds, hn⟩, ⟨ho, ho'⟩, -, ⟨g1, g2, g3⟩, hc, ⟨g5, g6⟩, hF, hs⟩ := h'
  obtain rfl := hn (by omega)
  obtain ⟨kn, G', hk, es⟩ := s_save (G := x.2.2.2.1) (a1 := (x_g x).1) (a2 := (x_g x).2.1) (a3 := (x_g x).2.2.1) (a4 := (x_g x).2.2.2.1) (a5 := (x_g x).2.2.2.2.1) (a6 := (x_g x).2.2.2.2.2.1) (a7 := (x_g x).2.2.2.2.2.2.1) (a8 := (x_g x).2.2.2.2.2.2.2.1) (a9 := (x_g x).2.2.2.2.2.2.2.2.1) (a10 := (x_g x).2.2.2.2.2.2.2.2.2.1) (a11 := (x_g x).2.2.2.2.2.2.2.2.2.2.1) (a12 := (x_g x).2.2.2.2.2.2.2.2.2.2.2.1) (a13 := (x_g x).2.2.2.2.2.2.2.2.2.2.2.2) hs
  have h6 : F q 0 < 6 := by
    have := hF (by omega)
    rcases (show q = 0 ∨ q = 1 by omega) with rfl | rfl
    · exact this.1
    · exact this.2
  have hm0 : b_mv (F q) w v 0 = F q 0 := by rw [b_mv_at, if_neg (by omega), if_neg (by omega)]; omega
  have hpv := pv_1 q hq v (by omega) hv1
  have hpw := pv_1 q hq w (by omega) hw1
  have hle : F q w ≤ 6 := b_ok_le hbq (by omega)
  have ecnt : mX1_countAt (b_L (F 0)) (b_L (F 1)) (1 - nI q) (pl q v) = some (nI 0) := by
    have e := c_cw (w := 17 - v) hq1 (by omega) ho ho'
    rw [hg] at e
    rw [show (1 : Int32) - nI q = nI (1 - q) from r_1p hq, pl_opp q hq v (by omega) hv1]
    exact e
  have ecc : mX1_canCarry (x_g x).2.1 (x_g x).2.2.2.2.2.1 (x_g x).2.2.2.2.2.2.1 (nI q) (pl q w) (pl q v) = some true := by
    rw [g2, g5, g6]
    unfold mX1_canCarry
    rw [if_pos (show nI 0 = (0 : Int32) from nI_0), k_bd_some (c_cw hq (by omega) ho ho'), if_neg (show ¬ nI (F q w) = (0 : Int32) from nI_ne0 hf (by omega)), if_neg hpv.1, if_neg hpv.2.1]
    unfold mX1_canCarry_34
    rw [if_neg (by decide), k_bd_some ecnt, if_pos (by decide), c_cc54 hq (by omega) (by omega) ho ho' hf, hm0, decide_eq_true (show ¬ F q 0 = 6 by omega)]
  obtain ⟨F', q0⟩ : ∃ F', F' = F_set F q (b_mv (F q) w v) := ⟨_, rfl⟩
  have qp : F' q = b_mv (F q) w v := by rw [q0]; exact F_set_q
  have qo : F' (1 - q) = F (1 - q) := by rw [q0, F_set_o (by omega)]
  have edc : mX1_doCarry (x_g x).2.2.2.2.2.1 (x_g x).2.2.2.2.2.2.1 (nI q) (pl q w) (pl q v) = some (b_L (F' 0), b_L (F' 1)) := by
    rw [g5, g6]; exact c_doCarry hq (by omega) (by omega) ho ho' hf qp qo
  have hok2 : g_ok (F' q, F' (1 - q)) := by rw [qp, qo]; exact (g_ok_mv hokq (by omega) (by omega) hf).1
  have hpo : mX1_piecesOf (b_L (F' 0)) (b_L (F' 1)) (nI q) = some (b_L (F' q)) := c_po hq
  have hpip : mX3_sumOfWays (b_L (F' q)) = some (nI (g_pip (b_mv (F q) w v))) := by rw [← qp]; exact c_pip hok2.1
  have hf2 : ∀ u, 1 ≤ u → u ≤ 16 → F' q u = 0 ∨ F' (1 - q) (17 - u) = 0 := by rw [qp, qo]; exact b_mv_free hfr hg
  have h62 : F' 0 0 < 6 ∧ F' 1 0 < 6 := by
    have h3 := hF (by omega)
    have h4 : F' q 0 < 6 := by rw [qp, hm0]; exact h6
    rcases (show q = 0 ∨ q = 1 by omega) with rfl | rfl
    · exact ⟨h4, by rw [show F' 1 = F 1 from qo]; exact h3.2⟩
    · exact ⟨by rw [show F' 0 = F 0 from qo]; exact h3.1, h4⟩
  obtain ⟨B0, hB0⟩ : ∃ B, B = b_L (F' 0) := ⟨_, rfl⟩
  obtain ⟨B1, hB1⟩ : ∃ B, B = b_L (F' 1) := ⟨_, rfl⟩
  rw [← hB0, ← hB1] at edc hpo
  refine ⟨x_set x kn G' ((x_g x).1, (x_g x).2.1, (x_g x).2.2.1, (x_g x).2.2.2.1, (x_g x).2.2.2.2.1, B0, B1, (x_g x).2.2.2.2.2.2.2), F', ?_, qp, ⟨hp, by omega, d_nil, fun _ => rfl⟩, x_ok4 hq hok2, x_free4 hq hf2, ⟨g1, g2, g3⟩, hc, ⟨hB0, hB1⟩, fun _ => h62, kn, hk, rfl⟩
  unfold XN_carry mX9_carry
  rw [k_bd_some (pl_1 hq), if_neg (by decide), k_bd_some hpw.2.2, if_neg (by decide), k_bd_some hpv.2.2, if_neg (by decide), k_bd_some ecc, if_neg (by decide), k_bd2_some es, k_bd2_some edc, k_bd_some hpo, k_bd_some hpip]
  exact k_bd5_some rfl
end QS
