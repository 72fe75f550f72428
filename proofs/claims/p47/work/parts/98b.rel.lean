/-! what the object holds, told in the game's numbers; the questions -/
abbrev x_g (x : XT) : GT := x.2.2.2.2.1
def RX (x : XT) (p : Nat) (F : Nat → Nat → Nat) (ds : List Nat) (ph : Nat) : Prop :=
  (p < 2 ∧ ph < 4 ∧ ds ∈ d_all ∧ (ph ≠ 1 → ds = [])) ∧ (g_ok (F 0, F 1) ∧ g_ok (F 1, F 0)) ∧ (∀ w, 1 ≤ w → w ≤ 16 → F 0 w = 0 ∨ F 1 (17 - w) = 0) ∧
  ((x_g x).1 = nI p ∧ (x_g x).2.1 = nI ph ∧ (x_g x).2.2.1 = d_I ds) ∧
  ((x_g x).2.2.2.2.1 = -1 ∨ (x_g x).2.2.2.2.1 = nI 0 ∨ (x_g x).2.2.2.2.1 = nI 1) ∧
  ((x_g x).2.2.2.2.2.1 = b_L (F 0) ∧ (x_g x).2.2.2.2.2.2.1 = b_L (F 1)) ∧
  (ph ≠ 3 → F 0 0 < 6 ∧ F 1 0 < 6) ∧ ∃ kn : Nat, kn ≤ 5 ∧ x.2.1 = nI kn
abbrev x_P (p : Nat) (F : Nat → Nat → Nat) : GP := (F p, F (1 - p))
section QX
variable {x : XT} {p : Nat} {F : Nat → Nat → Nat} {ds : List Nat} {ph : Nat}
theorem RX_p (h : RX x p F ds ph) : p < 2 := h.1.1
theorem RX_ph (h : RX x p F ds ph) : ph < 4 := h.1.2.1
theorem RX_ds (h : RX x p F ds ph) : ds ∈ d_all := h.1.2.2.1
theorem RX_dn (h : RX x p F ds ph) (h1 : ph ≠ 1) : ds = [] := h.1.2.2.2 h1
theorem RX_ok (h : RX x p F ds ph) : g_ok (x_P p F) := ok_q h.1.1 h.2.1.1 h.2.1.2
theorem RX_okq (h : RX x p F ds ph) {q : Nat} (hq : q < 2) : g_ok (x_P q F) := ok_q hq h.2.1.1 h.2.1.2
theorem RX_b (h : RX x p F ds ph) {q : Nat} (hq : q < 2) : b_ok (F q) := (RX_okq h hq).1
theorem RX_free (h : RX x p F ds ph) {q w : Nat} (hq : q < 2) (h1 : 1 ≤ w) (h2 : w ≤ 16) : F q w = 0 ∨ F (1 - q) (17 - w) = 0 := by
  rcases (show q = 0 ∨ q = 1 by omega) with rfl | rfl
  · exact h.2.2.1 w h1 h2
  · have := h.2.2.1 (17 - w) (by omega) (by omega)
    rw [show 17 - (17 - w) = w by omega] at this
    exact this.symm
theorem RX_po (h : RX x p F ds ph) {q : Nat} (hq : q < 2) : mX1_piecesOf (x_g x).2.2.2.2.2.1 (x_g x).2.2.2.2.2.2.1 (nI q) = some (b_L (F q)) := by
  obtain ⟨-, -, -, -, -, ⟨g5, g6⟩, -⟩ := h
  rw [g5, g6]; exact c_po hq
theorem RX_mine (h : RX x p F ds ph) : mX1_moversPieces (x_g x).1 (x_g x).2.2.2.2.2.1 (x_g x).2.2.2.2.2.2.1 = some (b_L (F p)) := by
  obtain ⟨⟨hp, -⟩, -, -, ⟨g1, -⟩, -, ⟨g5, g6⟩, -⟩ := h
  rw [g1, g5, g6]; exact c_mov hp
theorem RX_others (h : RX x p F ds ph) : mX1_othersPieces (x_g x).1 (x_g x).2.2.2.2.2.1 (x_g x).2.2.2.2.2.2.1 = some (b_L (F (1 - p))) := by
  obtain ⟨⟨hp, -⟩, -, -, ⟨g1, -⟩, -, ⟨g5, g6⟩, -⟩ := h
  rw [g1, g5, g6]; exact c_oth hp
theorem RX_reach (h : RX x p F ds ph) : mX1_reachNow (x_g x).1 (x_g x).2.2.1 (x_g x).2.2.2.2.2.1 (x_g x).2.2.2.2.2.2.1 = some (nI (g_R ds (x_P p F))) := by
  have h1 := RX_mine h
  have h2 := RX_others h
  have e : mX7_reachOf 6 (b_L (F p)) (b_L (F (1 - p))) (d_I ds) (nI 4) = some (nI (g_R ds (x_P p F))) := c_reach (P := x_P p F) (RX_ds h) (RX_ok h)
  unfold mX1_reachNow
  rw [k_bd_some h1, k_bd_some h2, h.2.2.2.1.2.2, kn_4, k_bd_some e]
theorem RX_reason {d w : Nat} (h : RX x p F ds ph) (hd1 : 1 ≤ d) (hd : d < 7) (hw1 : 1 ≤ w) (hw : w ≤ 17) : mX1_reasonAgainst (x_g x).1 (x_g x).2.2.1 (x_g x).2.2.2.2.2.1 (x_g x).2.2.2.2.2.2.1 (pl p w) (nI d) = some (nI (g_re ds (x_P p F) d w)) := by
  have h1 := RX_mine h
  have h2 := RX_others h
  have h4 := RX_reach h
  have g1 := h.2.2.2.1.1
  have g3 := h.2.2.2.1.2.2
  have hp := RX_p h
  have e9 : mX7_reason (b_L (F p)) (b_L (F (1 - p))) (d_I ds) (nI w) (nI d) (nI (g_R ds (x_P p F))) = some (nI (g_re ds (x_P p F) d w)) := c_reason (P := x_P p F) (RX_ds h) (RX_ok h) hd1 hd hw1 hw
  unfold mX1_reasonAgainst
  rw [k_bd_some h1, k_bd_some h2, g1, k_bd_some (pb_wayOf p hp w (by omega))]
  rw [g1] at h4
  rw [k_bd_some h4, g3, k_bd_some e9]
theorem q_mover (h : RX x p F ds ph) : XR_mover x = some (nI p) := congrArg some h.2.2.2.1.1
theorem q_phase (h : RX x p F ds ph) : XR_phase x = some (nI ph) := congrArg some h.2.2.2.1.2.1
theorem q_diceLeft (h : RX x p F ds ph) : XR_diceLeft x = some (nI ds.length) := by
  unfold XR_diceLeft mX9_diceLeft
  rw [h.2.2.2.1.2.2, k_bd_some (d_count ds (RX_ds h))]
theorem q_dieLeft (h : RX x p F ds ph) {j : Nat} (hj : j < ds.length) : XR_dieLeft x (nI j) = some (nI (ds.getD j 0)) := by
  have hl := d_len ds (RX_ds h)
  unfold XR_dieLeft mX9_dieLeft
  rw [if_neg (nI_pos (by omega)), h.2.2.2.1.2.2, k_bd_some (d_count ds (RX_ds h)), if_pos (nI_lt hj (by omega)), k_bd_some (d_at ds (RX_ds h) j (by omega))]
theorem q_piecesOn (h : RX x p F ds ph) {q y : Nat} (hq : q < 2) (hy : y < 16) : XR_piecesOn x (nI q) (nI y) = some (nI (F q (pw q y))) := by
  obtain ⟨-, ⟨ho, ho'⟩, -, -, -, ⟨g5, g6⟩, -⟩ := h
  unfold XR_piecesOn mX9_piecesOn
  rw [k_bd_some (pl_1 hq), if_neg (by decide), k_bd_some (pt_1 y hy), if_neg (by decide), g5, g6, k_bd_some (c_cnt hq hy ho ho')]
theorem q_onBar (h : RX x p F ds ph) {q : Nat} (hq : q < 2) : XR_onBar x (nI q) = some (nI (F q 17)) := by
  unfold XR_onBar mX9_onBar
  rw [k_bd_some (pl_1 hq), if_neg (by decide), k_bd_some (RX_po h hq), k_bd_some (show mX3_on (b_L (F q)) 17 = some (nI (F q 17)) from b_on (w := 17) (RX_b h hq) (by omega))]
theorem q_borneOff (h : RX x p F ds ph) {q : Nat} (hq : q < 2) : XR_borneOff x (nI q) = some (nI (F q 0)) := by
  unfold XR_borneOff mX9_borneOff
  rw [k_bd_some (pl_1 hq), if_neg (by decide), k_bd_some (RX_po h hq), k_bd_some (show mX3_on (b_L (F q)) 0 = some (nI (F q 0)) from b_on (w := 0) (RX_b h hq) (by omega))]
theorem q_pips (h : RX x p F ds ph) {q : Nat} (hq : q < 2) : XR_pips x (nI q) = some (nI (g_pip (F q))) := by
  unfold XR_pips mX9_pips
  rw [k_bd_some (pl_1 hq), if_neg (by decide), k_bd_some (RX_po h hq), k_bd_some (c_pip (RX_b h hq))]
theorem q_blots (h : RX x p F ds ph) {q : Nat} (hq : q < 2) : XR_blots x (nI q) = some (nI (g_blot (F q))) := by
  unfold XR_blots mX9_blots
  rw [k_bd_some (pl_1 hq), if_neg (by decide), k_bd_some (RX_po h hq), k_bd_some (c_blot (RX_b h hq))]
theorem q_blockade (h : RX x p F ds ph) {q : Nat} (hq : q < 2) : ∃ r, XR_blockade x (nI q) = some (nI r) ∧ g_mw (g_blk (F q)) 16 r := by
  obtain ⟨r, e1, e2⟩ := c_wall (RX_b h hq)
  refine ⟨r, ?_, e2⟩
  unfold XR_blockade mX9_blockade
  rw [k_bd_some (pl_1 hq), if_neg (by decide), k_bd_some (RX_po h hq), k_bd_some e1]
theorem q_entering (h : RX x p F ds ph) {q : Nat} (hq : q < 2) : XR_entering x (nI q) = some (nI (36 - g_bar (F (1 - q)) * g_bar (F (1 - q)))) := by
  have e1 : nI 1 - nI q = nI (1 - q) := r_1p hq
  have hq1 : 1 - q < 2 := by omega
  unfold XR_entering mX9_entering
  rw [k_bd_some (pl_1 hq), if_neg (by decide), show (1 : Int32) - nI q = nI (1 - q) from e1, k_bd_some (RX_po h hq1), k_bd_some (c_enter (RX_b h hq1))]
theorem q_stake : XR_stake x = some (x_g x).2.2.2.1 := rfl
theorem q_cubeOf : XR_cubeOf x = some (x_g x).2.2.2.2.1 := rfl
theorem q_score {q : Nat} (hq : q < 2) : XR_score x (nI q) = some (if q = 0 then (x_g x).2.2.2.2.2.2.2.1 else (x_g x).2.2.2.2.2.2.2.2.1) := by
  unfold XR_score mX9_score
  rw [k_bd_some (pl_1 hq), if_neg (by decide), k_bd_some (sc_1 hq).1]
theorem q_hits {q : Nat} (hq : q < 2) : XR_hits x (nI q) = some (if q = 0 then (x_g x).2.2.2.2.2.2.2.2.2.1 else (x_g x).2.2.2.2.2.2.2.2.2.2.1) := by
  unfold XR_hits mX9_hits
  rw [k_bd_some (pl_1 hq), if_neg (by decide), k_bd_some (sc_1 hq).2]
theorem die_is : ∀ d, d < 7 → (1 ≤ d → mX0_isDie (nI d) = some true) := by decide +kernel
theorem q_why (h : RX x p F ds ph) {d w : Nat} (hd1 : 1 ≤ d) (hd : d < 7) (hw1 : 1 ≤ w) (hw : w ≤ 17) : XR_whyNoStep x (pl p w) (nI d) = some (nI (g_re ds (x_P p F) d w)) := by
  unfold XR_whyNoStep mX9_whyNoStep
  rw [k_bd_some (pb_is p (RX_p h) w (by omega) hw1), if_neg (by decide), k_bd_some (die_is d hd hd1), if_neg (by decide), k_bd_some (RX_reason h hd1 hd hw1 hw)]
theorem q_possible (h : RX x p F ds ph) : XR_possibleSteps x = some (nI (g_poss ds (x_P p F))) := by
  have e9 : mX7_countPossible (b_L (F p)) (b_L (F (1 - p))) (d_I ds) = some (nI (g_poss ds (x_P p F))) := c_count (P := x_P p F) (RX_ds h) (RX_ok h)
  unfold XR_possibleSteps mX9_possibleSteps
  rw [k_bd_some (RX_mine h), k_bd_some (RX_others h), h.2.2.2.1.2.2, k_bd_some e9]
theorem q_reach (h : RX x p F ds ph) : XR_reach x = some (nI (g_R ds (x_P p F))) := by
  unfold XR_reach mX9_reach
  rw [k_bd_some (RX_reach h)]
theorem q_shots (h : RX x p F ds ph) {y : Nat} (hy : y < 16) : XR_shots x (nI y) = some (nI (g_sh F y)) ∧ XR_shotsByKinds x (nI y) = some (nI (g_sh F y)) := by
  obtain ⟨-, ⟨ho, ho'⟩, -, -, -, ⟨g5, g6⟩, -⟩ := h
  constructor
  · unfold XR_shots mX9_shots
    rw [k_bd_some (pt_1 y hy), if_neg (by decide), g5, g6, k_bd_some (c_shotsR hy ho ho')]
  · unfold XR_shotsByKinds mX9_shotsByKinds
    rw [k_bd_some (pt_1 y hy), if_neg (by decide), g5, g6, k_bd_some (c_shotsK hy ho ho')]
theorem q_blotsBehind (h : RX x p F ds ph) {d w : Nat} (hd1 : 1 ≤ d) (hd : d < 7) (hw1 : 1 ≤ w) (hw : w ≤ 17) (h0 : g_re ds (x_P p F) d w = 0) : XR_blotsBehind x (pl p w) (nI d) = some (nI (g_blot (g_mv (F p) d w))) := by
  obtain ⟨-, hA⟩ := g_re_A hw1 hw h0
  have hpos : 0 < F p w := (g_ban0.mp hA.2.2).1
  have hok := RX_ok h
  have hst := (g_ok_st hok hA).1
  have er := RX_reason h hd1 hd hw1 hw
  rw [h0] at er
  have e1 : mX7_mineBehind (b_L (F p)) (nI w) (nI d) = some (b_L (g_mv (F p) d w)) := c_mine hok.1 hd (by omega) hpos
  have e2 : mX3_singles (b_L (g_mv (F p) d w)) = some (nI (g_blot (g_mv (F p) d w))) := c_blot hst
  unfold XR_blotsBehind mX9_blotsBehind
  rw [k_bd_some (pb_is p (RX_p h) w (by omega) hw1), if_neg (by decide), k_bd_some (die_is d hd hd1), if_neg (by decide), k_bd_some er, if_pos (show nI 0 = (0 : Int32) from nI_0), h.2.2.2.1.1, k_bd_some (pb_wayOf p (RX_p h) w (by omega))]
  have h1 := RX_mine h
  rw [h.2.2.2.1.1] at h1
  rw [k_bd_some h1, k_bd_some e1, k_bd_some e2]
theorem q_plays (h : RX x p F ds ph) {N : Nat} (hN : ∀ a6, pE (b_L (F p)) (b_L (F (1 - p))) (d_I ds) a6 = some (nI N)) : XR_plays x = some (nI N) ∧ XR_playsByOrders x = some (nI N) := by
  constructor
  · unfold XR_plays mX9_plays
    rw [k_bd_some (RX_mine h), k_bd_some (RX_others h), h.2.2.2.1.2.2, k_bd_some (hN false)]
  · unfold XR_playsByOrders mX9_playsByOrders
    rw [k_bd_some (RX_mine h), k_bd_some (RX_others h), h.2.2.2.1.2.2, k_bd_some (hN true)]
theorem q_playsWith (h : RX x p F ds ph) {a b N : Nat} (ha1 : 1 ≤ a) (ha : a < 7) (hb1 : 1 ≤ b) (hb : b < 7) (hN : pE (b_L (F p)) (b_L (F (1 - p))) (d_I (d_rol a b)) false = some (nI N)) : XR_playsWith x (nI a) (nI b) = some (nI N) := by
  unfold XR_playsWith mX9_playsWith
  rw [k_bd_some (die_is a ha ha1), if_neg (by decide), k_bd_some (die_is b hb hb1), if_neg (by decide), k_bd_some (show mX0_rolled (nI a) (nI b) = some (d_I (d_rol a b)) from d_rolled a ha b hb ha1 hb1), k_bd_some (RX_mine h), k_bd_some (RX_others h), k_bd_some hN]
end QX
