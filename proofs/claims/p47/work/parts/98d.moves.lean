/-! what the calls make of the object -/
theorem s_save {cnt : Int32} {G : Nat → GT} {a1 a2 a3 a4 a5 : Int32} {a6 a7 : Int64} {a8 a9 a10 a11 : Int32} {a12 : Bool} {a13 : Int32} (h : ∃ kn : Nat, kn ≤ 5 ∧ cnt = nI kn) : ∃ (kn : Nat) (G' : Nat → GT), kn ≤ 5 ∧ mX2_save cnt G a1 a2 a3 a4 a5 a6 a7 a8 a9 a10 a11 a12 a13 = some (nI kn, G') := by
  obtain ⟨kn, hkn, rfl⟩ := h
  by_cases h5 : kn = 5
  · subst h5
    exact ⟨5, _, by omega, rfl⟩
  · refine ⟨kn + 1, p_up G kn (a1, a2, a3, a4, a5, a6, a7, a8, a9, a10, a11, a12, a13), by omega, ?_⟩
    rcases (show kn = 0 ∨ kn = 1 ∨ kn = 2 ∨ kn = 3 ∨ kn = 4 by omega) with rfl | rfl | rfl | rfl | rfl <;> rfl
abbrev x_set (x : XT) (kn : Nat) (G' : Nat → GT) (g : GT) : XT := (x.1, nI kn, x.2.2.1, G', g, x.2.2.2.2.2.1, x.2.2.2.2.2.2)
section QM
variable {x : XT} {p : Nat} {F : Nat → Nat → Nat} {ds : List Nat} {ph : Nat}
theorem RX_set (h : RX x p F ds ph) {p' : Nat} {ds' : List Nat} {ph' kn : Nat} {G' : Nat → GT} {mv phs di stk cub sc0 sc1 : Int32} (hk : kn ≤ 5) (hp' : p' < 2) (hph' : ph' < 4) (hds' : ds' ∈ d_all) (hn : ph' ≠ 1 → ds' = []) (hF : ph' ≠ 3 → F 0 0 < 6 ∧ F 1 0 < 6) (g1 : mv = nI p') (g2 : phs = nI ph') (g3 : di = d_I ds') (hc : cub = -1 ∨ cub = nI 0 ∨ cub = nI 1) :
    RX (x_set x kn G' (mv, phs, di, stk, cub, (x_g x).2.2.2.2.2.1, (x_g x).2.2.2.2.2.2.1, sc0, sc1, (x_g x).2.2.2.2.2.2.2.2.2)) p' F ds' ph' := by
  obtain ⟨-, ho, hf, -, -, hp, -⟩ := h
  exact ⟨⟨hp', hph', hds', hn⟩, ho, hf, ⟨g1, g2, g3⟩, hc, hp, hF, kn, hk, rfl⟩
theorem q_offer (h : RX x p F ds 0) (h1 : ¬ (x_g x).2.2.2.2.1 = nI (1 - p)) (h2 : ¬ (32 : Int32) < (x_g x).2.2.2.1) : ∃ kn G', XN_offer x = some (2 * (x_g x).2.2.2.1, x_set x kn G' ((x_g x).1, 2, (x_g x).2.2)) ∧ RX (x_set x kn G' ((x_g x).1, 2, (x_g x).2.2)) p F [] 2 := by
  have h' := h
  obtain ⟨⟨hp, -, -, hn⟩, -, -, ⟨g1, g2, g3⟩, hc, -, hF, hs⟩ := h'
  obtain rfl := hn (by omega)
  obtain ⟨kn, G', hk, es⟩ := s_save (G := x.2.2.2.1) (a1 := (x_g x).1) (a2 := (x_g x).2.1) (a3 := (x_g x).2.2.1) (a4 := (x_g x).2.2.2.1) (a5 := (x_g x).2.2.2.2.1) (a6 := (x_g x).2.2.2.2.2.1) (a7 := (x_g x).2.2.2.2.2.2.1) (a8 := (x_g x).2.2.2.2.2.2.2.1) (a9 := (x_g x).2.2.2.2.2.2.2.2.1) (a10 := (x_g x).2.2.2.2.2.2.2.2.2.1) (a11 := (x_g x).2.2.2.2.2.2.2.2.2.2.1) (a12 := (x_g x).2.2.2.2.2.2.2.2.2.2.2.1) (a13 := (x_g x).2.2.2.2.2.2.2.2.2.2.2.2) hs
  have e24 : ∀ (a b : Int32), mX1_canOffer_24 a (nI 0) (x_g x).2.2.2.1 b true = some true := fun a b => by
    unfold mX1_canOffer_24
    rw [if_pos nI_0, if_neg (by decide), if_neg h2]
  have ec : mX1_canOffer (x_g x).1 (x_g x).2.1 (x_g x).2.2.2.1 (x_g x).2.2.2.2.1 = some true := by
    unfold mX1_canOffer
    rw [g1, g2]
    rcases hc with e | e | e
    · rw [e]
      split
      · exact e24 _ _
      · rw [if_pos rfl]; exact e24 _ _
    · have : p = 0 := by
        rcases (show p = 0 ∨ p = 1 by omega) with q | q
        · exact q
        · subst q; exact absurd e h1
      subst this
      rw [e, if_pos rfl]; exact e24 _ _
    · have : p = 1 := by
        rcases (show p = 0 ∨ p = 1 by omega) with q | q
        · subst q; exact absurd e h1
        · exact q
      subst this
      rw [e, if_pos rfl]; exact e24 _ _
  refine ⟨kn, G', ?_, RX_set h hk hp (by omega) d_nil (fun _ => rfl) (fun _ => hF (by omega)) g1 (by decide) g3 hc⟩
  unfold XN_offer mX9_offer
  rw [k_bd_some ec, if_neg (by decide), k_bd2_some es]; rfl
theorem q_take (h : RX x p F ds 2) : ∃ kn G', XN_take x = some (2 * (x_g x).2.2.2.1, x_set x kn G' ((x_g x).1, 0, (x_g x).2.2.1, 2 * (x_g x).2.2.2.1, nI (1 - p), (x_g x).2.2.2.2.2)) ∧ RX (x_set x kn G' ((x_g x).1, 0, (x_g x).2.2.1, 2 * (x_g x).2.2.2.1, nI (1 - p), (x_g x).2.2.2.2.2)) p F [] 0 := by
  have h' := h
  obtain ⟨⟨hp, -, -, hn⟩, -, -, ⟨g1, g2, g3⟩, hc, -, hF, hs⟩ := h'
  obtain rfl := hn (by omega)
  obtain ⟨kn, G', hk, es⟩ := s_save (G := x.2.2.2.1) (a1 := (x_g x).1) (a2 := (x_g x).2.1) (a3 := (x_g x).2.2.1) (a4 := (x_g x).2.2.2.1) (a5 := (x_g x).2.2.2.2.1) (a6 := (x_g x).2.2.2.2.2.1) (a7 := (x_g x).2.2.2.2.2.2.1) (a8 := (x_g x).2.2.2.2.2.2.2.1) (a9 := (x_g x).2.2.2.2.2.2.2.2.1) (a10 := (x_g x).2.2.2.2.2.2.2.2.2.1) (a11 := (x_g x).2.2.2.2.2.2.2.2.2.2.1) (a12 := (x_g x).2.2.2.2.2.2.2.2.2.2.2.1) (a13 := (x_g x).2.2.2.2.2.2.2.2.2.2.2.2) hs
  have ec : mX1_isOffered (x_g x).2.1 = some true := by rw [g2]; exact offered_iff (by omega)
  have e1 : (1 : Int32) - (x_g x).1 = nI (1 - p) := by rw [g1]; exact r_1p hp
  refine ⟨kn, G', ?_, RX_set h hk hp (by omega) d_nil (fun _ => rfl) (fun _ => hF (by omega)) g1 nI_0.symm g3 (cub_of hp)⟩
  unfold XN_take mX9_take
  rw [k_bd_some ec, if_neg (by decide), k_bd2_some es]
  unfold mX1_doTake
  rw [e1]; rfl
theorem q_drop (h : RX x p F ds 2) : ∃ (kn : Nat) (G' : Nat → GT) (sc0 sc1 : Int32), XN_drop x = some ((if p = 0 then (x_g x).2.2.2.2.2.2.2.1 else (x_g x).2.2.2.2.2.2.2.2.1) + (x_g x).2.2.2.1, x_set x kn G' ((x_g x).1, 3, 0, (x_g x).2.2.2.1, (x_g x).2.2.2.2.1, (x_g x).2.2.2.2.2.1, (x_g x).2.2.2.2.2.2.1, sc0, sc1, (x_g x).2.2.2.2.2.2.2.2.2)) ∧ RX (x_set x kn G' ((x_g x).1, 3, 0, (x_g x).2.2.2.1, (x_g x).2.2.2.2.1, (x_g x).2.2.2.2.2.1, (x_g x).2.2.2.2.2.2.1, sc0, sc1, (x_g x).2.2.2.2.2.2.2.2.2)) p F [] 3 ∧ (if p = 0 then sc0 else sc1) = (if p = 0 then (x_g x).2.2.2.2.2.2.2.1 else (x_g x).2.2.2.2.2.2.2.2.1) + (x_g x).2.2.2.1 := by
  have h' := h
  obtain ⟨⟨hp, -, -, hn⟩, -, -, ⟨g1, g2, g3⟩, hc, -, hF, hs⟩ := h'
  obtain ⟨kn, G', hk, es⟩ := s_save (G := x.2.2.2.1) (a1 := (x_g x).1) (a2 := (x_g x).2.1) (a3 := (x_g x).2.2.1) (a4 := (x_g x).2.2.2.1) (a5 := (x_g x).2.2.2.2.1) (a6 := (x_g x).2.2.2.2.2.1) (a7 := (x_g x).2.2.2.2.2.2.1) (a8 := (x_g x).2.2.2.2.2.2.2.1) (a9 := (x_g x).2.2.2.2.2.2.2.2.1) (a10 := (x_g x).2.2.2.2.2.2.2.2.2.1) (a11 := (x_g x).2.2.2.2.2.2.2.2.2.2.1) (a12 := (x_g x).2.2.2.2.2.2.2.2.2.2.2.1) (a13 := (x_g x).2.2.2.2.2.2.2.2.2.2.2.2) hs
  have ec : mX1_isOffered (x_g x).2.1 = some true := by rw [g2]; exact offered_iff (by omega)
  have d0 : (0 : Int32) = d_I [] := by decide +kernel
  rcases (show p = 0 ∨ p = 1 by omega) with rfl | rfl
  · refine ⟨kn, G', (x_g x).2.2.2.2.2.2.2.1 + (x_g x).2.2.2.1, (x_g x).2.2.2.2.2.2.2.2.1, ?_, RX_set h hk hp (by omega) d_nil (fun _ => rfl) (fun q => absurd rfl q) g1 kn_3 d0 hc, rfl⟩
    have ed : mX1_doDrop (x_g x).1 (x_g x).2.1 (x_g x).2.2.1 (x_g x).2.2.2.1 (x_g x).2.2.2.2.2.2.2.1 (x_g x).2.2.2.2.2.2.2.2.1 = some (3, 0, (x_g x).2.2.2.2.2.2.2.1 + (x_g x).2.2.2.1, (x_g x).2.2.2.2.2.2.2.2.1) := by
      unfold mX1_doDrop mX1_winBy
      rw [if_pos (show (x_g x).1 = 0 from g1.trans nI_0)]; rfl
    have eo : mX1_scoreOf ((x_g x).2.2.2.2.2.2.2.1 + (x_g x).2.2.2.1) (x_g x).2.2.2.2.2.2.2.2.1 (x_g x).1 = some ((x_g x).2.2.2.2.2.2.2.1 + (x_g x).2.2.2.1) := by
      rw [g1]; exact (sc_1 hp).1
    unfold XN_drop mX9_drop
    rw [k_bd_some ec, if_neg (by decide), k_bd2_some es, k_bd4_some ed, k_bd_some eo]; rfl
  · refine ⟨kn, G', (x_g x).2.2.2.2.2.2.2.1, (x_g x).2.2.2.2.2.2.2.2.1 + (x_g x).2.2.2.1, ?_, RX_set h hk hp (by omega) d_nil (fun _ => rfl) (fun q => absurd rfl q) g1 kn_3 d0 hc, rfl⟩
    have ed : mX1_doDrop (x_g x).1 (x_g x).2.1 (x_g x).2.2.1 (x_g x).2.2.2.1 (x_g x).2.2.2.2.2.2.2.1 (x_g x).2.2.2.2.2.2.2.2.1 = some (3, 0, (x_g x).2.2.2.2.2.2.2.1, (x_g x).2.2.2.2.2.2.2.2.1 + (x_g x).2.2.2.1) := by
      unfold mX1_doDrop mX1_winBy
      rw [if_neg (show ¬ (x_g x).1 = 0 from fun e => by rw [g1] at e; exact absurd e (by decide))]; rfl
    have eo : mX1_scoreOf (x_g x).2.2.2.2.2.2.2.1 ((x_g x).2.2.2.2.2.2.2.2.1 + (x_g x).2.2.2.1) (x_g x).1 = some ((x_g x).2.2.2.2.2.2.2.2.1 + (x_g x).2.2.2.1) := by
      rw [g1]; exact (sc_1 hp).1
    unfold XN_drop mX9_drop
    rw [k_bd_some ec, if_neg (by decide), k_bd2_some es, k_bd4_some ed, k_bd_some eo]; rfl
theorem g_F0f : ∀ w, w < 17 → (1 ≤ w → g_F0 w = 0 ∨ g_F0 (17 - w) = 0) := by decide +kernel
theorem q_newGame (h : RX x p F ds 3) : ∃ kn G', XN_newGame x = some (nI (1 - p), x_set x kn G' (nI (1 - p), 0, (x_g x).2.2.1, 1, -1, 563087660810240, 563087660810240, (x_g x).2.2.2.2.2.2.2)) ∧ RX (x_set x kn G' (nI (1 - p), 0, (x_g x).2.2.1, 1, -1, 563087660810240, 563087660810240, (x_g x).2.2.2.2.2.2.2)) (1 - p) (fun _ => g_F0) [] 0 := by
  have h' := h
  obtain ⟨⟨hp, -, -, hn⟩, -, -, ⟨g1, g2, g3⟩, hc, -, hF, hs⟩ := h'
  obtain rfl := hn (by omega)
  obtain ⟨kn, G', hk, es⟩ := s_save (G := x.2.2.2.1) (a1 := (x_g x).1) (a2 := (x_g x).2.1) (a3 := (x_g x).2.2.1) (a4 := (x_g x).2.2.2.1) (a5 := (x_g x).2.2.2.2.1) (a6 := (x_g x).2.2.2.2.2.1) (a7 := (x_g x).2.2.2.2.2.2.1) (a8 := (x_g x).2.2.2.2.2.2.2.1) (a9 := (x_g x).2.2.2.2.2.2.2.2.1) (a10 := (x_g x).2.2.2.2.2.2.2.2.2.1) (a11 := (x_g x).2.2.2.2.2.2.2.2.2.2.1) (a12 := (x_g x).2.2.2.2.2.2.2.2.2.2.2.1) (a13 := (x_g x).2.2.2.2.2.2.2.2.2.2.2.2) hs
  have ec : mX1_isOver (x_g x).2.1 = some true := by rw [g2]; exact over_iff (by omega)
  have e1 : (1 : Int32) - (x_g x).1 = nI (1 - p) := by rw [g1]; exact r_1p hp
  refine ⟨kn, G', ?_, ⟨by omega, by omega, d_nil, fun _ => rfl⟩, ⟨g_ok0, g_ok0⟩, fun w h1 h2 => g_F0f w (by omega) h1, ⟨rfl, nI_0.symm, g3⟩, Or.inl rfl, ⟨b_L0.symm, b_L0.symm⟩, fun _ => ⟨by decide, by decide⟩, kn, hk, rfl⟩
  unfold XN_newGame mX9_newGame
  rw [k_bd_some ec, if_neg (by decide), k_bd2_some es]
  unfold mX1_doNewGame
  rw [e1]; rfl
theorem q_endTurn (h : RX x p F ds 1) (hR : g_R ds (x_P p F) = 0) : ∃ kn G', XN_endTurn x = some (nI (1 - p), x_set x kn G' (nI (1 - p), 0, 0, (x_g x).2.2.2)) ∧ RX (x_set x kn G' (nI (1 - p), 0, 0, (x_g x).2.2.2)) (1 - p) F [] 0 := by
  have h' := h
  have hr := RX_reach h
  obtain ⟨⟨hp, -, -, -⟩, -, -, ⟨g1, g2, g3⟩, hc, -, hF, hs⟩ := h'
  obtain ⟨kn, G', hk, es⟩ := s_save (G := x.2.2.2.1) (a1 := (x_g x).1) (a2 := (x_g x).2.1) (a3 := (x_g x).2.2.1) (a4 := (x_g x).2.2.2.1) (a5 := (x_g x).2.2.2.2.1) (a6 := (x_g x).2.2.2.2.2.1) (a7 := (x_g x).2.2.2.2.2.2.1) (a8 := (x_g x).2.2.2.2.2.2.2.1) (a9 := (x_g x).2.2.2.2.2.2.2.2.1) (a10 := (x_g x).2.2.2.2.2.2.2.2.2.1) (a11 := (x_g x).2.2.2.2.2.2.2.2.2.2.1) (a12 := (x_g x).2.2.2.2.2.2.2.2.2.2.2.1) (a13 := (x_g x).2.2.2.2.2.2.2.2.2.2.2.2) hs
  have e1 : (1 : Int32) - (x_g x).1 = nI (1 - p) := by rw [g1]; exact r_1p hp
  have ec : mX1_canEndTurn (x_g x).1 (x_g x).2.1 (x_g x).2.2.1 (x_g x).2.2.2.2.2.1 (x_g x).2.2.2.2.2.2.1 = some true := by
    unfold mX1_canEndTurn
    rw [if_pos (show (x_g x).2.1 = 1 from g2), k_bd_some hr, hR, if_pos nI_0]
  refine ⟨kn, G', ?_, RX_set h hk (by omega) (by omega) d_nil (fun _ => rfl) (fun _ => hF (by omega)) rfl nI_0.symm (by decide +kernel) hc⟩
  unfold XN_endTurn mX9_endTurn
  rw [k_bd_some ec, if_neg (by decide), k_bd2_some es]
  unfold mX1_doEndTurn
  rw [e1]; rfl
theorem d_rol_in {a b : Nat} (ha1 : 1 ≤ a) (ha : a < 7) (hb1 : 1 ≤ b) (hb : b < 7) : d_rol a b ∈ d_all := d_rl a ha b hb ha1 hb1
theorem q_roll (h : RX x p F ds 0) {a b : Nat} (ha1 : 1 ≤ a) (ha : a < 7) (hb1 : 1 ≤ b) (hb : b < 7) : ∃ kn G', XN_roll x (nI a) (nI b) = some (nI (d_rol a b).length, x_set x kn G' ((x_g x).1, 1, d_I (d_rol a b), (x_g x).2.2.2)) ∧ RX (x_set x kn G' ((x_g x).1, 1, d_I (d_rol a b), (x_g x).2.2.2)) p F (d_rol a b) 1 := by
  have h' := h
  obtain ⟨⟨hp, -, -, hn⟩, -, -, ⟨g1, g2, g3⟩, hc, -, hF, hs⟩ := h'
  obtain ⟨kn, G', hk, es⟩ := s_save (G := x.2.2.2.1) (a1 := (x_g x).1) (a2 := (x_g x).2.1) (a3 := (x_g x).2.2.1) (a4 := (x_g x).2.2.2.1) (a5 := (x_g x).2.2.2.2.1) (a6 := (x_g x).2.2.2.2.2.1) (a7 := (x_g x).2.2.2.2.2.2.1) (a8 := (x_g x).2.2.2.2.2.2.2.1) (a9 := (x_g x).2.2.2.2.2.2.2.2.1) (a10 := (x_g x).2.2.2.2.2.2.2.2.2.1) (a11 := (x_g x).2.2.2.2.2.2.2.2.2.2.1) (a12 := (x_g x).2.2.2.2.2.2.2.2.2.2.2.1) (a13 := (x_g x).2.2.2.2.2.2.2.2.2.2.2.2) hs
  have ec : mX1_awaitsRoll (x_g x).2.1 = some true := by rw [g2]; exact awaits_iff (by omega)
  have er : mX1_doRoll (x_g x).2.1 (x_g x).2.2.1 (nI a) (nI b) = some (1, d_I (d_rol a b)) := by
    unfold mX1_doRoll
    rw [k_bd_some (show mX0_rolled (nI a) (nI b) = some (d_I (d_rol a b)) from d_rolled a ha b hb ha1 hb1)]
  refine ⟨kn, G', ?_, RX_set h hk hp (by omega) (d_rol_in ha1 ha hb1 hb) (fun q => absurd rfl q) (fun _ => hF (by omega)) g1 (by decide) rfl hc⟩
  unfold XN_roll mX9_roll
  rw [k_bd_some (die_is a ha ha1), if_neg (by decide), k_bd_some (die_is b hb hb1), if_neg (by decide), k_bd_some ec, if_neg (by decide), k_bd2_some es, k_bd2_some er, k_bd_some (d_count _ (d_rol_in ha1 ha hb1 hb))]
  rfl
end QM
