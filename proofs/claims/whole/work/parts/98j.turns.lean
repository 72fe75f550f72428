/-! the cube, the end of a turn, the roll: what they make of the game -/
theorem RGw_to {p : Nat} {F : Nat → Nat → Nat} {ds : List Nat} {ph : Nat} {g : GT} {s : Nat → Int32} (h : RGw p F ds ph g s) {p' : Nat} {ds' : List Nat} {ph' : Nat} {s' : Nat → Int32} {mv phs di stk cub sc0 sc1 : Int32} (hp' : p' < 2) (hph' : ph' < 4) (hds' : ds' ∈ d_all) (hn : ph' ≠ 1 → ds' = []) (hF : ph' ≠ 3 → F 0 0 < 6 ∧ F 1 0 < 6) (hs : ∀ k, k < 36 → s' k = s k) (h47 : ∀ k, 47 ≤ k → k < 51 → s' k = s k) (hD : RD s' ds') (e36 : s' 36 = nI p') (e37 : s' 37 = nI ph') (g1 : mv = nI p') (g2 : phs = nI ph') (g3 : di = d_I ds') (e43 : s' 43 = stk) (e44 : s' 44 = cub) (hc : cub = -1 ∨ cub = nI 0 ∨ cub = nI 1) (e45 : s' 45 = sc0) (e46 : s' 46 = sc1) :
    RGw p' F ds' ph' (mv, phs, di, stk, cub, g.2.2.2.2.2.1, g.2.2.2.2.2.2.1, sc0, sc1, g.2.2.2.2.2.2.2.2.2) s' := by
  obtain ⟨-, ho, ⟨h0, h1⟩, -, -, -, c, ⟨-, -, d3, d4⟩, ⟨e1, e2⟩, -⟩ := h
  refine ⟨⟨hp', hph', hds', hn⟩, ho, ⟨fun w hw => ?_, fun w hw => ?_⟩, hD, ⟨e36, e37, g1, g2, g3⟩, ⟨e43, e44, hc⟩, c, ⟨e45, e46, ?_, ?_⟩, ⟨?_, fun he => ?_⟩, hF⟩
  · rw [hs _ (ix_lt 0 (by omega) w hw)]; exact h0 w hw
  · rw [hs _ (ix_lt 1 (by omega) w hw)]; exact h1 w hw
  · rw [h47 _ (by omega) (by omega)]; exact d3
  · rw [h47 _ (by omega) (by omega)]; exact d4
  · rw [h47 _ (by omega) (by omega)]; exact e1
  · rw [h47 _ (by omega) (by omega)]; exact e2 he
theorem RD_hi {s : Nat → Int32} {ds : List Nat} {k : Nat} {v : Int32} (h : RD s ds) (hk : k < 38 ∨ 42 < k) : RD (upd s k v) ds := ⟨by rw [pk_un (by omega)]; exact h.1, fun i hi => by rw [pk_un (by omega)]; exact h.2 i hi⟩
theorem d_nil : ([] : List Nat) ∈ d_all := by decide +kernel
theorem nI_phs {ph : Nat} (h : ph < 4) (k : Nat) (hk : k < 4) : (nI ph = nI k) ↔ ph = k := nI_eq (by omega) (by omega)
theorem R_canOffer {p : Nat} {F : Nat → Nat → Nat} {ds : List Nat} {ph : Nat} {g : GT} {s : Nat → Int32} (h : RGw p F ds ph g s) : ∃ b, mX1_canOffer g.1 g.2.1 g.2.2.2.1 g.2.2.2.2.1 = some b ∧ mX10_canOffer s = some b ∧ (b = true → ph = 0) := by
  obtain ⟨⟨hp, hph, -, -⟩, -, -, -, ⟨h36, h37, g1, g2, -⟩, ⟨h43, h44, hc⟩, -⟩ := h
  have e0 : (nI ph = (0 : Int32)) ↔ ph = 0 := nI_phs hph 0 (by omega)
  have hcl : ∀ t, ph ≠ 0 → mX1_canOffer_24 (nI p) (nI ph) g.2.2.2.1 g.2.2.2.2.1 t = some false := fun t hne => by
    unfold mX1_canOffer_24; rw [if_neg (fun e => hne (e0.mp e))]
  unfold mX1_canOffer mX10_canOffer
  rw [g1, g2, h37, h36, h44, h43]
  by_cases h0 : ph = 0
  · subst h0
    rw [if_pos (e0.mpr rfl)]
    have hct : mX1_canOffer_24 (nI p) (nI 0) g.2.2.2.1 g.2.2.2.2.1 true = some (decide (¬ (32 : Int32) < g.2.2.2.1)) := by
      unfold mX1_canOffer_24
      rw [if_pos (e0.mpr rfl), if_neg (by decide)]
      by_cases h32 : (32 : Int32) < g.2.2.2.1
      · rw [if_pos h32, decide_eq_false (fun q => q h32)]
      · rw [if_neg h32, decide_eq_true h32]
    have hcf : mX1_canOffer_24 (nI p) (nI 0) g.2.2.2.1 g.2.2.2.2.1 false = some false := by
      unfold mX1_canOffer_24
      rw [if_pos (e0.mpr rfl), if_pos (by decide)]
    have hr : (if (32 : Int32) < g.2.2.2.1 then some false else some true) = some (decide (¬ (32 : Int32) < g.2.2.2.1)) := by
      by_cases h32 : (32 : Int32) < g.2.2.2.1
      · rw [if_pos h32, decide_eq_false (fun q => q h32)]
      · rw [if_neg h32, decide_eq_true h32]
    rw [hct, hcf, hr]
    rcases (show p = 0 ∨ p = 1 by omega) with rfl | rfl <;> rcases hc with e | e | e <;> rw [e]
    · rw [if_neg (by decide), if_pos (by decide), if_neg (by decide)]; exact ⟨_, rfl, rfl, fun _ => rfl⟩
    · rw [if_pos (by decide), if_neg (by decide)]; exact ⟨_, rfl, rfl, fun _ => rfl⟩
    · rw [if_neg (by decide), if_neg (by decide), if_pos (by decide)]; exact ⟨_, rfl, rfl, fun _ => rfl⟩
    · rw [if_neg (by decide), if_pos (by decide), if_neg (by decide)]; exact ⟨_, rfl, rfl, fun _ => rfl⟩
    · rw [if_neg (by decide), if_neg (by decide), if_pos (by decide)]; exact ⟨_, rfl, rfl, fun _ => rfl⟩
    · rw [if_pos (by decide), if_neg (by decide)]; exact ⟨_, rfl, rfl, fun _ => rfl⟩
  · rw [if_neg (fun e => h0 (e0.mp e)), hcl _ h0, hcl _ h0]
    refine ⟨false, ?_, rfl, fun q => by cases q⟩
    split
    · rfl
    · split <;> rfl
theorem T_offer {p : Nat} {F : Nat → Nat → Nat} {ds : List Nat} {g : GT} {s : Nat → Int32} (h : RGw p F ds 0 g s) : RGw p F [] 2 (g.1, 2, g.2.2) (upd s 37 2) := by
  have h' := h
  obtain ⟨⟨hp, -, -, hn⟩, -, -, hD, ⟨h36, h37, g1, g2, g3⟩, ⟨h43, h44, hc⟩, -, ⟨h45, h46, -⟩, -, hF⟩ := h'
  obtain rfl := hn (by omega)
  exact RGw_to h hp (by omega) d_nil (fun _ => rfl) (fun _ => hF (by omega)) (fun k hk => pk_un (by omega)) (fun k h1 h2 => pk_un (by omega)) (RD_hi hD (by omega)) ((pk_un (by omega)).trans h36) (pk_us.trans (by decide)) g1 (by decide) g3 ((pk_un (by omega)).trans h43) ((pk_un (by omega)).trans h44) hc ((pk_un (by omega)).trans h45) ((pk_un (by omega)).trans h46)
theorem ok_offer {x : XT} {m : MT} (h : Rel x m) : OK_offer Rel x m := by
  obtain ⟨hg, hp, hs, ht⟩ := h
  obtain ⟨p, F, ds, ph, hw⟩ := hg
  obtain ⟨b, e1, e2, e3⟩ := R_canOffer hw
  cases b
  · refine Or.inr ⟨0, setT m 1, ?_, ?_, rfl, ⟨⟨p, F, ds, ph, hw⟩, hp, hs, ht⟩⟩
    · unfold XT_offer mT9_offer; rw [k_bd_some e1]; rfl
    · unfold MN_offer mX10_offer; rw [k_bd_some e2]; rfl
  · obtain rfl := e3 rfl
    obtain ⟨cnt', G', before', known', s1, s2, hp'⟩ := R_save hp ⟨p, F, ds, 0, hw⟩
    refine Or.inl ⟨2 * x.2.2.2.2.1.2.2.2.1, (x.1, cnt', x.2.2.1, G', (x.2.2.2.2.1.1, 2, x.2.2.2.2.1.2.2), x.2.2.2.2.2.1, x.2.2.2.2.2.2), 2 * ((upd m.1 37 2) 43), (upd m.1 37 2, before', known', m.2.2.2.1, m.2.2.2.2.1, m.2.2.2.2.2.1, m.2.2.2.2.2.2.1, m.2.2.2.2.2.2.2.1, 0, m.2.2.2.2.2.2.2.2.2), ?_, ?_, rfl, ?_, ⟨p, F, [], 2, T_offer hw⟩, hp', hs, ht⟩
    · unfold XN_offer mX9_offer
      rw [k_bd_some e1, if_neg (by decide), k_bd2_some s1]; rfl
    · unfold MN_offer mX10_offer
      rw [k_bd_some e2, if_neg (by decide), k_bd2_some s2]; rfl
    · rw [show (upd m.1 37 2) 43 = x.2.2.2.2.1.2.2.2.1 from (pk_un (by omega)).trans hw.2.2.2.2.2.1.1]
theorem offered_iff {ph : Nat} (h : ph < 4) : mX1_isOffered (nI ph) = some (decide (ph = 2)) := by
  rcases (show ph = 0 ∨ ph = 1 ∨ ph = 2 ∨ ph = 3 by omega) with rfl | rfl | rfl | rfl <;> decide +kernel
theorem over_iff {ph : Nat} (h : ph < 4) : mX1_isOver (nI ph) = some (decide (ph = 3)) := by
  rcases (show ph = 0 ∨ ph = 1 ∨ ph = 2 ∨ ph = 3 by omega) with rfl | rfl | rfl | rfl <;> decide +kernel
theorem awaits_iff {ph : Nat} (h : ph < 4) : mX1_awaitsRoll (nI ph) = some (decide (ph = 0)) := by
  rcases (show ph = 0 ∨ ph = 1 ∨ ph = 2 ∨ ph = 3 by omega) with rfl | rfl | rfl | rfl <;> decide +kernel
theorem cub_of {p : Nat} (hp : p < 2) : nI (1 - p) = -1 ∨ nI (1 - p) = nI 0 ∨ nI (1 - p) = nI 1 := by
  rcases (show p = 0 ∨ p = 1 by omega) with rfl | rfl
  · exact Or.inr (Or.inr rfl)
  · exact Or.inr (Or.inl rfl)
theorem T_take {p : Nat} {F : Nat → Nat → Nat} {ds : List Nat} {g : GT} {s : Nat → Int32} (h : RGw p F ds 2 g s) : ∃ s', mX10_doubles s = some (2 * g.2.2.2.1, s') ∧ RGw p F [] 0 (g.1, 0, g.2.2.1, 2 * g.2.2.2.1, 1 - g.1, g.2.2.2.2.2) s' := by
  have h' := h
  obtain ⟨⟨hp, -, -, hn⟩, -, -, hD, ⟨h36, h37, g1, g2, g3⟩, ⟨h43, h44, hc⟩, -, ⟨h45, h46, -⟩, -, hF⟩ := h'
  obtain rfl := hn (by omega)
  have e43 : (upd s 37 0) 43 * 2 = 2 * g.2.2.2.1 := by rw [pk_un (by omega), h43, Int32.mul_comm]
  have e36 : (1 : Int32) - (upd (upd s 37 0) 43 ((upd s 37 0) 43 * 2)) 36 = nI (1 - p) := by rw [pk_un (by omega), pk_un (by omega), h36]; exact r_1p hp
  refine ⟨upd (upd (upd s 37 0) 43 (2 * g.2.2.2.1)) 44 (nI (1 - p)), ?_, ?_⟩
  · unfold mX10_doubles
    rw [e36, e43, pk_un (by omega), pk_us]
  · have g4 : (1 : Int32) - g.1 = nI (1 - p) := by rw [g1]; exact r_1p hp
    rw [g4]
    refine RGw_to h hp (by omega) d_nil (fun _ => rfl) (fun _ => hF (by omega)) (fun k hk => ?_) (fun k h1 h2 => ?_) (RD_hi (RD_hi (RD_hi hD (by omega)) (by omega)) (by omega)) ?_ ?_ g1 nI_0.symm g3 ?_ pk_us (cub_of hp) ?_ ?_
    · rw [pk_un (by omega), pk_un (by omega), pk_un (by omega)]
    · rw [pk_un (by omega), pk_un (by omega), pk_un (by omega)]
    · rw [pk_un (by omega), pk_un (by omega), pk_un (by omega)]; exact h36
    · rw [pk_un (by omega), pk_un (by omega), pk_us]; exact nI_0.symm
    · rw [pk_un (by omega), pk_us]
    · rw [pk_un (by omega), pk_un (by omega), pk_un (by omega)]; exact h45
    · rw [pk_un (by omega), pk_un (by omega), pk_un (by omega)]; exact h46
theorem ok_take {x : XT} {m : MT} (h : Rel x m) : OK_take Rel x m := by
  obtain ⟨hg, hp, hs, ht⟩ := h
  obtain ⟨p, F, ds, ph, hw⟩ := hg
  have hph := hw.1.2.1
  have g2 := hw.2.2.2.2.1.2.2.2.1
  have h37 := hw.2.2.2.2.1.2.1
  by_cases h2 : ph = 2
  · subst h2
    obtain ⟨cnt', G', before', known', s1, s2, hp'⟩ := R_save hp ⟨p, F, ds, 2, hw⟩
    obtain ⟨s', t1, t2⟩ := T_take hw
    refine Or.inl ⟨2 * x.2.2.2.2.1.2.2.2.1, (x.1, cnt', x.2.2.1, G', (x.2.2.2.2.1.1, 0, x.2.2.2.2.1.2.2.1, 2 * x.2.2.2.2.1.2.2.2.1, 1 - x.2.2.2.2.1.1, x.2.2.2.2.1.2.2.2.2.2), x.2.2.2.2.2.1, x.2.2.2.2.2.2), 2 * x.2.2.2.2.1.2.2.2.1, (s', before', known', m.2.2.2.1, m.2.2.2.2.1, m.2.2.2.2.2.1, m.2.2.2.2.2.2.1, m.2.2.2.2.2.2.2.1, 0, m.2.2.2.2.2.2.2.2.2), ?_, ?_, rfl, rfl, ⟨p, F, [], 0, t2⟩, hp', hs, ht⟩
    · unfold XN_take mX9_take
      rw [k_bd_some (show mX1_isOffered x.2.2.2.2.1.2.1 = some true from by rw [g2]; exact offered_iff hph), if_neg (by decide), k_bd2_some s1]; rfl
    · unfold MN_take mX10_take
      rw [if_pos (show m.1 37 = (2 : Int32) from h37), k_bd2_some s2, k_bd2_some t1]; rfl
  · refine Or.inr ⟨0, setT m 1, ?_, ?_, rfl, ⟨⟨p, F, ds, ph, hw⟩, hp, hs, ht⟩⟩
    · unfold XT_take mT9_take
      rw [k_bd_some (show mX1_isOffered x.2.2.2.2.1.2.1 = some false from by rw [g2, offered_iff hph, decide_eq_false h2]), if_pos (by decide)]
    · unfold MN_take mX10_take
      rw [if_neg (show ¬ m.1 37 = (2 : Int32) from fun e => h2 ((nI_phs hph 2 (by omega)).mp (h37.symm.trans e)))]; rfl
theorem T_drop {p : Nat} {F : Nat → Nat → Nat} {ds : List Nat} {g : GT} {s : Nat → Int32} (h : RGw p F ds 2 g s) : ∃ s' sc0 sc1 r, mX10_drops s = some (r, s') ∧ mX1_doDrop g.1 g.2.1 g.2.2.1 g.2.2.2.1 g.2.2.2.2.2.2.2.1 g.2.2.2.2.2.2.2.2.1 = some (3, 0, sc0, sc1) ∧ mX1_scoreOf sc0 sc1 g.1 = some r ∧ RGw p F [] 3 (g.1, 3, 0, g.2.2.2.1, g.2.2.2.2.1, g.2.2.2.2.2.1, g.2.2.2.2.2.2.1, sc0, sc1, g.2.2.2.2.2.2.2.2.2) s' := by
  have h' := h
  obtain ⟨⟨hp, -, -, hn⟩, -, -, hD, ⟨h36, h37, g1, g2, g3⟩, ⟨h43, h44, hc⟩, -, ⟨h45, h46, -⟩, -, hF⟩ := h'
  obtain rfl := hn (by omega)
  have hr : mX10_drops s = some (s (45 + p) + g.2.2.2.1, upd (upd s 37 3) (45 + p) (s (45 + p) + g.2.2.2.1)) := by
    unfold mX10_drops
    have a1 : (upd s 37 3) 36 = nI p := (pk_un (by omega)).trans h36
    have a2 : (45 : Int32) + nI p = nI (45 + p) := nI_add 45 p
    have a3 : (upd s 37 3) (45 + p) = s (45 + p) := pk_un (by omega)
    have a4 : (upd s 37 3) 43 = g.2.2.2.1 := (pk_un (by omega)).trans h43
    rw [a1, a2, nI_clamp (by omega), a3, a4, k_g_in (by omega) (by omega), k_g_in (by omega) (by omega), pk_un (show (36 : Nat) ≠ 45 + p by omega), a1, a2, k_g_in (by omega) (by omega), nI_clamp (by omega), pk_us]
  have hd3 : (0 : Int32) = d_I [] := by decide +kernel
  rcases (show p = 0 ∨ p = 1 by omega) with rfl | rfl
  · refine ⟨upd (upd s 37 3) 45 (s 45 + g.2.2.2.1), g.2.2.2.2.2.2.2.1 + g.2.2.2.1, g.2.2.2.2.2.2.2.2.1, s 45 + g.2.2.2.1, hr, ?_, ?_, ?_⟩
    · unfold mX1_doDrop mX1_winBy; rw [if_pos (show g.1 = (0 : Int32) from g1.trans nI_0)]; rfl
    · unfold mX1_scoreOf; rw [if_pos (show g.1 = (0 : Int32) from g1.trans nI_0), h45]
    · refine RGw_to h hp (by omega) d_nil (fun _ => rfl) (fun e => absurd rfl e) (fun k hk => ?_) (fun k h1 h2 => ?_) (RD_hi (RD_hi hD (by omega)) (by omega)) ?_ ?_ g1 (by decide) hd3 ?_ ?_ hc ?_ ?_
      · rw [pk_un (by omega), pk_un (by omega)]
      · rw [pk_un (by omega), pk_un (by omega)]
      · rw [pk_un (by omega), pk_un (by omega)]; exact h36
      · rw [pk_un (by omega), pk_us]; decide
      · rw [pk_un (by omega), pk_un (by omega)]; exact h43
      · rw [pk_un (by omega), pk_un (by omega)]; exact h44
      · rw [pk_us, h45]
      · rw [pk_un (by omega), pk_un (by omega)]; exact h46
  · refine ⟨upd (upd s 37 3) 46 (s 46 + g.2.2.2.1), g.2.2.2.2.2.2.2.1, g.2.2.2.2.2.2.2.2.1 + g.2.2.2.1, s 46 + g.2.2.2.1, hr, ?_, ?_, ?_⟩
    · unfold mX1_doDrop mX1_winBy; rw [if_neg (show ¬ g.1 = (0 : Int32) from by rw [g1]; decide)]; rfl
    · unfold mX1_scoreOf; rw [if_neg (show ¬ g.1 = (0 : Int32) from by rw [g1]; decide), h46]
    · refine RGw_to h hp (by omega) d_nil (fun _ => rfl) (fun e => absurd rfl e) (fun k hk => ?_) (fun k h1 h2 => ?_) (RD_hi (RD_hi hD (by omega)) (by omega)) ?_ ?_ g1 (by decide) hd3 ?_ ?_ hc ?_ ?_
      · rw [pk_un (by omega), pk_un (by omega)]
      · rw [pk_un (by omega), pk_un (by omega)]
      · rw [pk_un (by omega), pk_un (by omega)]; exact h36
      · rw [pk_un (by omega), pk_us]; decide
      · rw [pk_un (by omega), pk_un (by omega)]; exact h43
      · rw [pk_un (by omega), pk_un (by omega)]; exact h44
      · rw [pk_un (by omega), pk_un (by omega)]; exact h45
      · rw [pk_us, h46]
theorem ok_drop {x : XT} {m : MT} (h : Rel x m) : OK_drop Rel x m := by
  obtain ⟨hg, hp, hs, ht⟩ := h
  obtain ⟨p, F, ds, ph, hw⟩ := hg
  have hph := hw.1.2.1
  have g2 := hw.2.2.2.2.1.2.2.2.1
  have h37 := hw.2.2.2.2.1.2.1
  by_cases h2 : ph = 2
  · subst h2
    obtain ⟨cnt', G', before', known', s1, s2, hp'⟩ := R_save hp ⟨p, F, ds, 2, hw⟩
    obtain ⟨s', sc0, sc1, r, t1, t2, t3, t4⟩ := T_drop hw
    refine Or.inl ⟨r, (x.1, cnt', x.2.2.1, G', (x.2.2.2.2.1.1, 3, 0, x.2.2.2.2.1.2.2.2.1, x.2.2.2.2.1.2.2.2.2.1, x.2.2.2.2.1.2.2.2.2.2.1, x.2.2.2.2.1.2.2.2.2.2.2.1, sc0, sc1, x.2.2.2.2.1.2.2.2.2.2.2.2.2.2), x.2.2.2.2.2.1, x.2.2.2.2.2.2), r, (s', before', known', m.2.2.2.1, m.2.2.2.2.1, m.2.2.2.2.2.1, m.2.2.2.2.2.2.1, m.2.2.2.2.2.2.2.1, 0, m.2.2.2.2.2.2.2.2.2), ?_, ?_, rfl, rfl, ⟨p, F, [], 3, t4⟩, hp', hs, ht⟩
    · unfold XN_drop mX9_drop
      rw [k_bd_some (show mX1_isOffered x.2.2.2.2.1.2.1 = some true from by rw [g2]; exact offered_iff hph), if_neg (by decide), k_bd2_some s1, k_bd4_some t2, k_bd_some t3]; rfl
    · unfold MN_drop mX10_drop
      rw [if_pos (show m.1 37 = (2 : Int32) from h37), k_bd2_some s2, k_bd2_some t1]; rfl
  · refine Or.inr ⟨0, setT m 1, ?_, ?_, rfl, ⟨⟨p, F, ds, ph, hw⟩, hp, hs, ht⟩⟩
    · unfold XT_drop mT9_drop
      rw [k_bd_some (show mX1_isOffered x.2.2.2.2.1.2.1 = some false from by rw [g2, offered_iff hph, decide_eq_false h2]), if_pos (by decide)]
    · unfold MN_drop mX10_drop
      rw [if_neg (show ¬ m.1 37 = (2 : Int32) from fun e => h2 ((nI_phs hph 2 (by omega)).mp (h37.symm.trans e)))]; rfl
