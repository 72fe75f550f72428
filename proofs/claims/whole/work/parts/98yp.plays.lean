/-! plays: the three questions -/
theorem ok_plays {x : XT} {m : MT} (h : Rel x m) : OK_plays Rel x m := by
  obtain ⟨hg, hp, hs, ht⟩ := h
  have hg' := hg
  obtain ⟨p, F, ds, ph, hw⟩ := hg
  have h1 := RG_mine hw
  have h2 := RG_others hw
  obtain ⟨hB, hP⟩ := RG_B hw
  obtain ⟨⟨hp2, -, hds, -⟩, -, -, hD, ⟨h36, -, -, -, g3⟩, -⟩ := hw
  obtain ⟨N, as', laid', m', t', f0', f1', many', e1, e2⟩ := r_allPlays (aside := m.2.2.2.2.2.1) (laid := m.2.2.2.2.2.2.2.2.2.1) (m := m.2.2.2.2.2.2.2.2.2.2.2.2.2.1) (t := m.2.2.2.2.2.2.2.2.2.2.2.2.2.2.1) (many := m.2.2.2.2.2.2.2.2.2.2.2.2.2.2.2.1) (f0 := m.2.2.2.2.2.2.2.2.2.2.2.2.2.2.2.2.1) (f1 := m.2.2.2.2.2.2.2.2.2.2.2.2.2.2.2.2.2.1) hp2 hP hB hds hD h36
  have e2' : pE (b_L (F p)) (b_L (F (1 - p))) (d_I ds) false = some (nI N) := e2 false
  generalize nI N = r at e1 e2'
  refine ⟨r, x, r, (m.1, m.2.1, m.2.2.1, m.2.2.2.1, m.2.2.2.2.1, as', m.2.2.2.2.2.2.1, m.2.2.2.2.2.2.2.1, 0, laid', m.2.2.2.2.2.2.2.2.2.2.1, m.2.2.2.2.2.2.2.2.2.2.2.1, m.2.2.2.2.2.2.2.2.2.2.2.2.1, m', t', many', f0', f1', m.2.2.2.2.2.2.2.2.2.2.2.2.2.2.2.2.2.2), ?_, ?_, rfl, hg', hp, hs, ht⟩
  · unfold XN_plays mX9_plays
    rw [k_bd_some h1, k_bd_some h2, g3, k_bd_some e2']
    exact k_bd_some rfl
  · unfold MN_plays mX10_plays
    rw [k_bd9_some e1]
    exact k_bd10_some rfl
theorem ok_playsByOrders {x : XT} {m : MT} (h : Rel x m) : OK_playsByOrders Rel x m := by
  obtain ⟨hg, hp, hs, ht⟩ := h
  have hg' := hg
  obtain ⟨p, F, ds, ph, hw⟩ := hg
  have h1 := RG_mine hw
  have h2 := RG_others hw
  obtain ⟨hB, hP⟩ := RG_B hw
  obtain ⟨⟨hp2, -, hds, -⟩, -, -, hD, ⟨h36, -, -, -, g3⟩, -⟩ := hw
  obtain ⟨N, as', laid', m', t', f0', f1', many', e1, e2⟩ := r_allPlays (aside := m.2.2.2.2.2.1) (laid := m.2.2.2.2.2.2.2.2.2.1) (m := m.2.2.2.2.2.2.2.2.2.2.2.2.2.1) (t := m.2.2.2.2.2.2.2.2.2.2.2.2.2.2.1) (many := m.2.2.2.2.2.2.2.2.2.2.2.2.2.2.2.1) (f0 := m.2.2.2.2.2.2.2.2.2.2.2.2.2.2.2.2.1) (f1 := m.2.2.2.2.2.2.2.2.2.2.2.2.2.2.2.2.2.1) hp2 hP hB hds hD h36
  have e2' : pE (b_L (F p)) (b_L (F (1 - p))) (d_I ds) true = some (nI N) := e2 true
  generalize nI N = r at e1 e2'
  refine ⟨r, x, r, (m.1, m.2.1, m.2.2.1, m.2.2.2.1, m.2.2.2.2.1, as', m.2.2.2.2.2.2.1, m.2.2.2.2.2.2.2.1, 0, laid', m.2.2.2.2.2.2.2.2.2.2.1, m.2.2.2.2.2.2.2.2.2.2.2.1, m.2.2.2.2.2.2.2.2.2.2.2.2.1, m', t', many', f0', f1', m.2.2.2.2.2.2.2.2.2.2.2.2.2.2.2.2.2.2), ?_, ?_, rfl, hg', hp, hs, ht⟩
  · unfold XN_playsByOrders mX9_playsByOrders
    rw [k_bd_some h1, k_bd_some h2, g3, k_bd_some e2']
    exact k_bd_some rfl
  · unfold MN_playsByOrders mX10_playsByOrders
    rw [k_bd9_some e1]
    exact k_bd10_some rfl
/-! with dice of one's own -/
theorem w_save {s aside laid : Nat → Int32} {m t f0 f1 : Nat → Int64} {many a1 a2 : Int32} : ∀ (n i F : Nat) (dice : Nat → Int32), i + n = 6 → n < F → (∀ k, k < i → dice k = s (37 + k)) → ∃ dice', (∀ k, k < 6 → dice' k = s (37 + k)) ∧ k_fix (fun _ _ _ _ _ _ _ _ _ _ => none) (mX10_wouldPlay_2 a1 a2) F (nI i) s aside laid m t many f0 f1 dice = k_bd2 (mX10_rolls s a1 a2) (fun r10 w11 => if r10 = 2 then (mX10_wouldPlay_57 a1 a2 (upd (upd w11 41 0) 42 0) aside laid m t many f0 f1 dice') else (mX10_wouldPlay_57 a1 a2 w11 aside laid m t many f0 f1 dice')) := by
  intro n
  induction n with
  | zero =>
    intro i F dice hi hF h1
    obtain rfl : i = 6 := by omega
    refine ⟨dice, h1, ?_⟩
    rw [k_fix1 hF, mX10_wouldPlay_2, if_pos (show (6 : Int32) ≤ nI 6 by decide)]
  | succ n ih =>
    intro i F dice hi hF h1
    obtain ⟨d', a, e⟩ := ih (i + 1) (F - 1) (upd dice i (s (37 + i))) (by omega) (by omega) (fun k hk => by
      by_cases c : k = i
      · rw [c, pk_us]
      · rw [pk_un c]; exact h1 k (by omega))
    refine ⟨d', a, ?_⟩
    rw [k_fix1 (by omega), mX10_wouldPlay_2, if_neg (show ¬ (6 : Int32) ≤ nI i from nI_ge (a := i) (b := 6) (by omega) (by omega)), show (37 : Int32) + nI i = nI (37 + i) from nI_add 37 i, k_g_in (by omega) (by omega), k_g_in (by omega) (by omega), nI_clamp (by omega), nI_clamp (by omega), nI_1, e]
theorem w_rest {s0 aside laid dice : Nat → Int32} {m t f0 f1 : Nat → Int64} {many a1 a2 r : Int32} (hd : ∀ k, k < 6 → dice k = s0 (37 + k)) : ∀ (n i F : Nat) (s : Nat → Int32), i + n = 6 → n < F → (∀ k, (k < 37 + i ∨ 43 ≤ k) → s k = s0 k) → k_fix (fun _ _ _ _ _ _ _ _ _ _ _ => none) (mX10_wouldPlay_66 a1 a2) F r (nI i) s aside laid m t many f0 f1 dice = some (r, s0, aside, laid, m, t, many, f0, f1, dice) := by
  intro n
  induction n with
  | zero =>
    intro i F s hi hF h1
    obtain rfl : i = 6 := by omega
    have hs : s = s0 := funext fun k => h1 k (by omega)
    rw [k_fix1 hF, mX10_wouldPlay_66, if_pos (show (6 : Int32) ≤ nI 6 by decide), hs]
  | succ n ih =>
    intro i F s hi hF h1
    rw [k_fix1 (by omega), mX10_wouldPlay_66, if_neg (show ¬ (6 : Int32) ≤ nI i from nI_ge (a := i) (b := 6) (by omega) (by omega)), show (37 : Int32) + nI i = nI (37 + i) from nI_add 37 i, k_g_in (by omega) (by omega), k_g_in (by omega) (by omega), nI_clamp (by omega), nI_clamp (by omega), nI_1]
    exact ih (i + 1) (F - 1) _ (by omega) (by omega) (fun k hk => by
      by_cases c : k = 37 + i
      · rw [c, pk_us]; exact hd i (by omega)
      · rw [pk_un c]; exact h1 k (by omega))
theorem w_57 {s0 s aside laid dice : Nat → Int32} {p : Nat} {ds : List Nat} {P : GP} {m t f0 f1 : Nat → Int64} {many a1 a2 : Int32} (hp : p < 2) (hP : g_ok P) (hB : RB s p P) (hds : ds ∈ d_all) (hD : RD s ds) (h36 : s 36 = nI p) (hd : ∀ k, k < 6 → dice k = s0 (37 + k)) (hs : ∀ k, (k < 37 ∨ 43 ≤ k) → s k = s0 k) : ∃ (N : Nat) (aside' laid' : Nat → Int32) (m' t' f0' f1' : Nat → Int64) (many' : Int32), mX10_wouldPlay_57 a1 a2 s aside laid m t many f0 f1 dice = some (nI N, s0, aside', laid', m', t', many', f0', f1', dice) ∧ ∀ a6, pE (b_L P.1) (b_L P.2) (d_I ds) a6 = some (nI N) := by
  obtain ⟨N, as', laid', m', t', f0', f1', many', e1, e2⟩ := r_allPlays (aside := aside) (laid := laid) (m := m) (t := t) (many := many) (f0 := f0) (f1 := f1) hp hP hB hds hD h36
  refine ⟨N, as', laid', m', t', f0', f1', many', ?_, e2⟩
  have e := w_rest (aside := as') (laid := laid') (m := m') (t := t') (f0 := f0') (f1 := f1') (many := many') (a1 := a1) (a2 := a2) (r := nI N) hd 6 0 k_F s (by omega) (by decide) (fun k hk => hs k (by omega))
  rw [nI_0] at e
  unfold mX10_wouldPlay_57
  rw [k_bd9_some e1, e]
theorem r_would {s aside laid dice : Nat → Int32} {p a b : Nat} {P : GP} {m t f0 f1 : Nat → Int64} {many : Int32} (hp : p < 2) (hP : g_ok P) (hB : RB s p P) (h36 : s 36 = nI p) (ha1 : 1 ≤ a) (ha : a < 7) (hb1 : 1 ≤ b) (hb : b < 7) : ∃ (N : Nat) (aside' laid' : Nat → Int32) (m' t' f0' f1' : Nat → Int64) (many' : Int32) (dice' : Nat → Int32), mX10_wouldPlay s aside laid m t many f0 f1 dice (nI a) (nI b) = some (nI N, s, aside', laid', m', t', many', f0', f1', dice') ∧ ∀ a6, pE (b_L P.1) (b_L P.2) (d_I (d_rol a b)) a6 = some (nI N) := by
  obtain ⟨d', hd', e0⟩ := w_save (s := s) (aside := aside) (laid := laid) (m := m) (t := t) (f0 := f0) (f1 := f1) (many := many) (a1 := nI a) (a2 := nI b) 6 0 k_F dice (by omega) (by decide) (fun k hk => by omega)
  obtain ⟨s', e1, e37, e38, e39, eo⟩ := r_rolls (s := s) ha hb
  have hda : d_rol a b ∈ d_all := d_rl a ha b hb ha1 hb1
  have h36' : s' 36 = nI p := (eo 36 (by omega)).trans h36
  have hB' : RB s' p P := RB_congr hp (fun k hk => eo k (by omega)) hB
  have hlen : (d_rol a b).length = 2 ∨ (d_rol a b).length = 4 := by
    unfold d_rol
    by_cases c : a = b
    · rw [if_pos c]; exact Or.inr rfl
    · rw [if_neg c]; exact Or.inl rfl
  unfold mX10_wouldPlay
  rw [nI_0] at e0
  rcases hlen with hl | hl
  · have hD : RD (upd (upd s' 41 0) 42 0) (d_rol a b) := by
      refine ⟨by rw [pk_un (by omega), pk_un (by omega)]; exact e38, fun i hi => ?_⟩
      by_cases c : i < 2
      · rw [pk_un (by omega), pk_un (by omega)]; exact e39 i (by omega)
      · have hg : (d_rol a b).getD i 0 = 0 := by rw [List.getD_eq_getElem?_getD, List.getElem?_eq_none (by omega)]; rfl
        rw [hg]
        by_cases c2 : i = 2
        · subst c2; rw [pk_un (by omega)]; exact pk_us.trans nI_0.symm
        · obtain rfl : i = 3 := by omega
          exact pk_us.trans nI_0.symm
    obtain ⟨N, as', laid', m', t', f0', f1', many', y1, y2⟩ := w_57 (s0 := s) (aside := aside) (laid := laid) (dice := d') (m := m) (t := t) (f0 := f0) (f1 := f1) (many := many) (a1 := nI a) (a2 := nI b) hp hP (RB_congr hp (fun k hk => by rw [pk_un (by omega), pk_un (by omega)]) hB') hda hD (by rw [pk_un (by omega), pk_un (by omega)]; exact h36') hd' (fun k hk => by rw [pk_un (by omega), pk_un (by omega)]; exact eo k (by omega))
    refine ⟨N, as', laid', m', t', f0', f1', many', d', ?_, y2⟩
    rw [e0, k_bd2_some e1, hl, if_pos (show nI 2 = (2 : Int32) from rfl), y1]
  · have hD : RD s' (d_rol a b) := ⟨e38, fun i hi => e39 i (by omega)⟩
    obtain ⟨N, as', laid', m', t', f0', f1', many', y1, y2⟩ := w_57 (s0 := s) (aside := aside) (laid := laid) (dice := d') (m := m) (t := t) (f0 := f0) (f1 := f1) (many := many) (a1 := nI a) (a2 := nI b) hp hP hB' hda hD h36' hd' (fun k hk => eo k (by omega))
    refine ⟨N, as', laid', m', t', f0', f1', many', d', ?_, y2⟩
    rw [e0, k_bd2_some e1, hl, if_neg (show ¬ nI 4 = (2 : Int32) by decide), y1]
theorem ok_playsWith {x : XT} {m : MT} (h : Rel x m) (a1 a2 : Int32) : OK_playsWith Rel x m a1 a2 := by
  obtain ⟨hg, hp, hs, ht⟩ := h
  have hb : ∀ t, Rel x (setT m t) := fun t => ⟨hg, hp, hs, ht⟩
  have hg' := hg
  obtain ⟨p, F, ds, ph, hw⟩ := hg
  have h1 := RG_mine hw
  have h2 := RG_others hw
  obtain ⟨hB, hP⟩ := RG_B hw
  obtain ⟨⟨hp2, -, hds, -⟩, -, -, hD, ⟨h36, -, -, -, g3⟩, -⟩ := hw
  rcases dd_or a1 with ⟨a, ha1, ha, rfl⟩ | ⟨d1, d2⟩
  · rcases dd_or a2 with ⟨b, hb1, hb7, rfl⟩ | ⟨d1, d2⟩
    · obtain ⟨N, as', laid', m', t', f0', f1', many', dice', e1, e2⟩ := r_would (aside := m.2.2.2.2.2.1) (laid := m.2.2.2.2.2.2.2.2.2.1) (m := m.2.2.2.2.2.2.2.2.2.2.2.2.2.1) (t := m.2.2.2.2.2.2.2.2.2.2.2.2.2.2.1) (many := m.2.2.2.2.2.2.2.2.2.2.2.2.2.2.2.1) (f0 := m.2.2.2.2.2.2.2.2.2.2.2.2.2.2.2.2.1) (f1 := m.2.2.2.2.2.2.2.2.2.2.2.2.2.2.2.2.2.1) (dice := m.2.2.2.2.2.2.2.2.2.2.2.2.2.2.2.2.2.2.1) hp2 hP hB h36 ha1 ha hb1 hb7
      have e2' : pE (b_L (F p)) (b_L (F (1 - p))) (d_I (d_rol a b)) false = some (nI N) := e2 false
      generalize nI N = r at e1 e2'
      refine Or.inl ⟨r, x, r, (m.1, m.2.1, m.2.2.1, m.2.2.2.1, m.2.2.2.2.1, as', m.2.2.2.2.2.2.1, m.2.2.2.2.2.2.2.1, 0, laid', m.2.2.2.2.2.2.2.2.2.2.1, m.2.2.2.2.2.2.2.2.2.2.2.1, m.2.2.2.2.2.2.2.2.2.2.2.2.1, m', t', many', f0', f1', dice', m.2.2.2.2.2.2.2.2.2.2.2.2.2.2.2.2.2.2.2), ?_, ?_, rfl, rfl, hg', hp, hs, ht⟩
      · unfold XN_playsWith mX9_playsWith
        rw [k_bd_some (dd_is a ha ha1).1, if_neg (by decide), k_bd_some (dd_is b hb7 hb1).1, if_neg (by decide), k_bd_some (show mX0_rolled (nI a) (nI b) = some (d_I (d_rol a b)) from d_rolled a ha b hb7 ha1 hb1), k_bd_some h1, k_bd_some h2, k_bd_some e2']
        exact k_bd_some rfl
      · unfold MN_playsWith mX10_playsWith
        rw [k_bd_some (dd_is a ha ha1).2, if_neg (by decide), k_bd_some (dd_is b hb7 hb1).2, if_neg (by decide), k_bd10_some e1]
        exact k_bd11_some rfl
    · refine Or.inr ⟨0, setT m 1, ?_, ?_, rfl, hb 1⟩
      · unfold XT_playsWith mT9_playsWith
        rw [k_bd_some (dd_is a ha ha1).1, if_neg (by decide), k_bd_some d1, if_pos (by decide)]; rfl
      · unfold MN_playsWith mX10_playsWith
        rw [k_bd_some (dd_is a ha ha1).2, if_neg (by decide), k_bd_some d2, if_pos (by decide)]; rfl
  · refine Or.inr ⟨0, setT m 1, ?_, ?_, rfl, hb 1⟩
    · unfold XT_playsWith mT9_playsWith
      rw [k_bd_some d1, if_pos (by decide)]; rfl
    · unfold MN_playsWith mX10_playsWith
      rw [k_bd_some d2, if_pos (by decide)]; rfl
