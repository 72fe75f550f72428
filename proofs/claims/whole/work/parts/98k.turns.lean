/-! the end of a turn and the roll -/
theorem r_clr1 : ∀ (n i F : Nat) (s : Nat → Int32), i + n = 4 → n < F → ∃ s', k_fix (fun _ _ => none) mX10_clearDice_10 F (nI i) s = some s' ∧ (∀ k, i ≤ k → k < 4 → s' (39 + k) = nI 0) ∧ ∀ k, (k < 39 + i ∨ 43 ≤ k) → s' k = s k := by
  intro n
  induction n with
  | zero =>
    intro i F s h hF
    obtain rfl : i = 4 := by omega
    refine ⟨s, ?_, fun k h1 h2 => by omega, fun _ _ => rfl⟩
    rw [k_fix1 hF, mX10_clearDice_10, if_pos (by decide)]
  | succ n ih =>
    intro i F s h hF
    obtain ⟨s', e, h1, h2⟩ := ih (i + 1) (F - 1) (upd s (39 + i) 0) (by omega) (by omega)
    refine ⟨s', ?_, fun k h3 h4 => ?_, fun k h3 => ?_⟩
    · rw [k_fix1 (by omega), mX10_clearDice_10, if_neg (show ¬ (4 : Int32) ≤ nI i from nI_ge (a := i) (b := 4) (by omega) (by omega)), show (39 : Int32) + nI i = nI (39 + i) from nI_add 39 i, k_g_in (by omega) (by omega), nI_clamp (by omega), nI_1]
      exact e
    · by_cases h5 : k = i
      · subst h5
        rw [h2 _ (by omega), pk_us]; exact nI_0.symm
      · exact h1 k (by omega) h4
    · rw [h2 k (by omega), pk_un (by omega)]
theorem r_clear (s : Nat → Int32) : ∃ s', mX10_clearDice s = some s' ∧ RD s' [] ∧ ∀ k, (k < 38 ∨ 43 ≤ k) → s' k = s k := by
  obtain ⟨s', e, h1, h2⟩ := r_clr1 4 0 k_F (upd s 38 0) (by omega) (by decide)
  refine ⟨s', ?_, ⟨?_, fun i hi => ?_⟩, fun k hk => ?_⟩
  · rw [nI_0] at e
    rw [mX10_clearDice]; exact e
  · rw [h2 38 (by omega), pk_us]; exact nI_0.symm
  · rw [h1 i (by omega) hi]; rfl
  · rw [h2 k (by omega), pk_un (by omega)]
theorem R_canEnd {p : Nat} {F : Nat → Nat → Nat} {ds : List Nat} {ph : Nat} {g : GT} {s laid : Nat → Int32} (h : RGw p F ds ph g s) : ∃ b laid', mX1_canEndTurn g.1 g.2.1 g.2.2.1 g.2.2.2.2.2.1 g.2.2.2.2.2.2.1 = some b ∧ mX10_canEnd s laid = some (b, s, laid') ∧ (b = true → ph = 1) := by
  have hr := RG_reach h
  have h3 := RG_B h
  obtain ⟨⟨hp, hph, hds, -⟩, -, -, hD, ⟨h36, h37, g1, g2, g3⟩, -⟩ := h
  unfold mX1_canEndTurn mX10_canEnd
  rw [g2, h37]
  by_cases h1 : ph = 1
  · subst h1
    obtain ⟨laid', e⟩ := r_reaches (laid := laid) hp h3.2 h3.1 hds hD h36
    rw [if_pos (show nI 1 = (1 : Int32) from rfl), if_pos (show nI 1 = (1 : Int32) from rfl), k_bd_some hr, k_bd3_some e]
    by_cases h0 : nI (g_R ds (F p, F (1 - p))) = 0
    · rw [if_pos h0, if_pos h0]; exact ⟨true, laid', rfl, rfl, fun _ => rfl⟩
    · rw [if_neg h0, if_neg h0]; exact ⟨false, laid', rfl, rfl, fun _ => rfl⟩
  · have hne : ¬ nI ph = (1 : Int32) := fun e => h1 ((nI_phs hph 1 (by omega)).mp e)
    rw [if_neg hne, if_neg hne]
    exact ⟨false, laid, rfl, rfl, fun q => by cases q⟩
theorem T_end {p : Nat} {F : Nat → Nat → Nat} {ds : List Nat} {g : GT} {s : Nat → Int32} (h : RGw p F ds 1 g s) : ∃ s', mX10_ends s = some (1 - g.1, s') ∧ RGw (1 - p) F [] 0 (1 - g.1, 0, 0, g.2.2.2) s' := by
  have h' := h
  obtain ⟨⟨hp, -, -, hn⟩, -, -, hD, ⟨h36, h37, g1, g2, g3⟩, ⟨h43, h44, hc⟩, -, ⟨h45, h46, -⟩, -, hF⟩ := h'
  obtain ⟨s1, e1, e2, e3⟩ := r_clear s
  have a1 : (1 : Int32) - (upd s1 37 0) 36 = nI (1 - p) := by rw [pk_un (by omega), e3 36 (by omega), h36]; exact r_1p hp
  have g4 : (1 : Int32) - g.1 = nI (1 - p) := by rw [g1]; exact r_1p hp
  refine ⟨upd (upd s1 37 0) 36 (nI (1 - p)), ?_, ?_⟩
  · rw [mX10_ends, k_bd_some e1, a1, pk_us, g4]
  · rw [g4]
    refine RGw_to h (by omega) (by omega) d_nil (fun _ => rfl) (fun _ => hF (by omega)) (fun k hk => ?_) (fun k h1 h2 => ?_) (RD_hi (RD_hi e2 (by omega)) (by omega)) pk_us ?_ rfl nI_0.symm (by decide +kernel) ?_ ?_ hc ?_ ?_
    · rw [pk_un (by omega), pk_un (by omega), e3 k (by omega)]
    · rw [pk_un (by omega), pk_un (by omega), e3 k (by omega)]
    · rw [pk_un (by omega), pk_us]; exact nI_0.symm
    · rw [pk_un (by omega), pk_un (by omega), e3 _ (by omega)]; exact h43
    · rw [pk_un (by omega), pk_un (by omega), e3 _ (by omega)]; exact h44
    · rw [pk_un (by omega), pk_un (by omega), e3 _ (by omega)]; exact h45
    · rw [pk_un (by omega), pk_un (by omega), e3 _ (by omega)]; exact h46
theorem ok_endTurn {x : XT} {m : MT} (h : Rel x m) : OK_endTurn Rel x m := by
  obtain ⟨hg, hp, hs, ht⟩ := h
  obtain ⟨p, F, ds, ph, hw⟩ := hg
  obtain ⟨b, laid', e1, e2, e3⟩ := R_canEnd (laid := m.2.2.2.2.2.2.2.2.2.1) hw
  cases b
  · refine Or.inr ⟨0, setTL m 1 laid', ?_, ?_, rfl, ⟨⟨p, F, ds, ph, hw⟩, hp, hs, ht⟩⟩
    · unfold XT_endTurn mT9_endTurn; rw [k_bd_some e1]; rfl
    · unfold MN_endTurn mX10_endTurn; rw [k_bd3_some e2]; rfl
  · obtain rfl := e3 rfl
    obtain ⟨cnt', G', before', known', s1, s2, hp'⟩ := R_save hp ⟨p, F, ds, 1, hw⟩
    obtain ⟨s', t1, t2⟩ := T_end hw
    refine Or.inl ⟨1 - x.2.2.2.2.1.1, (x.1, cnt', x.2.2.1, G', (1 - x.2.2.2.2.1.1, 0, 0, x.2.2.2.2.1.2.2.2), x.2.2.2.2.2.1, x.2.2.2.2.2.2), 1 - x.2.2.2.2.1.1, (s', before', known', m.2.2.2.1, m.2.2.2.2.1, m.2.2.2.2.2.1, m.2.2.2.2.2.2.1, m.2.2.2.2.2.2.2.1, 0, laid', m.2.2.2.2.2.2.2.2.2.2), ?_, ?_, rfl, rfl, ⟨1 - p, F, [], 0, t2⟩, hp', hs, ht⟩
    · unfold XN_endTurn mX9_endTurn
      rw [k_bd_some e1, if_neg (by decide), k_bd2_some s1]; rfl
    · unfold MN_endTurn mX10_endTurn
      rw [k_bd3_some e2, if_neg (by decide), k_bd2_some s2, k_bd2_some t1]; rfl
