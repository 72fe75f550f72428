/-! what is saved and taken back -/
theorem ix51 (kn i : Nat) : (51 : Int32) * nI kn + nI i = nI (51 * kn + i) := by
  rw [show (51 : Int32) = nI 51 from rfl, pk_mul, nI_add]
theorem r_keep1 {s : Nat → Int32} {b : Bool} : ∀ (n i F : Nat) (kept : Nat → Int32), i + n = 51 → n < F → ∃ kept', k_fix (fun _ _ _ _ => none) (mX10_keep_7 s) F (nI i) kept b 0 = some (s 36, kept', true, 0) ∧ ∀ k, k < 51 → kept' k = if i ≤ k then s k else kept k := by
  intro n
  induction n with
  | zero =>
    intro i F kept h hF
    obtain rfl : i = 51 := by omega
    refine ⟨kept, ?_, fun k hk => (if_neg (by omega)).symm⟩
    rw [k_fix1 hF, mX10_keep_7, if_pos (by decide)]
  | succ n ih =>
    intro i F kept h hF
    obtain ⟨kept', e, h'⟩ := ih (i + 1) (F - 1) (upd kept i (s i)) (by omega) (by omega)
    refine ⟨kept', ?_, fun k hk => ?_⟩
    · rw [k_fix1 (by omega), mX10_keep_7, if_neg (show ¬ (51 : Int32) ≤ nI i from nI_ge (a := i) (b := 51) (by omega) (by omega)), k_g_in (by omega) (by omega), k_g_in (by omega) (by omega), nI_clamp (by omega), nI_1]
      exact e
    · rw [h' k hk]
      by_cases h1 : i + 1 ≤ k
      · rw [if_pos h1, if_pos (by omega)]
      · rw [if_neg h1]
        by_cases h2 : k = i
        · subst h2; rw [pk_us, if_pos (Nat.le_refl _)]
        · rw [pk_un h2, if_neg (by omega)]
theorem r_undo1 {before : Nat → Int32} {kn : Nat} (hkn : kn < 5) : ∀ (n i F : Nat) (s : Nat → Int32), i + n = 51 → n < F → ∃ s', k_fix (fun _ _ _ _ => none) (mX10_undo_30 before) F (nI i) s (nI kn) 0 = some (nI kn, s', nI kn, 0) ∧ ∀ k, k < 51 → s' k = if i ≤ k then before (51 * kn + k) else s k := by
  intro n
  induction n with
  | zero =>
    intro i F s h hF
    obtain rfl : i = 51 := by omega
    refine ⟨s, ?_, fun k hk => (if_neg (by omega)).symm⟩
    rw [k_fix1 hF, mX10_undo_30, if_pos (by decide)]
  | succ n ih =>
    intro i F s h hF
    obtain ⟨s', e, h'⟩ := ih (i + 1) (F - 1) (upd s i (before (51 * kn + i))) (by omega) (by omega)
    refine ⟨s', ?_, fun k hk => ?_⟩
    · rw [k_fix1 (by omega), mX10_undo_30, if_neg (show ¬ (51 : Int32) ≤ nI i from nI_ge (a := i) (b := 51) (by omega) (by omega)), ix51, k_g_in (by omega) (by omega), k_g_in (by omega) (by omega), nI_clamp (by omega), nI_clamp (by omega), nI_1]
      exact e
    · rw [h' k hk]
      by_cases h1 : i + 1 ≤ k
      · rw [if_pos h1, if_pos (by omega)]
      · rw [if_neg h1]
        by_cases h2 : k = i
        · subst h2; rw [pk_us, if_pos (Nat.le_refl _)]
        · rw [pk_un h2, if_neg (by omega)]
theorem r_rest1 {kept before : Nat → Int32} {b : Bool} {known : Int32} : ∀ (n i F : Nat) (s : Nat → Int32), i + n = 51 → n < F → ∃ s', k_fix (fun _ _ _ _ _ => none) (mX10_restore_24 kept b) F (nI i) s before known 0 = some (s' 36, s', before, known, 0) ∧ ∀ k, k < 51 → s' k = if i ≤ k then kept k else s k := by
  intro n
  induction n with
  | zero =>
    intro i F s h hF
    obtain rfl : i = 51 := by omega
    refine ⟨s, ?_, fun k hk => (if_neg (by omega)).symm⟩
    rw [k_fix1 hF, mX10_restore_24, if_pos (by decide)]
  | succ n ih =>
    intro i F s h hF
    obtain ⟨s', e, h'⟩ := ih (i + 1) (F - 1) (upd s i (kept i)) (by omega) (by omega)
    refine ⟨s', ?_, fun k hk => ?_⟩
    · rw [k_fix1 (by omega), mX10_restore_24, if_neg (show ¬ (51 : Int32) ≤ nI i from nI_ge (a := i) (b := 51) (by omega) (by omega)), k_g_in (by omega) (by omega), k_g_in (by omega) (by omega), nI_clamp (by omega), nI_1]
      exact e
    · rw [h' k hk]
      by_cases h1 : i + 1 ≤ k
      · rw [if_pos h1, if_pos (by omega)]
      · rw [if_neg h1]
        by_cases h2 : k = i
        · subst h2; rw [pk_us, if_pos (Nat.le_refl _)]
        · rw [pk_un h2, if_neg (by omega)]
theorem r_save1 {s : Nat → Int32} {kn : Nat} (hkn : kn < 5) : ∀ (n i F : Nat) (before : Nat → Int32), i + n = 51 → n < F → ∃ before', k_fix (fun _ _ _ => none) (mX10_save_50 s) F (nI i) before (nI kn) = some (before', nI (kn + 1)) ∧ (∀ k, k < 51 → before' (51 * kn + k) = if i ≤ k then s k else before (51 * kn + k)) ∧ ∀ k, k < 51 * kn → before' k = before k := by
  intro n
  induction n with
  | zero =>
    intro i F before h hF
    obtain rfl : i = 51 := by omega
    refine ⟨before, ?_, fun k hk => (if_neg (by omega)).symm, fun _ _ => rfl⟩
    rw [k_fix1 hF, mX10_save_50, if_pos (by decide), nI_1]
  | succ n ih =>
    intro i F before h hF
    obtain ⟨before', e, h', h''⟩ := ih (i + 1) (F - 1) (upd before (51 * kn + i) (s i)) (by omega) (by omega)
    refine ⟨before', ?_, fun k hk => ?_, fun k hk => ?_⟩
    · rw [k_fix1 (by omega), mX10_save_50, if_neg (show ¬ (51 : Int32) ≤ nI i from nI_ge (a := i) (b := 51) (by omega) (by omega)), ix51, k_g_in (by omega) (by omega), k_g_in (by omega) (by omega), nI_clamp (by omega), nI_clamp (by omega), nI_1]
      exact e
    · rw [h' k hk]
      by_cases h1 : i + 1 ≤ k
      · rw [if_pos h1, if_pos (by omega)]
      · rw [if_neg h1]
        by_cases h2 : k = i
        · subst h2; rw [pk_us, if_pos (Nat.le_refl _)]
        · rw [pk_un (by omega), if_neg (by omega)]
    · rw [h'' k hk, pk_un (by omega)]
theorem r_shift1 {s : Nat → Int32} : ∀ (n i F : Nat) (before : Nat → Int32), i + n = 204 → n < F → ∃ b2, k_fix (fun _ _ _ => none) (mX10_save_10 s) F (nI i) before (nI 5) = mX10_save_48 s b2 (nI 4) ∧ ∀ k, k < 204 → b2 k = if i ≤ k then before (51 + k) else before k := by
  intro n
  induction n with
  | zero =>
    intro i F before h hF
    obtain rfl : i = 204 := by omega
    refine ⟨before, ?_, fun k hk => (if_neg (by omega)).symm⟩
    rw [k_fix1 hF, mX10_save_10, if_pos (by decide)]
    rfl
  | succ n ih =>
    intro i F before h hF
    obtain ⟨b2, e, h'⟩ := ih (i + 1) (F - 1) (upd before i (before (51 + i))) (by omega) (by omega)
    refine ⟨b2, ?_, fun k hk => ?_⟩
    · rw [k_fix1 (by omega), mX10_save_10, if_neg (show ¬ (204 : Int32) ≤ nI i from nI_ge (a := i) (b := 204) (by omega) (by omega)), show (51 : Int32) + nI i = nI (51 + i) from nI_add 51 i, k_g_in (by omega) (by omega), k_g_in (by omega) (by omega), nI_clamp (by omega), nI_clamp (by omega), nI_1]
      exact e
    · rw [h' k hk]
      by_cases h1 : i + 1 ≤ k
      · rw [if_pos h1, if_pos (by omega), pk_un (by omega)]
      · rw [if_neg h1]
        by_cases h2 : k = i
        · subst h2; rw [pk_us, if_pos (Nat.le_refl _)]
        · rw [pk_un h2, if_neg (by omega)]
theorem RG_congr {g : GT} {s s' : Nat → Int32} (h : RG g s) (hs : ∀ k, k < 51 → s' k = s k) : RG g s' := by
  obtain ⟨p, F, ds, ph, ⟨hp, hph, hds, hn⟩, ho, ⟨h0, h1⟩, hD, ⟨a1, a2, a3⟩, ⟨b1, b2, b3⟩, c, ⟨d1, d2, d3, d4⟩, ⟨e1, e2⟩, f⟩ := h
  refine ⟨p, F, ds, ph, ⟨hp, hph, hds, hn⟩, ho, ⟨fun w hw => ?_, fun w hw => ?_⟩, ⟨?_, fun i hi => ?_⟩, ⟨?_, ?_, a3⟩, ⟨?_, ?_, b3⟩, c, ⟨?_, ?_, ?_, ?_⟩, ⟨?_, fun he => ?_⟩, f⟩
  · rw [hs _ (by have := ix_lt 0 (by omega) w hw; omega)]; exact h0 w hw
  · rw [hs _ (by have := ix_lt 1 (by omega) w hw; omega)]; exact h1 w hw
  · rw [hs _ (by omega)]; exact hD.1
  · rw [hs _ (by omega)]; exact hD.2 i hi
  · rw [hs _ (by omega)]; exact a1
  · rw [hs _ (by omega)]; exact a2
  · rw [hs _ (by omega)]; exact b1
  · rw [hs _ (by omega)]; exact b2
  · rw [hs _ (by omega)]; exact d1
  · rw [hs _ (by omega)]; exact d2
  · rw [hs _ (by omega)]; exact d3
  · rw [hs _ (by omega)]; exact d4
  · rw [hs _ (by omega)]; exact e1
  · rw [hs _ (by omega)]; exact e2 he
theorem R_save {cnt known : Int32} {G : Nat → GT} {before s : Nat → Int32} {g : GT} (hp : RP cnt G known before) (hg : RG g s) : ∃ cnt' G' before' known', mX2_save cnt G g.1 g.2.1 g.2.2.1 g.2.2.2.1 g.2.2.2.2.1 g.2.2.2.2.2.1 g.2.2.2.2.2.2.1 g.2.2.2.2.2.2.2.1 g.2.2.2.2.2.2.2.2.1 g.2.2.2.2.2.2.2.2.2.1 g.2.2.2.2.2.2.2.2.2.2.1 g.2.2.2.2.2.2.2.2.2.2.2.1 g.2.2.2.2.2.2.2.2.2.2.2.2 = some (cnt', G') ∧ mX10_save s before known = some (before', known') ∧ RP cnt' G' known' before' := by
  obtain ⟨kn, hkn, rfl, rfl, hi⟩ := hp
  by_cases h5 : kn = 5
  · subst h5
    obtain ⟨b2, e1, f1⟩ := r_shift1 (s := s) 204 0 k_F before (by omega) (by decide)
    obtain ⟨before', e2, f2, f3⟩ := r_save1 (s := s) (kn := 4) (by omega) 51 0 k_F b2 (by omega) (by decide)
    refine ⟨nI 5, p_up (p_rot G) 4 g, before', nI 5, rfl, ?_, 5, by omega, rfl, rfl, fun i hi5 => ?_⟩
    · rw [mX10_save_48] at e1
      have e3 := e1.trans e2
      rw [mX10_save, if_pos (by decide)]
      generalize k_F = Fu at e3 ⊢
      exact e3
    · by_cases h4 : i = 4
      · subst h4
        exact RG_congr hg (fun k hk => by rw [f2 k hk, if_pos (by omega)])
      · have e : p_up (p_rot G) 4 g i = G (i + 1) := by
          unfold p_up p_rot
          rcases (show i = 0 ∨ i = 1 ∨ i = 2 ∨ i = 3 by omega) with rfl | rfl | rfl | rfl <;> rfl
        rw [e]
        refine RG_congr (hi (i + 1) (by omega)) (fun k hk => ?_)
        show before' (51 * i + k) = before (51 * (i + 1) + k)
        rw [f3 _ (by omega), f1 _ (by omega), if_pos (by omega), show 51 + (51 * i + k) = 51 * (i + 1) + k by omega]
  · obtain ⟨before', e2, f2, f3⟩ := r_save1 (s := s) (kn := kn) (by omega) 51 0 k_F before (by omega) (by decide)
    refine ⟨nI (kn + 1), p_up G kn g, before', nI (kn + 1), ?_, ?_, kn + 1, by omega, rfl, rfl, fun i hi5 => ?_⟩
    · rcases (show kn = 0 ∨ kn = 1 ∨ kn = 2 ∨ kn = 3 ∨ kn = 4 by omega) with rfl | rfl | rfl | rfl | rfl <;> rfl
    · rw [mX10_save, if_neg (show ¬ nI kn = (5 : Int32) from fun h => h5 ((nI_eq (by omega) (by omega)).mp (show nI kn = nI 5 from h))), mX10_save_48]
      exact e2
    · unfold p_up
      by_cases h4 : i = kn
      · subst h4
        rw [if_pos rfl]
        exact RG_congr hg (fun k hk => by rw [f2 k hk, if_pos (by omega)])
      · rw [if_neg h4]
        exact RG_congr (hi i (by omega)) (fun k hk => f3 _ (by omega))
theorem ok_keep {x : XT} {m : MT} (h : Rel x m) : OK_keep Rel x m := by
  obtain ⟨kept', e, f⟩ := r_keep1 (s := m.1) (b := m.2.2.2.2.1) 51 0 k_F m.2.2.2.1 (by omega) (by decide)
  obtain ⟨hg, hp, -, ht⟩ := h
  have h36 : x.2.2.2.2.1.1 = m.1 36 := by
    obtain ⟨p, F, ds, ph, -, -, -, -, ⟨h36, -, g1, -⟩, -⟩ := hg
    exact g1.trans h36.symm
  refine ⟨x.2.2.2.2.1.1, (true, x.2.1, x.2.2.2.2.1, x.2.2.2.1, x.2.2.2.2.1, x.2.2.2.2.2.1, x.2.2.2.2.2.2), m.1 36, (m.1, m.2.1, m.2.2.1, kept', true, m.2.2.2.2.2.1, m.2.2.2.2.2.2.1, m.2.2.2.2.2.2.2.1, 0, m.2.2.2.2.2.2.2.2.2), rfl, ?_, h36, ?_⟩
  · unfold MN_keep
    rw [nI_0] at e
    rw [mX10_keep, k_bd4_some e]
  · exact ⟨hg, hp, ⟨rfl, fun _ => RG_congr hg (fun k hk => by show kept' k = m.1 k; rw [f k hk, if_pos (by omega)])⟩, ht⟩
theorem ok_undo {x : XT} {m : MT} (h : Rel x m) : OK_undo Rel x m := by
  obtain ⟨hg, hp, hs, ht⟩ := h
  obtain ⟨kn, hkn, c1, c2, hi⟩ := hp
  by_cases h0 : kn = 0
  · subst h0
    refine Or.inr ⟨0, setT m 1, ?_, ?_, rfl, ⟨hg, ⟨0, by omega, c1, c2, hi⟩, hs, ht⟩⟩
    · unfold XT_undo mT9_undo; rw [c1, if_pos (show nI 0 = (0 : Int32) from nI_0)]
    · unfold MN_undo mX10_undo; rw [if_pos (show m.2.2.1 = (0 : Int32) from c2.trans nI_0)]; rfl
  · obtain ⟨kn, rfl⟩ : ∃ k, kn = k + 1 := ⟨kn - 1, by omega⟩
    obtain ⟨s', e, f⟩ := r_undo1 (before := m.2.1) (kn := kn) (by omega) 51 0 k_F m.1 (by omega) (by decide)
    refine Or.inl ⟨nI kn, (x.1, nI kn, x.2.2.1, x.2.2.2.1, x.2.2.2.1 kn, x.2.2.2.2.2.1, x.2.2.2.2.2.2), nI kn, (s', m.2.1, nI kn, m.2.2.2.1, m.2.2.2.2.1, m.2.2.2.2.2.1, m.2.2.2.2.2.2.1, m.2.2.2.2.2.2.2.1, 0, m.2.2.2.2.2.2.2.2.2), ?_, ?_, rfl, rfl, ?_⟩
    · unfold XN_undo mX9_undo mX2_takeBack; rw [c1]
      rcases (show kn = 0 ∨ kn = 1 ∨ kn = 2 ∨ kn = 3 ∨ kn = 4 by omega) with rfl | rfl | rfl | rfl | rfl <;> rfl
    · rw [nI_0] at e
      unfold MN_undo
      rw [mX10_undo, c2, if_neg (show ¬ nI (kn + 1) = (0 : Int32) from nI_ne0 (by omega) (by omega)), show nI (kn + 1) - 1 = nI kn from nI_pred kn, k_bd4_some e]
    · refine ⟨RG_congr (hi kn (by omega)) (fun k hk => by show s' k = m.2.1 (51 * kn + k); rw [f k hk, if_pos (by omega)]), ⟨kn, by omega, rfl, rfl, fun i hi2 => hi i (by omega)⟩, hs, ht⟩
theorem ok_restore {x : XT} {m : MT} (h : Rel x m) : OK_restore Rel x m := by
  obtain ⟨hg, hp, ⟨hs, hk⟩, ht⟩ := h
  cases hb : m.2.2.2.2.1
  · refine Or.inr ⟨0, setT m 1, ?_, ?_, rfl, ⟨hg, hp, ⟨hs, hk⟩, ht⟩⟩
    · unfold XT_restore mT9_restore; rw [hs, hb]; rfl
    · unfold MN_restore mX10_restore; rw [if_pos (show k_b m.2.2.2.2.1 = 0 from by rw [hb]; rfl)]; rfl
  · obtain ⟨cnt', G', before', known', e1, e2, hp'⟩ := R_save hp hg
    obtain ⟨s', e, f⟩ := r_rest1 (kept := m.2.2.2.1) (before := before') (b := m.2.2.2.2.1) (known := known') 51 0 k_F m.1 (by omega) (by decide)
    have hk' := hk hb
    have hg' : RG x.2.2.1 s' := RG_congr hk' (fun k hk => by rw [f k hk, if_pos (by omega)])
    have h36 : x.2.2.1.1 = s' 36 := by
      obtain ⟨p, F, ds, ph, -, -, -, -, ⟨h36, -, g1, -⟩, -⟩ := hg'
      exact g1.trans h36.symm
    refine Or.inl ⟨x.2.2.1.1, (x.1, cnt', x.2.2.1, G', x.2.2.1, x.2.2.2.2.2.1, x.2.2.2.2.2.2), s' 36, (s', before', known', m.2.2.2.1, m.2.2.2.2.1, m.2.2.2.2.2.1, m.2.2.2.2.2.2.1, m.2.2.2.2.2.2.2.1, 0, m.2.2.2.2.2.2.2.2.2), ?_, ?_, rfl, by rw [h36], ⟨hg', hp', ⟨hs, hk⟩, ht⟩⟩
    · unfold XN_restore mX9_restore
      rw [if_neg (show ¬ k_b x.1 = 0 from by rw [hs, hb]; decide), k_bd2_some e1]; rfl
    · rw [nI_0] at e
      unfold MN_restore
      rw [mX10_restore, if_neg (show ¬ k_b m.2.2.2.2.1 = 0 from by rw [hb]; decide), k_bd2_some e2, k_bd5_some e]
