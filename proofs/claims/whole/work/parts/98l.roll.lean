/-! the roll -/
theorem irem2 : ∀ i, i < 4 → (k_irem (nI i) 2 = 0 ↔ i % 2 = 0) := by decide +kernel
theorem r_rl1 {a b : Int32} {N : Nat} (hN : N ≤ 4) : ∀ (n i F : Nat) (s : Nat → Int32), i + n = N → n < F → s 38 = nI N → ∃ s', k_fix (fun _ _ => none) (mX10_rolls_27 a b) F (nI i) s = some (nI N, s') ∧ (∀ k, i ≤ k → k < N → s' (39 + k) = if k % 2 = 0 then a else b) ∧ ∀ k, (k < 39 + i ∨ 39 + N ≤ k) → s' k = s k := by
  intro n
  induction n with
  | zero =>
    intro i F s h hF h38
    obtain rfl : i = N := by omega
    refine ⟨s, ?_, fun k h1 h2 => by omega, fun _ _ => rfl⟩
    rw [k_fix1 hF, mX10_rolls_27, h38, if_pos (nI_le (Nat.le_refl _) (by omega))]
  | succ n ih =>
    intro i F s h hF h38
    obtain ⟨s', e, h1, h2⟩ := ih (i + 1) (F - 1) (upd s (39 + i) (if i % 2 = 0 then a else b)) (by omega) (by omega) ((pk_un (by omega)).trans h38)
    refine ⟨s', ?_, fun k h3 h4 => ?_, fun k h3 => ?_⟩
    · rw [k_fix1 (by omega), mX10_rolls_27, h38, if_neg (nI_ge (by omega) (by omega))]
      have a2 : (39 : Int32) + nI i = nI (39 + i) := nI_add 39 i
      by_cases h5 : i % 2 = 0
      · rw [if_pos ((irem2 i (by omega)).mpr h5), mX10_rolls_57, a2, k_g_in (by omega) (by omega), nI_clamp (by omega), nI_1]
        rw [if_pos h5] at e; exact e
      · rw [if_neg (fun q => h5 ((irem2 i (by omega)).mp q)), mX10_rolls_57, a2, k_g_in (by omega) (by omega), nI_clamp (by omega), nI_1]
        rw [if_neg h5] at e; exact e
    · by_cases h5 : k = i
      · subst h5
        rw [h2 _ (by omega), pk_us]
      · exact h1 k (by omega) h4
    · rw [h2 k (by omega), pk_un (by omega)]
def d_rol (a b : Nat) : List Nat := if a = b then [a, a, a, a] else [a, b]
theorem r_rolls {s : Nat → Int32} {a b : Nat} (ha : a < 7) (hb : b < 7) : ∃ s', mX10_rolls s (nI a) (nI b) = some (nI (d_rol a b).length, s') ∧ s' 37 = nI 1 ∧ s' 38 = nI (d_rol a b).length ∧ (∀ i, i < (d_rol a b).length → s' (39 + i) = nI ((d_rol a b).getD i 0)) ∧ ∀ k, (k < 37 ∨ 39 + (d_rol a b).length ≤ k) → s' k = s k := by
  by_cases hab : a = b
  · subst hab
    have hd : d_rol a a = [a, a, a, a] := if_pos rfl
    rw [hd]
    obtain ⟨s', e, h1, h2⟩ := r_rl1 (a := nI a) (b := nI a) (N := 4) (by omega) 4 0 k_F (upd (upd s 37 1) 38 (nI 4)) (by omega) (by decide) pk_us
    refine ⟨s', ?_, ?_, ?_, fun i hi => ?_, fun k hk => ?_⟩
    · unfold mX10_rolls
      rw [nI_0] at e
      rw [if_pos rfl, mX10_rolls_24, show (38 : Int32) = nI 38 from rfl, k_g_in (by omega) (by omega), nI_clamp (by omega), show (4 : Int32) = nI 4 from rfl]
      exact e
    · rw [h2 37 (by omega), pk_un (by omega), pk_us]; rfl
    · rw [h2 38 (by omega), pk_us]; rfl
    · have hi4 : i < 4 := hi
      rw [h1 i (by omega) hi4, ite_self]
      rcases (show i = 0 ∨ i = 1 ∨ i = 2 ∨ i = 3 by omega) with rfl | rfl | rfl | rfl <;> rfl
    · have hk2 : k < 37 ∨ 39 + 4 ≤ k := hk
      rw [h2 k (by omega), pk_un (by omega), pk_un (by omega)]
  · have hd : d_rol a b = [a, b] := if_neg hab
    rw [hd]
    obtain ⟨s', e, h1, h2⟩ := r_rl1 (a := nI a) (b := nI b) (N := 2) (by omega) 2 0 k_F (upd (upd s 37 1) 38 (nI 2)) (by omega) (by decide) pk_us
    refine ⟨s', ?_, ?_, ?_, fun i hi => ?_, fun k hk => ?_⟩
    · unfold mX10_rolls
      rw [nI_0] at e
      rw [if_neg (fun q => hab ((nI_eq (by omega) (by omega)).mp q)), mX10_rolls_24, show (38 : Int32) = nI 38 from rfl, k_g_in (by omega) (by omega), nI_clamp (by omega), show (2 : Int32) = nI 2 from rfl]
      exact e
    · rw [h2 37 (by omega), pk_un (by omega), pk_us]; rfl
    · rw [h2 38 (by omega), pk_us]; rfl
    · have hi4 : i < 2 := hi
      rw [h1 i (by omega) hi4]
      rcases (show i = 0 ∨ i = 1 by omega) with rfl | rfl <;> rfl
    · have hk2 : k < 37 ∨ 39 + 2 ≤ k := hk
      rw [h2 k (by omega), pk_un (by omega), pk_un (by omega)]
theorem T_roll {p : Nat} {F : Nat → Nat → Nat} {ds : List Nat} {g : GT} {s : Nat → Int32} {a b : Nat} (h : RGw p F ds 0 g s) (ha1 : 1 ≤ a) (ha : a < 7) (hb1 : 1 ≤ b) (hb : b < 7) : ∃ s', mX10_rolls s (nI a) (nI b) = some (nI (d_rol a b).length, s') ∧ mX1_doRoll g.2.1 g.2.2.1 (nI a) (nI b) = some (1, d_I (d_rol a b)) ∧ d_rol a b ∈ d_all ∧ RGw p F (d_rol a b) 1 (g.1, 1, d_I (d_rol a b), g.2.2.2) s' := by
  have h' := h
  obtain ⟨⟨hp, -, -, hn⟩, -, -, hD, ⟨h36, h37, g1, g2, g3⟩, ⟨h43, h44, hc⟩, -, ⟨h45, h46, -⟩, -, hF⟩ := h'
  obtain rfl := hn (by omega)
  obtain ⟨s', e, e37, e38, e39, eo⟩ := r_rolls (s := s) ha hb
  have hda : d_rol a b ∈ d_all := d_rl a ha b hb ha1 hb1
  have hlen : (d_rol a b).length ≤ 4 := by have := d_len _ hda; omega
  refine ⟨s', e, ?_, hda, ?_⟩
  · unfold mX1_doRoll
    rw [k_bd_some (show mX0_rolled (nI a) (nI b) = some (d_I (d_rol a b)) from d_rolled a ha b hb ha1 hb1)]
  · refine RGw_to h hp (by omega) hda (fun q => absurd rfl q) (fun _ => hF (by omega)) (fun k hk => eo k (by omega)) (fun k h1 h2 => eo k (by omega)) ⟨e38, fun i hi => ?_⟩ ((eo 36 (by omega)).trans h36) e37 g1 rfl rfl ((eo 43 (by omega)).trans h43) ((eo 44 (by omega)).trans h44) hc ((eo 45 (by omega)).trans h45) ((eo 46 (by omega)).trans h46)
    by_cases hil : i < (d_rol a b).length
    · exact e39 i hil
    · rw [eo _ (by omega), hD.2 i hi]
      rw [show (d_rol a b).getD i 0 = 0 from by rw [List.getD_eq_getElem?_getD, List.getElem?_eq_none (by omega)]; rfl]
      rfl
theorem ok_roll {x : XT} {m : MT} (h : Rel x m) (a1 a2 : Int32) : OK_roll Rel x m a1 a2 := by
  obtain ⟨hg, hp, hs, ht⟩ := h
  have hb : ∀ t, Rel x (setT m t) := fun t => ⟨hg, hp, hs, ht⟩
  obtain ⟨p, F, ds, ph, hw⟩ := hg
  have hph := hw.1.2.1
  have g2 := hw.2.2.2.2.1.2.2.2.1
  have h37 := hw.2.2.2.2.1.2.1
  rcases dd_or a1 with ⟨a, ha1, ha, rfl⟩ | ⟨d1, d2⟩
  · rcases dd_or a2 with ⟨b, hb1, hb7, rfl⟩ | ⟨d1, d2⟩
    · by_cases h0 : ph = 0
      · subst h0
        obtain ⟨cnt', G', before', known', s1, s2, hp'⟩ := R_save hp ⟨p, F, ds, 0, hw⟩
        obtain ⟨s', t1, t2, hda, t3⟩ := T_roll hw ha1 ha hb1 hb7
        refine Or.inl ⟨nI (d_rol a b).length, (x.1, cnt', x.2.2.1, G', (x.2.2.2.2.1.1, 1, d_I (d_rol a b), x.2.2.2.2.1.2.2.2), x.2.2.2.2.2.1, x.2.2.2.2.2.2), nI (d_rol a b).length, (s', before', known', m.2.2.2.1, m.2.2.2.2.1, m.2.2.2.2.2.1, m.2.2.2.2.2.2.1, m.2.2.2.2.2.2.2.1, 0, m.2.2.2.2.2.2.2.2.2), ?_, ?_, rfl, rfl, ⟨p, F, d_rol a b, 1, t3⟩, hp', hs, ht⟩
        · unfold XN_roll mX9_roll
          rw [k_bd_some (dd_is a ha ha1).1, if_neg (by decide), k_bd_some (dd_is b hb7 hb1).1, if_neg (by decide), k_bd_some (show mX1_awaitsRoll x.2.2.2.2.1.2.1 = some true from by rw [g2]; exact awaits_iff hph), if_neg (by decide), k_bd2_some s1, k_bd2_some t2, k_bd_some (d_count _ hda)]; rfl
        · unfold MN_roll mX10_roll
          rw [k_bd_some (dd_is a ha ha1).2, if_neg (by decide), k_bd_some (dd_is b hb7 hb1).2, if_neg (by decide), if_pos (show m.1 37 = (0 : Int32) from h37.trans nI_0), k_bd2_some s2, k_bd2_some t1]; rfl
      · refine Or.inr (Or.inr ⟨0, setT m 2, ?_, ?_, rfl, hb 2⟩)
        · unfold XT_roll mT9_roll
          rw [k_bd_some (dd_is a ha ha1).1, if_neg (by decide), k_bd_some (dd_is b hb7 hb1).1, if_neg (by decide), k_bd_some (show mX1_awaitsRoll x.2.2.2.2.1.2.1 = some false from by rw [g2, awaits_iff hph, decide_eq_false h0]), if_pos (by decide)]
        · unfold MN_roll mX10_roll
          rw [k_bd_some (dd_is a ha ha1).2, if_neg (by decide), k_bd_some (dd_is b hb7 hb1).2, if_neg (by decide), if_neg (show ¬ m.1 37 = (0 : Int32) from fun e => h0 ((nI_phs hph 0 (by omega)).mp (h37.symm.trans e)))]; rfl
    · refine Or.inr (Or.inl ⟨0, setT m 1, ?_, ?_, rfl, hb 1⟩)
      · unfold XT_roll mT9_roll
        rw [k_bd_some (dd_is a ha ha1).1, if_neg (by decide), k_bd_some d1, if_pos (by decide)]; rfl
      · unfold MN_roll mX10_roll
        rw [k_bd_some (dd_is a ha ha1).2, if_neg (by decide), k_bd_some d2, if_pos (by decide)]; rfl
  · refine Or.inr (Or.inl ⟨0, setT m 1, ?_, ?_, rfl, hb 1⟩)
    · unfold XT_roll mT9_roll
      rw [k_bd_some d1, if_pos (by decide)]; rfl
    · unfold MN_roll mX10_roll
      rw [k_bd_some d2, if_pos (by decide)]; rfl
