/-! a new game, and the start -/
def g_F0 (w : Nat) : Nat := if w = 16 ∨ w = 12 ∨ w = 9 then 2 else 0
def r_bt (k : Nat) : Int32 := if k = 1 ∨ k = 5 ∨ k = 8 ∨ k = 34 ∨ k = 30 ∨ k = 27 then 2 else 0
theorem r_bt0 : ∀ w, w < 18 → r_bt (ix 0 w) = nI (g_F0 w) := by decide +kernel
theorem r_bt1 : ∀ w, w < 18 → r_bt (ix 1 w) = nI (g_F0 w) := by decide +kernel
theorem b_L0 : b_L g_F0 = 563087660810240 := by decide +kernel
theorem g_ok0 : g_ok (g_F0, g_F0) := ⟨(show b_sm g_F0 18 = 6 by decide +kernel), (show b_sm g_F0 18 = 6 by decide +kernel), fun i hi => ⟨if_neg (by omega), if_neg (by omega)⟩⟩
theorem r_beg1 {q : Int32} : ∀ (n i F : Nat) (s : Nat → Int32), i + n = 36 → n < F → ∃ s0 k2, k_fix (fun _ _ => none) (mX10_begins_2 q) F (nI i) s = mX10_begins_2 q k2 (nI 36) s0 ∧ (∀ k, i ≤ k → k < 36 → s0 k = 0) ∧ ∀ k, (k < i ∨ 36 ≤ k) → s0 k = s k := by
  intro n
  induction n with
  | zero =>
    intro i F s h hF
    obtain rfl : i = 36 := by omega
    exact ⟨s, k_fix (fun _ _ => none) (mX10_begins_2 q) (F - 1), by rw [k_fix1 hF], fun k h1 h2 => by omega, fun _ _ => rfl⟩
  | succ n ih =>
    intro i F s h hF
    obtain ⟨s0, k2, e, h1, h2⟩ := ih (i + 1) (F - 1) (upd s i 0) (by omega) (by omega)
    refine ⟨s0, k2, ?_, fun k h3 h4 => ?_, fun k h3 => ?_⟩
    · rw [k_fix1 (by omega), mX10_begins_2, if_neg (show ¬ (36 : Int32) ≤ nI i from nI_ge (a := i) (b := 36) (by omega) (by omega)), k_g_in (by omega) (by omega), nI_clamp (by omega), nI_1]
      exact e
    · by_cases h5 : k = i
      · subst h5
        rw [h2 _ (by omega), pk_us]
      · exact h1 k (by omega) h4
    · rw [h2 k (by omega), pk_un (by omega)]
theorem r_gr {p x k : Nat} {s : Nat → Int32} (h : 18 * p + x + 1 = k) (hk : k < 36) : mX10_grow s (nI p) (nI x) 2 = some (upd s k (s k + 2)) := by
  unfold mX10_grow
  have e : (18 : Int32) * nI p + nI x + 1 = nI k := by
    rw [show (18 : Int32) = nI 18 from rfl, pk_mul, nI_add, nI_1, h]
  rw [e, k_g_in (by omega) (by omega), nI_clamp (by omega)]
  try rw [k_g_in (by omega) (by omega)]
theorem r_begins {s : Nat → Int32} {q : Nat} (hq : q < 2) : ∃ s', mX10_begins s (nI q) = some s' ∧ RH s' 0 g_F0 ∧ RH s' 1 g_F0 ∧ RD s' [] ∧ s' 36 = nI q ∧ s' 37 = nI 0 ∧ s' 43 = nI 1 ∧ s' 44 = -1 ∧ ∀ k, 45 ≤ k → s' k = s k := by
  obtain ⟨s0, k2, e, hz, ho⟩ := r_beg1 (q := nI q) 36 0 k_F s (by omega) (by decide)
  obtain ⟨s1, e1⟩ : ∃ s1, s1 = upd s0 1 (s0 1 + 2) := ⟨_, rfl⟩
  obtain ⟨s2, e2⟩ : ∃ s2, s2 = upd s1 5 (s1 5 + 2) := ⟨_, rfl⟩
  obtain ⟨s3, e3⟩ : ∃ s3, s3 = upd s2 8 (s2 8 + 2) := ⟨_, rfl⟩
  obtain ⟨s4, e4⟩ : ∃ s4, s4 = upd s3 34 (s3 34 + 2) := ⟨_, rfl⟩
  obtain ⟨s5, e5⟩ : ∃ s5, s5 = upd s4 30 (s4 30 + 2) := ⟨_, rfl⟩
  obtain ⟨s6, e6⟩ : ∃ s6, s6 = upd s5 27 (s5 27 + 2) := ⟨_, rfl⟩
  have v1 : ∀ k, k ≠ 1 → s1 k = s0 k := fun k h => by rw [e1]; exact pk_un h
  have v2 : ∀ k, k ≠ 5 → s2 k = s1 k := fun k h => by rw [e2]; exact pk_un h
  have v3 : ∀ k, k ≠ 8 → s3 k = s2 k := fun k h => by rw [e3]; exact pk_un h
  have v4 : ∀ k, k ≠ 34 → s4 k = s3 k := fun k h => by rw [e4]; exact pk_un h
  have v5 : ∀ k, k ≠ 30 → s5 k = s4 k := fun k h => by rw [e5]; exact pk_un h
  have v6 : ∀ k, k ≠ 27 → s6 k = s5 k := fun k h => by rw [e6]; exact pk_un h
  have u1 : s1 1 = s0 1 + 2 := by rw [e1]; exact pk_us
  have u2 : s2 5 = s1 5 + 2 := by rw [e2]; exact pk_us
  have u3 : s3 8 = s2 8 + 2 := by rw [e3]; exact pk_us
  have u4 : s4 34 = s3 34 + 2 := by rw [e4]; exact pk_us
  have u5 : s5 30 = s4 30 + 2 := by rw [e5]; exact pk_us
  have u6 : s6 27 = s5 27 + 2 := by rw [e6]; exact pk_us
  have hb : ∀ k, k < 36 → s6 k = r_bt k := by
    intro k hk
    have z := hz k (by omega) hk
    by_cases c6 : k = 27
    · subst c6; rw [u6, v5 _ (by omega), v4 _ (by omega), v3 _ (by omega), v2 _ (by omega), v1 _ (by omega), z]; rfl
    rw [v6 k c6]
    by_cases c5 : k = 30
    · subst c5; rw [u5, v4 _ (by omega), v3 _ (by omega), v2 _ (by omega), v1 _ (by omega), z]; rfl
    rw [v5 k c5]
    by_cases c4 : k = 34
    · subst c4; rw [u4, v3 _ (by omega), v2 _ (by omega), v1 _ (by omega), z]; rfl
    rw [v4 k c4]
    by_cases c3 : k = 8
    · subst c3; rw [u3, v2 _ (by omega), v1 _ (by omega), z]; rfl
    rw [v3 k c3]
    by_cases c2 : k = 5
    · subst c2; rw [u2, v1 _ (by omega), z]; rfl
    rw [v2 k c2]
    by_cases c1 : k = 1
    · subst c1; rw [u1, z]; rfl
    rw [v1 k c1, z]
    exact (if_neg (by omega)).symm
  have hh : ∀ k, 36 ≤ k → s6 k = s k := fun k hk => by rw [v6 k (by omega), v5 k (by omega), v4 k (by omega), v3 k (by omega), v2 k (by omega), v1 k (by omega), ho k (by omega)]
  obtain ⟨s', f1, f2, f3⟩ := r_clear (upd (upd (upd (upd s6 36 (nI q)) 37 0) 43 1) 44 (-1))
  have hlow : ∀ k, k < 36 → s' k = r_bt k := fun k hk => by rw [f3 k (by omega), pk_un (by omega), pk_un (by omega), pk_un (by omega), pk_un (by omega), hb k hk]
  refine ⟨s', ?_, fun w hw => ?_, fun w hw => ?_, f2, ?_, ?_, ?_, ?_, fun k hk => ?_⟩
  · rw [nI_0] at e
    rw [mX10_begins]
    refine Eq.trans e ?_
    rw [mX10_begins_2, if_pos (by decide)]
    rw [k_bd_some (show mX10_grow s0 0 0 2 = some s1 from by rw [e1]; exact r_gr (p := 0) (x := 0) (by omega) (by omega))]
    rw [k_bd_some (show mX10_grow s1 0 4 2 = some s2 from by rw [e2]; exact r_gr (p := 0) (x := 4) (by omega) (by omega))]
    rw [k_bd_some (show mX10_grow s2 0 7 2 = some s3 from by rw [e3]; exact r_gr (p := 0) (x := 7) (by omega) (by omega))]
    rw [k_bd_some (show mX10_grow s3 1 15 2 = some s4 from by rw [e4]; exact r_gr (p := 1) (x := 15) (by omega) (by omega))]
    rw [k_bd_some (show mX10_grow s4 1 11 2 = some s5 from by rw [e5]; exact r_gr (p := 1) (x := 11) (by omega) (by omega))]
    rw [k_bd_some (show mX10_grow s5 1 8 2 = some s6 from by rw [e6]; exact r_gr (p := 1) (x := 8) (by omega) (by omega))]
    rw [k_bd_some f1]
  · rw [hlow _ (ix_lt 0 (by omega) w hw)]; exact r_bt0 w hw
  · rw [hlow _ (ix_lt 1 (by omega) w hw)]; exact r_bt1 w hw
  · rw [f3 36 (by omega), pk_un (by omega), pk_un (by omega), pk_un (by omega), pk_us]
  · rw [f3 37 (by omega), pk_un (by omega), pk_un (by omega), pk_us]; exact nI_0.symm
  · rw [f3 43 (by omega), pk_un (by omega), pk_us]; rfl
  · rw [f3 44 (by omega), pk_us]
  · rw [f3 k (by omega), pk_un (by omega), pk_un (by omega), pk_un (by omega), pk_un (by omega), hh k (by omega)]
theorem T_new {p : Nat} {F : Nat → Nat → Nat} {ds : List Nat} {ph : Nat} {g : GT} {s : Nat → Int32} (h : RGw p F ds ph g s) (hph : ph ≠ 1) : ∃ s', mX10_anew s = some (1 - g.1, s') ∧ RGw (1 - p) (fun _ => g_F0) [] 0 (1 - g.1, 0, g.2.2.1, 1, -1, 563087660810240, 563087660810240, g.2.2.2.2.2.2.2) s' := by
  obtain ⟨⟨hp, -, -, hn⟩, -, -, hD, ⟨h36, h37, g1, g2, g3⟩, ⟨h43, h44, hc⟩, -, ⟨h45, h46, h47, h48⟩, ⟨h49, h50⟩, hF⟩ := h
  obtain rfl := hn hph
  have g4 : (1 : Int32) - g.1 = nI (1 - p) := by rw [g1]; exact r_1p hp
  have a1 : (1 : Int32) - s 36 = nI (1 - p) := by rw [h36]; exact r_1p hp
  obtain ⟨s', e, r0, r1, rd, e36, e37, e43, e44, eo⟩ := r_begins (s := s) (q := 1 - p) (by omega)
  refine ⟨s', ?_, ?_⟩
  · rw [mX10_anew, a1, k_bd_some e, e36, g4]
  · rw [g4]
    refine ⟨⟨by omega, by omega, d_nil, fun _ => rfl⟩, ⟨g_ok0, g_ok0⟩, ⟨r0, r1⟩, rd, ⟨e36, e37, rfl, nI_0.symm, g3⟩, ⟨e43, e44, Or.inl rfl⟩, ⟨b_L0.symm, b_L0.symm⟩, ⟨?_, ?_, ?_, ?_⟩, ⟨?_, fun he => ?_⟩, fun _ => ⟨by decide, by decide⟩⟩
    · rw [eo 45 (by omega)]; exact h45
    · rw [eo 46 (by omega)]; exact h46
    · rw [eo 47 (by omega)]; exact h47
    · rw [eo 48 (by omega)]; exact h48
    · rw [eo 49 (by omega)]; exact h49
    · rw [eo 50 (by omega)]; exact h50 he
theorem ok_newGame {x : XT} {m : MT} (h : Rel x m) : OK_newGame Rel x m := by
  obtain ⟨hg, hp, hs, ht⟩ := h
  obtain ⟨p, F, ds, ph, hw⟩ := hg
  have hph := hw.1.2.1
  have g2 := hw.2.2.2.2.1.2.2.2.1
  have h37 := hw.2.2.2.2.1.2.1
  by_cases h2 : ph = 3
  · subst h2
    obtain ⟨cnt', G', before', known', s1, s2, hp'⟩ := R_save hp ⟨p, F, ds, 3, hw⟩
    obtain ⟨s', t1, t2⟩ := T_new hw (by omega)
    refine Or.inl ⟨1 - x.2.2.2.2.1.1, (x.1, cnt', x.2.2.1, G', (1 - x.2.2.2.2.1.1, 0, x.2.2.2.2.1.2.2.1, 1, -1, 563087660810240, 563087660810240, x.2.2.2.2.1.2.2.2.2.2.2.2), x.2.2.2.2.2.1, x.2.2.2.2.2.2), 1 - x.2.2.2.2.1.1, (s', before', known', m.2.2.2.1, m.2.2.2.2.1, m.2.2.2.2.2.1, m.2.2.2.2.2.2.1, m.2.2.2.2.2.2.2.1, 0, m.2.2.2.2.2.2.2.2.2), ?_, ?_, rfl, rfl, ⟨1 - p, fun _ => g_F0, [], 0, t2⟩, hp', hs, ht⟩
    · unfold XN_newGame mX9_newGame
      rw [k_bd_some (show mX1_isOver x.2.2.2.2.1.2.1 = some true from by rw [g2]; exact over_iff hph), if_neg (by decide), k_bd2_some s1]; rfl
    · unfold MN_newGame mX10_newGame
      rw [if_pos (show m.1 37 = (3 : Int32) from h37), k_bd2_some s2, k_bd2_some t1]; rfl
  · refine Or.inr ⟨0, setT m 1, ?_, ?_, rfl, ⟨⟨p, F, ds, ph, hw⟩, hp, hs, ht⟩⟩
    · unfold XT_newGame mT9_newGame
      rw [k_bd_some (show mX1_isOver x.2.2.2.2.1.2.1 = some false from by rw [g2, over_iff hph, decide_eq_false h2]), if_pos (by decide)]
    · unfold MN_newGame mX10_newGame
      rw [if_neg (show ¬ m.1 37 = (3 : Int32) from fun e => h2 ((nI_phs hph 3 (by omega)).mp (h37.symm.trans e)))]; rfl
theorem Rel_0 : ∃ s0, mX10_begins (fun _ => 0) 0 = some s0 ∧ Rel lw_x0 (lw_m0 s0) := by
  obtain ⟨s', e, r0, r1, rd, e36, e37, e43, e44, eo⟩ := r_begins (s := fun _ => 0) (q := 0) (by omega)
  refine ⟨s', e, ⟨0, fun _ => g_F0, [], 0, ⟨by omega, by omega, d_nil, fun _ => rfl⟩, ⟨g_ok0, g_ok0⟩, ⟨r0, r1⟩, rd, ⟨e36, e37, nI_0.symm, nI_0.symm, by decide +kernel⟩, ⟨e43, e44, Or.inl rfl⟩, ⟨b_L0.symm, b_L0.symm⟩, ⟨eo 45 (by omega), eo 46 (by omega), eo 47 (by omega), eo 48 (by omega)⟩, ⟨(eo 49 (by omega)).trans nI_0.symm, fun he => by cases he⟩, fun _ => ⟨by decide, by decide⟩⟩, ⟨0, by omega, nI_0.symm, nI_0.symm, fun i hi => by omega⟩, ⟨rfl, fun he => by cases he⟩, ⟨0, by omega, nI_0.symm, nI_0.symm, fun i hi => by omega⟩⟩
