/-! texts: the class's signs and the reference's -/
def a_d (st c : Nat) : Nat := ((mX8_awaitedBehind (nI st) (nI c)).getD 7).toNatClampNeg
theorem a_aw : ∀ st, st < 8 → ∀ c, c < 127 → mX8_awaitedBehind (nI st) (nI c) = some (nI (a_d st c)) ∧ a_d st c < 8 := by decide +kernel
theorem a_0 : ∀ c, c < 127 → a_d 0 c = if c = 114 then 1 else if c = 109 then 3 else if c = 98 then 5 else if c = 101 ∨ c = 120 ∨ c = 116 ∨ c = 100 ∨ c = 110 then 6 else 7 := by decide +kernel
theorem a_1 : ∀ c, c < 127 → a_d 1 c = if 49 ≤ c ∧ c ≤ 54 then 2 else 7 := by decide +kernel
theorem a_2 : ∀ c, c < 127 → a_d 2 c = if 49 ≤ c ∧ c ≤ 54 then 6 else 7 := by decide +kernel
theorem a_3 : ∀ c, c < 127 → a_d 3 c = if c = 49 then 4 else if 48 ≤ c ∧ c ≤ 57 then 5 else 7 := by decide +kernel
theorem a_4 : ∀ c, c < 127 → a_d 4 c = if 48 ≤ c ∧ c ≤ 53 then 5 else if c = 46 then 2 else 7 := by decide +kernel
theorem a_5 : ∀ c, c < 127 → a_d 5 c = if c = 46 then 2 else 7 := by decide +kernel
theorem a_6 : ∀ c, c < 127 → a_d 6 c = if c = 59 then 0 else 7 := by decide +kernel
theorem a_7 : ∀ c, c < 127 → a_d 7 c = 7 := by decide +kernel
theorem ch_nar2 : ∀ j, j < 127 → vp_nar .char (nI j) = nI j := by decide +kernel
def TX (sg : Nat → Int32) (c : Nat → Nat) (n : Nat) : Prop := n ≤ 60 ∧ ∀ i, i < n → 33 ≤ c i ∧ c i ≤ 126 ∧ sg i = nI (c i)
theorem t_at {sg : Nat → Int32} {c : Nat → Nat} {n i : Nat} (h : TX sg c n) (hi : i < n) : mX8_at sg (nI n) (nI i) = some (nI (c i)) := by
  obtain ⟨h1, h2⟩ := h
  obtain ⟨c1, c2, c3⟩ := h2 i hi
  unfold mX8_at
  rw [if_neg (nI_pos (by omega)), if_neg (nI_ge hi (by omega)), if_neg (show ¬ (60 : Int32) ≤ nI i from nI_ge (a := i) (b := 60) (by omega) (by omega)), k_g_in (by omega) (by omega), nI_clamp (by omega), c3, ch_nar2 _ (by omega), decide_eq_true rfl]
  rfl
def t_F (sg : Nat → Int32) (n F st i : Nat) : Option Int32 := k_fix (fun _ _ => none) (mX8_firstWrong_4 sg (nI n)) F (nI st) (nI i)
def t_G (sg : Nat → Int32) (n F st i : Nat) : Option Bool := k_fix (fun _ _ => none) (mX8_isGame_4 sg (nI n)) F (nI st) (nI i)
theorem t_Fs {sg : Nat → Int32} {c : Nat → Nat} {n F st i : Nat} (h : TX sg c n) (hi : i < n) (hst : st < 8) (hF : 0 < F) : t_F sg n F st i = if a_d st (c i) = 7 then some (nI i) else t_F sg n (F - 1) (a_d st (c i)) (i + 1) := by
  have hn := h.1
  obtain ⟨c1, c2, c3⟩ := h.2 i hi
  obtain ⟨e1, e2⟩ := a_aw st hst (c i) (by omega)
  unfold t_F
  rw [k_fix1 hF, mX8_firstWrong_4, if_neg (nI_ge hi (by omega)), k_bd_some (t_at h hi), k_bd_some e1]
  by_cases h7 : a_d st (c i) = 7
  · rw [h7, if_pos (show nI 7 = (7 : Int32) from rfl), if_pos rfl]
  · rw [if_neg (show ¬ nI (a_d st (c i)) = (7 : Int32) from fun e => h7 ((nI_eq (by omega) (by omega)).mp (show nI (a_d st (c i)) = nI 7 from e))), if_neg h7, nI_1]
theorem t_Gs {sg : Nat → Int32} {c : Nat → Nat} {n F st i : Nat} (h : TX sg c n) (hi : i < n) (hst : st < 8) (hF : 0 < F) : t_G sg n F st i = t_G sg n (F - 1) (a_d st (c i)) (i + 1) := by
  have hn := h.1
  obtain ⟨c1, c2, c3⟩ := h.2 i hi
  obtain ⟨e1, e2⟩ := a_aw st hst (c i) (by omega)
  unfold t_G
  rw [k_fix1 hF, mX8_isGame_4, if_neg (nI_ge hi (by omega)), k_bd_some (t_at h hi), k_bd_some e1, nI_1]
theorem t_Fe {sg : Nat → Int32} {n F st : Nat} (hF : 0 < F) (hn : n ≤ 60) : t_F sg n F st n = some (nI n) := by
  unfold t_F
  rw [k_fix1 hF, mX8_firstWrong_4, if_pos (nI_le (Nat.le_refl n) (by omega))]
theorem t_Ge {sg : Nat → Int32} {n F st : Nat} (hF : 0 < F) (hst : st < 8) (hn : n ≤ 60) : t_G sg n F st n = some (decide (st = 6)) := by
  unfold t_G
  rw [k_fix1 hF, mX8_isGame_4, if_pos (nI_le (Nat.le_refl n) (by omega))]
  by_cases h6 : st = 6
  · subst h6; rfl
  · rw [if_neg (show ¬ nI st = (6 : Int32) from fun e => h6 ((nI_eq (by omega) (by omega)).mp (show nI st = nI 6 from e))), decide_eq_false h6]
theorem t_G7 {sg : Nat → Int32} {c : Nat → Nat} {n : Nat} (h : TX sg c n) : ∀ (m i F : Nat), i + m = n → m < F → t_G sg n F 7 i = some false := by
  have hn := h.1
  intro m
  induction m with
  | zero =>
    intro i F hi hF
    obtain rfl : i = n := by omega
    rw [t_Ge hF (by omega) hn]; rfl
  | succ m ih =>
    intro i F hi hF
    have := h.2 i (by omega)
    rw [t_Gs h (by omega) (by omega) (by omega), a_7 _ (by omega)]
    exact ih (i + 1) (F - 1) (by omega) (by omega)
theorem t_bad {sg : Nat → Int32} {c : Nat → Nat} {n F st i : Nat} (h : TX sg c n) (hi : i ≤ n) (hst : st < 8) (h6 : st ≠ 6) (h7 : i < n → a_d st (c i) = 7) (hF : n - i < F) : t_F sg n F st i = some (nI i) ∧ t_G sg n F st i = some false := by
  by_cases he : i = n
  · subst he
    rw [t_Fe (by omega) h.1, t_Ge (by omega) hst h.1, decide_eq_false h6]
    exact ⟨rfl, rfl⟩
  · have h7' := h7 (by omega)
    rw [t_Fs h (by omega) hst (by omega), t_Gs h (by omega) hst (by omega), h7', if_pos rfl, t_G7 h (n - (i + 1)) (i + 1) (F - 1) (by omega) (by omega)]
    exact ⟨rfl, rfl⟩
theorem t_go {sg : Nat → Int32} {c : Nat → Nat} {n F st st' i : Nat} (h : TX sg c n) (hi : i < n) (hst : st < 8) (h1 : a_d st (c i) = st') (h7 : st' ≠ 7) (hF : n - i < F) : t_F sg n F st i = t_F sg n (F - 1) st' (i + 1) ∧ t_G sg n F st i = t_G sg n (F - 1) st' (i + 1) := by
  rw [t_Fs h hi hst (by omega), t_Gs h hi hst (by omega), h1, if_neg h7]
  exact ⟨rfl, rfl⟩
/-! the reference's signs -/
theorem t_in {v lo hi : Nat} (hv : v < 2 ^ 31) (hlo : lo < 2 ^ 31) (hhi : hi < 2 ^ 31) : mX10_in (nI v) (nI lo) (nI hi) = some (decide (lo ≤ v ∧ v ≤ hi)) := by
  unfold mX10_in
  by_cases h1 : v < lo
  · rw [if_pos (nI_lt h1 hlo), decide_eq_false (by omega)]
  · rw [if_neg (nI_nlt (by omega) hv)]
    by_cases h2 : hi < v
    · rw [if_pos (nI_lt h2 hv), decide_eq_false (by omega)]
    · rw [if_neg (nI_nlt (by omega) hhi), decide_eq_true (by omega)]
theorem k_ad1 (i : Nat) : nI i + k_b true = nI (i + 1) := nI_1 i
theorem t_sgW {buf : Nat → Int32} {len spot lo hi : Int32} : ∃ x, mX10_sign buf len spot true lo hi = some (x, spot, true) := by
  have h31 : ∀ t0, mX10_sign_31 buf len lo hi t0 spot true = some (t0, spot, true) := fun t0 => by
    unfold mX10_sign_31 mX10_sign_54 mX10_sign_74
    rw [if_neg (show ¬ k_b true = 0 by decide), if_neg (show ¬ k_b true = 0 by decide), k_ad0]
  unfold mX10_sign mX10_sign_30
  by_cases h : len ≤ spot
  · rw [if_pos h]; exact ⟨_, h31 _⟩
  · rw [if_neg h, if_neg (show ¬ k_b true = 0 by decide)]; exact ⟨_, h31 _⟩
theorem t_sg {buf : Nat → Int32} {c : Nat → Nat} {n i lo hi : Nat} (h : TX buf c n) (hlo : 1 ≤ lo ∧ lo < 128) (hhi : hi < 128) (hi' : i < n) (hc : lo ≤ c i ∧ c i ≤ hi) : mX10_sign buf (nI n) (nI i) false (nI lo) (nI hi) = some (nI (c i), nI (i + 1), false) := by
  have hn := h.1
  obtain ⟨c1, c2, c3⟩ := h.2 i hi'
  unfold mX10_sign
  rw [if_neg (nI_ge hi' (by omega)), if_pos (show k_b false = 0 from rfl), k_g_in (by omega) (by omega), nI_clamp (by omega), c3]
  unfold mX10_sign_31
  rw [if_pos (show k_b false = 0 from rfl), k_bd_some (t_in (by omega) (by omega) (by omega)), decide_eq_true hc, if_neg (show ¬ k_b true = 0 by decide)]
  unfold mX10_sign_54 mX10_sign_74
  rw [if_pos (show k_b false = 0 from rfl), k_ad1]
theorem t_sgN {buf : Nat → Int32} {c : Nat → Nat} {n i lo hi : Nat} (h : TX buf c n) (hlo : 1 ≤ lo ∧ lo < 128) (hhi : hi < 128) (hin : i ≤ n) (hc : ¬ (i < n ∧ lo ≤ c i ∧ c i ≤ hi)) : ∃ x, mX10_sign buf (nI n) (nI i) false (nI lo) (nI hi) = some (x, nI i, true) := by
  have hn := h.1
  have h54 : ∀ x, mX10_sign_54 buf (nI n) (nI lo) (nI hi) true x (nI i) false = some (x, nI i, true) := fun x => by
    unfold mX10_sign_54 mX10_sign_74
    rw [if_neg (show ¬ k_b true = 0 by decide), k_ad0]
  unfold mX10_sign mX10_sign_30
  by_cases he : i = n
  · subst he
    rw [if_pos (nI_le (Nat.le_refl i) (by omega))]
    unfold mX10_sign_31
    rw [if_pos (show k_b false = 0 from rfl), k_bd_some (show mX10_in 0 (nI lo) (nI hi) = some (decide (lo ≤ 0 ∧ 0 ≤ hi)) from by rw [← nI_0]; exact t_in (by omega) (by omega) (by omega)), decide_eq_false (by omega), if_pos (show k_b false = 0 from rfl)]
    exact ⟨_, h54 _⟩
  · obtain ⟨c1, c2, c3⟩ := h.2 i (by omega)
    rw [if_neg (nI_ge (by omega) (by omega)), if_pos (show k_b false = 0 from rfl), k_g_in (by omega) (by omega), nI_clamp (by omega), c3]
    unfold mX10_sign_31
    rw [if_pos (show k_b false = 0 from rfl), k_bd_some (t_in (by omega) (by omega) (by omega)), decide_eq_false (by omega), if_pos (show k_b false = 0 from rfl)]
    exact ⟨_, h54 _⟩
/-! a part, wrong -/
theorem w_290 {buf : Nat → Int32} {len l2 l4 l5 spot : Int32} {s laid : Nat → Int32} {w : Bool} : mX10_part_290 buf len false l2 l4 l5 s laid spot w = some (true, s, laid, spot, w) := rfl
theorem w_277 {buf : Nat → Int32} {len l2 l4 spot : Int32} {s laid : Nat → Int32} : mX10_part_277 buf len false l2 l4 s laid spot true = some (true, s, laid, spot, true) := by
  obtain ⟨x, e⟩ := t_sgW (buf := buf) (len := len) (spot := spot) (lo := 49) (hi := 54)
  unfold mX10_part_277
  rw [k_bd3_some e, w_290]
theorem w_257 {buf : Nat → Int32} {len t0 l2 l4 spot : Int32} {s laid : Nat → Int32} : mX10_part_257 buf len false t0 l2 l4 false s laid spot true = some (true, s, laid, spot, true) := by
  unfold mX10_part_257
  rw [w_277, w_290, ite_self, ite_self, ite_self]
theorem w_245 {buf : Nat → Int32} {len l2 l4 spot : Int32} {s laid : Nat → Int32} : mX10_part_245 buf len false l2 l4 false s laid spot true = some (true, s, laid, spot, true) := by
  obtain ⟨x, e⟩ := t_sgW (buf := buf) (len := len) (spot := spot) (lo := 46) (hi := 46)
  unfold mX10_part_245
  rw [k_bd3_some e, w_257]
theorem w_233 {buf : Nat → Int32} {len l2 l4 spot : Int32} {s laid : Nat → Int32} : mX10_part_233 buf len false l2 l4 false s laid spot true = some (true, s, laid, spot, true) := by
  unfold mX10_part_233
  rw [w_245, w_257, ite_self, ite_self]
theorem w_123 {buf : Nat → Int32} {len l2 spot : Int32} {s laid : Nat → Int32} : mX10_part_123 buf len false false spot l2 s laid spot true = some (true, s, laid, spot, true) := by
  obtain ⟨x, e⟩ := t_sgW (buf := buf) (len := len) (spot := spot) (lo := 49) (hi := 54)
  obtain ⟨y, e2⟩ := t_sgW (buf := buf) (len := len) (spot := spot) (lo := 48) (hi := 57)
  unfold mX10_part_123
  rw [k_ad0, k_bd3_some e, k_bd3_some e2, w_233, w_233, w_233, if_neg (show ¬ k_b true = 0 by decide)]
  simp only [ite_self]
/-! a part, right -/
theorem p_277 {buf : Nat → Int32} {c : Nat → Nat} {n i : Nat} {l2 l4 : Int32} {s laid : Nat → Int32} {a1 : Bool} (h : TX buf c n) (hi : i < n) (hc : 49 ≤ c i ∧ c i ≤ 54) : mX10_part_277 buf (nI n) a1 l2 l4 s laid (nI i) false = mX10_part_290 buf (nI n) a1 l2 l4 (nI (c i) - 48) s laid (nI (i + 1)) false := by
  unfold mX10_part_277
  rw [kn_49, kn_54, k_bd3_some (t_sg (lo := 49) (hi := 54) h (by omega) (by omega) hi hc)]
theorem p_277N {buf : Nat → Int32} {c : Nat → Nat} {n i : Nat} {l2 l4 : Int32} {s laid : Nat → Int32} (h : TX buf c n) (hi : i ≤ n) (hc : ¬ (i < n ∧ 49 ≤ c i ∧ c i ≤ 54)) : mX10_part_277 buf (nI n) false l2 l4 s laid (nI i) false = some (true, s, laid, nI i, true) := by
  obtain ⟨x, e⟩ := t_sgN (lo := 49) (hi := 54) h (by omega) (by omega) hi hc
  unfold mX10_part_277
  rw [kn_49, kn_54, k_bd3_some e, w_290]
theorem p_245 {buf : Nat → Int32} {c : Nat → Nat} {n i : Nat} {l2 l4 : Int32} {s laid : Nat → Int32} {a1 : Bool} (h : TX buf c n) (hi : i < n) (hc : c i = 46) (h2 : l2 = 109 ∨ l2 = 98) : mX10_part_245 buf (nI n) a1 l2 l4 false s laid (nI i) false = mX10_part_277 buf (nI n) a1 l2 l4 s laid (nI (i + 1)) false := by
  unfold mX10_part_245
  rw [kn_46, k_bd3_some (t_sg (lo := 46) (hi := 46) h (by omega) (by omega) hi (by omega))]
  unfold mX10_part_257
  rcases h2 with rfl | rfl
  · rw [if_neg (by decide), if_pos rfl]
  · rw [if_neg (by decide), if_neg (by decide), if_pos rfl]
theorem p_245N {buf : Nat → Int32} {c : Nat → Nat} {n i : Nat} {l2 l4 : Int32} {s laid : Nat → Int32} (h : TX buf c n) (hi : i ≤ n) (hc : ¬ (i < n ∧ c i = 46)) : mX10_part_245 buf (nI n) false l2 l4 false s laid (nI i) false = some (true, s, laid, nI i, true) := by
  obtain ⟨x, e⟩ := t_sgN (lo := 46) (hi := 46) h (by omega) (by omega) hi (by omega)
  unfold mX10_part_245
  rw [kn_46, k_bd3_some e, w_257]
theorem p_233d {buf : Nat → Int32} {len l2 l4 spot : Int32} {s laid : Nat → Int32} {a1 w : Bool} (h2 : l2 = 109 ∨ l2 = 98) : mX10_part_233 buf len a1 l2 l4 false s laid spot w = mX10_part_245 buf len a1 l2 l4 false s laid spot w := by
  unfold mX10_part_233
  rcases h2 with rfl | rfl
  · rw [if_pos rfl]
  · rw [if_neg (by decide), if_pos rfl]
/-- the first sign of a part -/
theorem p_first {buf : Nat → Int32} {c : Nat → Nat} {n i : Nat} {s laid : Nat → Int32} {a1 : Bool} (h : TX buf c n) (hi : i < n) (hk : c i = 114 ∨ c i = 109 ∨ c i = 98 ∨ c i = 101 ∨ c i = 120 ∨ c i = 116 ∨ c i = 100 ∨ c i = 110) : mX10_part s buf (nI n) laid (nI i) false a1 = mX10_part_123 buf (nI n) a1 true (nI i) (nI (c i)) s laid (nI i) false := by
  have hn := h.1
  obtain ⟨c1, c2, c3⟩ := h.2 i hi
  have h85 : mX10_part_85 buf (nI n) a1 true (nI (c i)) s laid (nI i) false = mX10_part_123 buf (nI n) a1 true (nI i) (nI (c i)) s laid (nI i) false := by
    unfold mX10_part_85 mX10_part_103
    rw [if_pos (show k_b false = 0 from rfl), if_neg (show ¬ k_b true = 0 by decide), if_pos (show k_b false = 0 from rfl)]
  unfold mX10_part
  rw [if_neg (nI_ge hi (by omega)), if_pos (show k_b false = 0 from rfl), k_g_in (by omega) (by omega), nI_clamp (by omega), c3]
  unfold mX10_part_31
  rw [h85]
  rcases hk with e | e | e | e | e | e | e | e
  · rw [e, if_pos (by decide)]
  · rw [e, if_neg (by decide), if_pos (by decide)]
  · rw [e, if_neg (by decide), if_neg (by decide), if_pos (by decide)]
  · rw [e, if_neg (by decide), if_neg (by decide), if_neg (by decide), if_pos (by decide)]
  · rw [e, if_neg (by decide), if_neg (by decide), if_neg (by decide), if_neg (by decide), if_pos (by decide)]
  · rw [e, if_neg (by decide), if_neg (by decide), if_neg (by decide), if_neg (by decide), if_neg (by decide), if_pos (by decide)]
  · rw [e, if_neg (by decide), if_neg (by decide), if_neg (by decide), if_neg (by decide), if_neg (by decide), if_neg (by decide), if_pos (by decide)]
  · rw [e, if_neg (by decide), if_neg (by decide), if_neg (by decide), if_neg (by decide), if_neg (by decide), if_neg (by decide), if_neg (by decide), if_pos (by decide)]
theorem p_firstN {buf : Nat → Int32} {c : Nat → Nat} {n i : Nat} {s laid : Nat → Int32} (h : TX buf c n) (hi : i ≤ n) (hk : i < n → ¬ (c i = 114 ∨ c i = 109 ∨ c i = 98 ∨ c i = 101 ∨ c i = 120 ∨ c i = 116 ∨ c i = 100 ∨ c i = 110)) : mX10_part s buf (nI n) laid (nI i) false false = some (true, s, laid, nI i, true) := by
  have hn := h.1
  have h85 : ∀ t0, mX10_part_85 buf (nI n) false false t0 s laid (nI i) false = some (true, s, laid, nI i, true) := fun t0 => by
    unfold mX10_part_85 mX10_part_103
    rw [if_pos (show k_b false = 0 from rfl), if_pos (show k_b false = 0 from rfl), if_neg (show ¬ k_b true = 0 by decide), w_123]
  unfold mX10_part
  by_cases he : i = n
  · subst he
    rw [if_pos (nI_le (Nat.le_refl i) (by omega))]
    unfold mX10_part_30 mX10_part_31
    rw [h85]
    rfl
  · obtain ⟨c1, c2, c3⟩ := h.2 i (by omega)
    have hk' := hk (by omega)
    have ne : ∀ k : Nat, k < 128 → c i ≠ k → ¬ nI (c i) = nI k := fun k hk0 hne e => hne ((nI_eq (by omega) (by omega)).mp e)
    rw [if_neg (nI_ge (by omega) (by omega)), if_pos (show k_b false = 0 from rfl), k_g_in (by omega) (by omega), nI_clamp (by omega), c3]
    unfold mX10_part_31
    rw [if_neg (show ¬ nI (c i) = (114 : Int32) from ne 114 (by omega) (by omega)), if_neg (show ¬ nI (c i) = (109 : Int32) from ne 109 (by omega) (by omega)), if_neg (show ¬ nI (c i) = (98 : Int32) from ne 98 (by omega) (by omega)), if_neg (show ¬ nI (c i) = (101 : Int32) from ne 101 (by omega) (by omega)), if_neg (show ¬ nI (c i) = (120 : Int32) from ne 120 (by omega) (by omega)), if_neg (show ¬ nI (c i) = (116 : Int32) from ne 116 (by omega) (by omega)), if_neg (show ¬ nI (c i) = (100 : Int32) from ne 100 (by omega) (by omega)), if_neg (show ¬ nI (c i) = (110 : Int32) from ne 110 (by omega) (by omega)), h85]
