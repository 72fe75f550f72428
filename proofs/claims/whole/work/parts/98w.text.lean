/-! the parts of a text -/
theorem p_r {buf : Nat → Int32} {c : Nat → Nat} {n i : Nat} {s laid : Nat → Int32} {a1 : Bool} (h : TX buf c n) (hi : i + 1 < n) (hc : 49 ≤ c (i + 1) ∧ c (i + 1) ≤ 54) : mX10_part_123 buf (nI n) a1 true (nI i) (nI 114) s laid (nI i) false = mX10_part_277 buf (nI n) a1 (nI 114) (nI (c (i + 1)) - 48) s laid (nI (i + 2)) false := by
  unfold mX10_part_123
  rw [if_pos (show nI 114 = (114 : Int32) from rfl), k_ad1, kn_49, kn_54, k_bd3_some (t_sg (lo := 49) (hi := 54) h (by omega) (by omega) hi hc)]
  unfold mX10_part_233 mX10_part_257
  rw [if_neg (by decide), if_neg (by decide), if_pos (show nI 114 = (114 : Int32) from rfl)]
theorem p_rN {buf : Nat → Int32} {c : Nat → Nat} {n i : Nat} {s laid : Nat → Int32} (h : TX buf c n) (hi : i + 1 ≤ n) (hc : ¬ (i + 1 < n ∧ 49 ≤ c (i + 1) ∧ c (i + 1) ≤ 54)) : mX10_part_123 buf (nI n) false true (nI i) (nI 114) s laid (nI i) false = some (true, s, laid, nI (i + 1), true) := by
  obtain ⟨x, e⟩ := t_sgN (lo := 49) (hi := 54) h (by omega) (by omega) hi hc
  unfold mX10_part_123
  rw [if_pos (show nI 114 = (114 : Int32) from rfl), k_ad1, kn_49, kn_54, k_bd3_some e, w_233]
theorem sg_4857 {buf : Nat → Int32} {c : Nat → Nat} {n i : Nat} (h : TX buf c n) (hi : i < n) (hc : 48 ≤ c i ∧ c i ≤ 57) : mX10_sign buf (nI n) (nI i) false 48 57 = some (nI (c i), nI (i + 1), false) := by
  rw [kn_48, kn_57]; exact t_sg (lo := 48) (hi := 57) h (by omega) (by omega) hi hc
theorem sg_4857N {buf : Nat → Int32} {c : Nat → Nat} {n i : Nat} (h : TX buf c n) (hi : i ≤ n) (hc : ¬ (i < n ∧ 48 ≤ c i ∧ c i ≤ 57)) : ∃ x, mX10_sign buf (nI n) (nI i) false 48 57 = some (x, nI i, true) := by
  rw [kn_48, kn_57]; exact t_sgN (lo := 48) (hi := 57) h (by omega) (by omega) hi hc
theorem sg_4853 {buf : Nat → Int32} {c : Nat → Nat} {n i : Nat} (h : TX buf c n) (hi : i < n) (hc : 48 ≤ c i ∧ c i ≤ 53) : mX10_sign buf (nI n) (nI i) false 48 53 = some (nI (c i), nI (i + 1), false) := by
  rw [kn_48, kn_53]; exact t_sg (lo := 48) (hi := 53) h (by omega) (by omega) hi hc
theorem in_4853 {v : Nat} (hv : v < 128) : mX10_in (nI v) 48 53 = some (decide (48 ≤ v ∧ v ≤ 53)) := by
  rw [kn_48, kn_53]; exact t_in (by omega) (by omega) (by omega)
theorem p_49 : ∀ j, j < 127 → ((nI j - 48 = 1) ↔ j = 49) := by decide +kernel
theorem p_m1 {buf : Nat → Int32} {c : Nat → Nat} {n i : Nat} {s laid : Nat → Int32} {a1 : Bool} (h : TX buf c n) (hi : i + 1 < n) (hc : 48 ≤ c (i + 1) ∧ c (i + 1) ≤ 57) (hd : ¬ (c (i + 1) = 49 ∧ i + 2 < n ∧ 48 ≤ c (i + 2) ∧ c (i + 2) ≤ 53)) : mX10_part_123 buf (nI n) a1 true (nI i) (nI 109) s laid (nI i) false = mX10_part_245 buf (nI n) a1 (nI 109) (nI (c (i + 1)) - 48) false s laid (nI (i + 2)) false := by
  have hn := h.1
  have e1 : mX10_part_123 buf (nI n) a1 true (nI i) (nI 109) s laid (nI i) false = mX10_part_233 buf (nI n) a1 (nI 109) (nI (c (i + 1)) - 48) false s laid (nI (i + 2)) false := by
    unfold mX10_part_123
    rw [if_neg (by decide), if_pos (show nI 109 = (109 : Int32) from rfl), k_ad1, k_bd3_some (sg_4857 h hi hc)]
    by_cases h49 : c (i + 1) = 49
    · rw [if_pos ((p_49 _ (by omega)).mpr h49), if_pos (show k_b false = 0 from rfl)]
      by_cases h2 : i + 2 < n
      · obtain ⟨c1, c2, c3⟩ := h.2 (i + 2) h2
        have hin : mX10_in (nI (c (i + 2))) 48 53 = some false := by
          rw [in_4853 (by omega), decide_eq_false (fun q => hd ⟨h49, h2, q⟩)]
        rw [if_neg (nI_ge h2 (by omega)), k_g_in (by omega) (by omega), nI_clamp (by omega), c3, k_bd_some hin, if_pos (show k_b false = 0 from rfl)]
      · rw [if_pos (nI_le (by omega) (by omega))]
    · rw [if_neg (fun q => h49 ((p_49 _ (by omega)).mp q))]
  rw [e1, p_233d (l2 := nI 109) (Or.inl rfl)]
theorem p_m2 {buf : Nat → Int32} {c : Nat → Nat} {n i : Nat} {s laid : Nat → Int32} {a1 : Bool} (h : TX buf c n) (h1 : c (i + 1) = 49) (h2 : i + 2 < n) (h3 : 48 ≤ c (i + 2) ∧ c (i + 2) ≤ 53) : mX10_part_123 buf (nI n) a1 true (nI i) (nI 109) s laid (nI i) false = mX10_part_245 buf (nI n) a1 (nI 109) (10 + nI (c (i + 2)) - 48) false s laid (nI (i + 3)) false := by
  have hn := h.1
  obtain ⟨c1, c2, c3⟩ := h.2 (i + 2) h2
  have e1 : mX10_part_123 buf (nI n) a1 true (nI i) (nI 109) s laid (nI i) false = mX10_part_233 buf (nI n) a1 (nI 109) (10 + nI (c (i + 2)) - 48) false s laid (nI (i + 3)) false := by
    unfold mX10_part_123
    rw [if_neg (by decide), if_pos (show nI 109 = (109 : Int32) from rfl), k_ad1, k_bd3_some (sg_4857 h (show i + 1 < n by omega) (by omega)), if_pos ((p_49 _ (by omega)).mpr h1), if_pos (show k_b false = 0 from rfl), if_neg (nI_ge h2 (by omega)), k_g_in (by omega) (by omega), nI_clamp (by omega), c3, k_bd_some (in_4853 (by omega)), decide_eq_true h3, if_neg (show ¬ k_b true = 0 by decide), k_bd3_some (sg_4853 h h2 h3)]
  rw [e1, p_233d (l2 := nI 109) (Or.inl rfl)]
theorem p_mN {buf : Nat → Int32} {c : Nat → Nat} {n i : Nat} {s laid : Nat → Int32} (h : TX buf c n) (hi : i + 1 ≤ n) (hc : ¬ (i + 1 < n ∧ 48 ≤ c (i + 1) ∧ c (i + 1) ≤ 57)) : mX10_part_123 buf (nI n) false true (nI i) (nI 109) s laid (nI i) false = some (true, s, laid, nI (i + 1), true) := by
  obtain ⟨x, e⟩ := sg_4857N h hi hc
  unfold mX10_part_123
  rw [if_neg (by decide), if_pos (show nI 109 = (109 : Int32) from rfl), k_ad1, k_bd3_some e, w_233, if_neg (show ¬ k_b true = 0 by decide), ite_self]
theorem p_b {buf : Nat → Int32} {n i : Nat} {s laid : Nat → Int32} {a1 : Bool} : mX10_part_123 buf (nI n) a1 true (nI i) (nI 98) s laid (nI i) false = mX10_part_245 buf (nI n) a1 (nI 98) (-1) false s laid (nI (i + 1)) false := by
  unfold mX10_part_123
  rw [if_neg (by decide), if_neg (by decide), k_ad1, p_233d (l2 := nI 98) (Or.inr rfl)]
theorem p_e {buf : Nat → Int32} {n i k : Nat} {s laid : Nat → Int32} {a1 : Bool} (hk : k = 101 ∨ k = 120 ∨ k = 116 ∨ k = 100 ∨ k = 110) : mX10_part_123 buf (nI n) a1 true (nI i) (nI k) s laid (nI i) false = mX10_part_290 buf (nI n) a1 (nI k) (-1) 0 s laid (nI (i + 1)) false := by
  have h114 : ¬ nI k = (114 : Int32) := by rcases hk with rfl | rfl | rfl | rfl | rfl <;> decide
  have h109 : ¬ nI k = (109 : Int32) := by rcases hk with rfl | rfl | rfl | rfl | rfl <;> decide
  have h98 : ¬ nI k = (98 : Int32) := by rcases hk with rfl | rfl | rfl | rfl | rfl <;> decide
  unfold mX10_part_123 mX10_part_233 mX10_part_257
  rw [if_neg h114, if_neg h109, if_neg h109, if_neg h98, if_neg h114, if_neg h109, if_neg h98, k_ad1]
  rfl
def Q_kind (c : Nat → Nat) (i : Nat) (l4 l5 : Int32) (i' : Nat) : Prop :=
  (c i = 114 ∧ i' = i + 3 ∧ (49 ≤ c (i + 1) ∧ c (i + 1) ≤ 54) ∧ (49 ≤ c (i + 2) ∧ c (i + 2) ≤ 54) ∧ l4 = nI (c (i + 1)) - 48 ∧ l5 = nI (c (i + 2)) - 48)
  ∨ (c i = 109 ∧ i' = i + 4 ∧ (48 ≤ c (i + 1) ∧ c (i + 1) ≤ 57) ∧ c (i + 2) = 46 ∧ (49 ≤ c (i + 3) ∧ c (i + 3) ≤ 54) ∧ l4 = nI (c (i + 1)) - 48 ∧ l5 = nI (c (i + 3)) - 48)
  ∨ (c i = 109 ∧ i' = i + 5 ∧ c (i + 1) = 49 ∧ (48 ≤ c (i + 2) ∧ c (i + 2) ≤ 53) ∧ c (i + 3) = 46 ∧ (49 ≤ c (i + 4) ∧ c (i + 4) ≤ 54) ∧ l4 = 10 + nI (c (i + 2)) - 48 ∧ l5 = nI (c (i + 4)) - 48)
  ∨ (c i = 98 ∧ i' = i + 3 ∧ c (i + 1) = 46 ∧ (49 ≤ c (i + 2) ∧ c (i + 2) ≤ 54) ∧ l4 = -1 ∧ l5 = nI (c (i + 2)) - 48)
  ∨ ((c i = 101 ∨ c i = 120 ∨ c i = 116 ∨ c i = 100 ∨ c i = 110) ∧ i' = i + 1 ∧ l4 = -1 ∧ l5 = 0)
def Q_part (buf : Nat → Int32) (c : Nat → Nat) (n i : Nat) (l4 l5 : Int32) (i' : Nat) : Prop :=
  Q_kind c i l4 l5 i' ∧ i < i' ∧ i' ≤ n ∧ ∀ (s laid : Nat → Int32) (a1 : Bool), mX10_part s buf (nI n) laid (nI i) false a1 = mX10_part_290 buf (nI n) a1 (nI (c i)) l4 l5 s laid (nI i') false
def D_ok (buf sg : Nat → Int32) (c : Nat → Nat) (n i : Nat) : Prop := ∃ l4 l5 i', Q_part buf c n i l4 l5 i' ∧ ∀ F, n - i < F → ∃ F', n - i' < F' ∧ t_F sg n F 0 i = t_F sg n F' 6 i' ∧ t_G sg n F 0 i = t_G sg n F' 6 i'
def D_no (buf sg : Nat → Int32) (c : Nat → Nat) (n i : Nat) : Prop := ∃ i', i' ≤ n ∧ (∀ s laid : Nat → Int32, mX10_part s buf (nI n) laid (nI i) false false = some (true, s, laid, nI i', true)) ∧ ∀ F, n - i < F → t_F sg n F 0 i = some (nI i') ∧ t_G sg n F 0 i = some false
/-- the tail dot and die, from state 5 -/
theorem t_tail {buf sg : Nat → Int32} {c : Nat → Nat} {n i j : Nat} {k : Nat} {l4 : Int32} (hb : TX buf c n) (hs : TX sg c n) (hj : j ≤ n) (hk : k = 109 ∨ k = 98) {st : Nat} (hst : st = 5 ∨ (st = 4 ∧ (j < n → ¬ (48 ≤ c j ∧ c j ≤ 53)))) (he : ∀ (s laid : Nat → Int32) (a1 : Bool), mX10_part s buf (nI n) laid (nI i) false a1 = mX10_part_245 buf (nI n) a1 (nI k) l4 false s laid (nI j) false) (hgo : ∀ F, n - i < F → ∃ F', n - j < F' ∧ t_F sg n F 0 i = t_F sg n F' st j ∧ t_G sg n F 0 i = t_G sg n F' st j) :
    (c j = 46 ∧ j + 1 < n ∧ (49 ≤ c (j + 1) ∧ c (j + 1) ≤ 54) ∧ (∀ (s laid : Nat → Int32) (a1 : Bool), mX10_part s buf (nI n) laid (nI i) false a1 = mX10_part_290 buf (nI n) a1 (nI k) l4 (nI (c (j + 1)) - 48) s laid (nI (j + 2)) false) ∧ ∀ F, n - i < F → ∃ F', n - (j + 2) < F' ∧ t_F sg n F 0 i = t_F sg n F' 6 (j + 2) ∧ t_G sg n F 0 i = t_G sg n F' 6 (j + 2)) ∨ D_no buf sg c n i := by
  have hn := hb.1
  have hk' : nI k = (109 : Int32) ∨ nI k = (98 : Int32) := by
    rcases hk with rfl | rfl
    · exact Or.inl rfl
    · exact Or.inr rfl
  have hst8 : st < 8 := by omega
  have ha : j < n → a_d st (c j) = if c j = 46 then 2 else 7 := fun hjn => by
    have hcj := hb.2 j hjn
    rcases hst with rfl | ⟨rfl, h4⟩
    · exact a_5 _ (by omega)
    · rw [a_4 _ (by omega), if_neg (h4 hjn)]
  by_cases h1 : j < n ∧ c j = 46
  · obtain ⟨h1a, h1b⟩ := h1
    have ha2 : a_d st (c j) = 2 := by rw [ha h1a, if_pos h1b]
    by_cases h2 : j + 1 < n ∧ 49 ≤ c (j + 1) ∧ c (j + 1) ≤ 54
    · obtain ⟨h2a, h2b⟩ := h2
      refine Or.inl ⟨h1b, h2a, h2b, fun s laid a1 => ?_, fun F hF => ?_⟩
      · rw [he, p_245 hb h1a h1b hk', p_277 hb h2a h2b]
      · obtain ⟨F1, f1, f2, f3⟩ := hgo F hF
        obtain ⟨g1, g2⟩ := t_go hs h1a hst8 ha2 (by omega) f1
        obtain ⟨g3, g4⟩ := t_go (st := 2) (F := F1 - 1) (st' := 6) hs h2a (by omega) (by rw [a_2 _ (by omega), if_pos h2b]) (by omega) (by omega)
        exact ⟨F1 - 1 - 1, by omega, by rw [f2, g1, g3], by rw [f3, g2, g4]⟩
    · refine Or.inr ⟨j + 1, by omega, fun s laid => ?_, fun F hF => ?_⟩
      · rw [he, p_245 hb h1a h1b hk', p_277N hb (by omega) h2]
      · obtain ⟨F1, f1, f2, f3⟩ := hgo F hF
        obtain ⟨g1, g2⟩ := t_go hs h1a hst8 ha2 (by omega) f1
        rw [f2, f3, g1, g2]
        exact t_bad (st := 2) hs (by omega) (by omega) (by omega) (fun q => by have := hb.2 (j + 1) q; rw [a_2 _ (by omega), if_neg (fun z => h2 ⟨q, z⟩)]) (by omega)
  · refine Or.inr ⟨j, hj, fun s laid => ?_, fun F hF => ?_⟩
    · rw [he, p_245N hb hj h1]
    · obtain ⟨F1, f1, f2, f3⟩ := hgo F hF
      rw [f2, f3]
      exact t_bad hs hj hst8 (by omega) (fun q => by rw [ha q, if_neg (fun z => h1 ⟨q, z⟩)]) f1
theorem t_dich {buf sg : Nat → Int32} {c : Nat → Nat} {n i : Nat} (hb : TX buf c n) (hs : TX sg c n) (hi : i ≤ n) : D_ok buf sg c n i ∨ D_no buf sg c n i := by
  have hn := hb.1
  by_cases hk : i < n ∧ (c i = 114 ∨ c i = 109 ∨ c i = 98 ∨ c i = 101 ∨ c i = 120 ∨ c i = 116 ∨ c i = 100 ∨ c i = 110)
  · obtain ⟨hin, hk⟩ := hk
    have hci := hb.2 i hin
    have hp : ∀ (s laid : Nat → Int32) (a1 : Bool), mX10_part s buf (nI n) laid (nI i) false a1 = mX10_part_123 buf (nI n) a1 true (nI i) (nI (c i)) s laid (nI i) false := fun s laid a1 => p_first hb hin hk
    have h0 := a_0 (c i) (by omega)
    by_cases h114 : c i = 114
    · rw [if_pos h114] at h0
      rw [h114] at hp
      by_cases h1 : i + 1 < n ∧ 49 ≤ c (i + 1) ∧ c (i + 1) ≤ 54
      · obtain ⟨h1a, h1b⟩ := h1
        by_cases h2 : i + 2 < n ∧ 49 ≤ c (i + 2) ∧ c (i + 2) ≤ 54
        · obtain ⟨h2a, h2b⟩ := h2
          refine Or.inl ⟨nI (c (i + 1)) - 48, nI (c (i + 2)) - 48, i + 3, ⟨Or.inl ⟨h114, rfl, h1b, h2b, rfl, rfl⟩, by omega, by omega, fun s laid a1 => ?_⟩, fun F hF => ?_⟩
          · rw [hp, p_r hb h1a h1b, p_277 hb h2a h2b, h114]
          · obtain ⟨g1, g2⟩ := t_go hs hin (by omega) h0 (by omega) hF
            obtain ⟨g3, g4⟩ := t_go (st := 1) (F := F - 1) (st' := 2) hs h1a (by omega) (by rw [a_1 _ (by omega), if_pos h1b]) (by omega) (by omega)
            obtain ⟨g5, g6⟩ := t_go (st := 2) (F := F - 1 - 1) (st' := 6) hs h2a (by omega) (by rw [a_2 _ (by omega), if_pos h2b]) (by omega) (by omega)
            exact ⟨F - 1 - 1 - 1, by omega, by rw [g1, g3, g5], by rw [g2, g4, g6]⟩
        · refine Or.inr ⟨i + 2, by omega, fun s laid => ?_, fun F hF => ?_⟩
          · rw [hp, p_r hb h1a h1b, p_277N hb (by omega) h2]
          · obtain ⟨g1, g2⟩ := t_go hs hin (by omega) h0 (by omega) hF
            obtain ⟨g3, g4⟩ := t_go (st := 1) (F := F - 1) (st' := 2) hs h1a (by omega) (by rw [a_1 _ (by omega), if_pos h1b]) (by omega) (by omega)
            rw [g1, g2, g3, g4]
            exact t_bad (st := 2) hs (by omega) (by omega) (by omega) (fun q => by have := hb.2 (i + 1 + 1) q; rw [a_2 _ (by omega), if_neg (fun z => h2 ⟨q, z⟩)]) (by omega)
      · refine Or.inr ⟨i + 1, by omega, fun s laid => ?_, fun F hF => ?_⟩
        · rw [hp, p_rN hb (by omega) h1]
        · obtain ⟨g1, g2⟩ := t_go hs hin (by omega) h0 (by omega) hF
          rw [g1, g2]
          exact t_bad (st := 1) hs (by omega) (by omega) (by omega) (fun q => by have := hb.2 (i + 1) q; rw [a_1 _ (by omega), if_neg (fun z => h1 ⟨q, z⟩)]) (by omega)
    · rw [if_neg h114] at h0
      by_cases h109 : c i = 109
      · rw [if_pos h109] at h0
        rw [h109] at hp
        by_cases h1 : i + 1 < n ∧ 48 ≤ c (i + 1) ∧ c (i + 1) ≤ 57
        · obtain ⟨h1a, h1b⟩ := h1
          by_cases h2 : c (i + 1) = 49 ∧ i + 2 < n ∧ 48 ≤ c (i + 2) ∧ c (i + 2) ≤ 53
          · obtain ⟨h2a, h2b, h2c⟩ := h2
            rcases t_tail (i := i) (j := i + 3) (k := 109) (st := 5) (l4 := 10 + nI (c (i + 2)) - 48) hb hs (by omega) (Or.inl rfl) (Or.inl rfl) (fun s laid a1 => by rw [hp, p_m2 hb h2a h2b h2c]) (fun F hF => by
              obtain ⟨g1, g2⟩ := t_go hs hin (by omega) h0 (by omega) hF
              obtain ⟨g3, g4⟩ := t_go (st := 3) (F := F - 1) (st' := 4) hs h1a (by omega) (by rw [a_3 _ (by omega), if_pos h2a]) (by omega) (by omega)
              obtain ⟨g5, g6⟩ := t_go (st := 4) (F := F - 1 - 1) (st' := 5) hs h2b (by omega) (by rw [a_4 _ (by omega), if_pos h2c]) (by omega) (by omega)
              exact ⟨F - 1 - 1 - 1, by omega, by rw [g1, g3, g5], by rw [g2, g4, g6]⟩) with ⟨e1, e2, e3, e4, e5⟩ | hno
            · exact Or.inl ⟨_, _, i + 5, ⟨Or.inr (Or.inr (Or.inl ⟨h109, rfl, h2a, h2c, e1, e3, rfl, rfl⟩)), by omega, by omega, fun s laid a1 => by rw [e4, h109]⟩, e5⟩
            · exact Or.inr hno
          · have hst : (if c (i + 1) = 49 then 4 else 5) = 5 ∨ ((if c (i + 1) = 49 then 4 else 5) = 4 ∧ (i + 2 < n → ¬ (48 ≤ c (i + 2) ∧ c (i + 2) ≤ 53))) := by
              by_cases h49 : c (i + 1) = 49
              · rw [if_pos h49]; exact Or.inr ⟨rfl, fun q z => h2 ⟨h49, q, z⟩⟩
              · rw [if_neg h49]; exact Or.inl rfl
            rcases t_tail (i := i) (j := i + 2) (k := 109) (l4 := nI (c (i + 1)) - 48) hb hs (by omega) (Or.inl rfl) hst (fun s laid a1 => by rw [hp, p_m1 hb h1a h1b h2]) (fun F hF => by
              obtain ⟨g1, g2⟩ := t_go hs hin (by omega) h0 (by omega) hF
              obtain ⟨g3, g4⟩ := t_go (st := 3) (F := F - 1) (st' := if c (i + 1) = 49 then 4 else 5) hs h1a (by omega) (by
                rw [a_3 _ (by omega)]
                by_cases h49 : c (i + 1) = 49
                · rw [if_pos h49, if_pos h49]
                · rw [if_neg h49, if_neg h49, if_pos h1b]) (by split <;> omega) (by omega)
              exact ⟨F - 1 - 1, by omega, by rw [g1, g3], by rw [g2, g4]⟩) with ⟨e1, e2, e3, e4, e5⟩ | hno
            · exact Or.inl ⟨_, _, i + 4, ⟨Or.inr (Or.inl ⟨h109, rfl, h1b, e1, e3, rfl, rfl⟩), by omega, by omega, fun s laid a1 => by rw [e4, h109]⟩, e5⟩
            · exact Or.inr hno
        · refine Or.inr ⟨i + 1, by omega, fun s laid => ?_, fun F hF => ?_⟩
          · rw [hp, p_mN hb (by omega) h1]
          · obtain ⟨g1, g2⟩ := t_go hs hin (by omega) h0 (by omega) hF
            rw [g1, g2]
            exact t_bad (st := 3) hs (by omega) (by omega) (by omega) (fun q => by have := hb.2 (i + 1) q; rw [a_3 _ (by omega), if_neg (fun z => h1 ⟨q, by omega⟩), if_neg (fun z => h1 ⟨q, z⟩)]) (by omega)
      · rw [if_neg h109] at h0
        by_cases h98 : c i = 98
        · rw [if_pos h98] at h0
          rw [h98] at hp
          rcases t_tail (i := i) (j := i + 1) (k := 98) (st := 5) (l4 := -1) hb hs (by omega) (Or.inr rfl) (Or.inl rfl) (fun s laid a1 => by rw [hp, p_b]) (fun F hF => by
            obtain ⟨g1, g2⟩ := t_go hs hin (by omega) h0 (by omega) hF
            exact ⟨F - 1, by omega, g1, g2⟩) with ⟨e1, e2, e3, e4, e5⟩ | hno
          · exact Or.inl ⟨_, _, i + 3, ⟨Or.inr (Or.inr (Or.inr (Or.inl ⟨h98, rfl, e1, e3, rfl, rfl⟩))), by omega, by omega, fun s laid a1 => by rw [e4, h98]⟩, e5⟩
          · exact Or.inr hno
        · rw [if_neg h98, if_pos (by omega)] at h0
          refine Or.inl ⟨-1, 0, i + 1, ⟨Or.inr (Or.inr (Or.inr (Or.inr ⟨by omega, rfl, rfl, rfl⟩))), by omega, by omega, fun s laid a1 => by rw [hp, p_e (by omega)]⟩, fun F hF => ?_⟩
          obtain ⟨g1, g2⟩ := t_go hs hin (by omega) h0 (by omega) hF
          exact ⟨F - 1, by omega, g1, g2⟩
  · refine Or.inr ⟨i, hi, fun s laid => p_firstN hb hi (fun q z => hk ⟨q, z⟩), fun F hF => ?_⟩
    exact t_bad hs hi (by omega) (by omega) (fun q => by
      have := hb.2 i q
      rw [a_0 _ (by omega), if_neg (fun z => hk ⟨q, by omega⟩), if_neg (fun z => hk ⟨q, by omega⟩), if_neg (fun z => hk ⟨q, by omega⟩), if_neg (fun z => hk ⟨q, by omega⟩)]) hF
