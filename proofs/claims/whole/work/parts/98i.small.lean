/-! scores, the text's sign, the cube -/
theorem sc_1 {a b : Int32} {q : Nat} (hq : q < 2) : mX1_scoreOf a b (nI q) = some (if q = 0 then a else b) ∧ mX1_hitsOf a b (nI q) = some (if q = 0 then a else b) := by
  rcases (show q = 0 ∨ q = 1 by omega) with rfl | rfl <;> exact ⟨rfl, rfl⟩
theorem ok_score {x : XT} {m : MT} (h : Rel x m) (a : Int32) : OK_score Rel x m a := by
  obtain ⟨p, F, ds, ph, -, -, -, -, -, -, -, ⟨g45, g46, g47, g48⟩, -⟩ := h.1
  rcases pl_or a with ⟨q, hq, rfl⟩ | ⟨h1, h2⟩
  · have hs : m.1 (45 + q) = if q = 0 then x.2.2.2.2.1.2.2.2.2.2.2.2.1 else x.2.2.2.2.1.2.2.2.2.2.2.2.2.1 := by
      rcases (show q = 0 ∨ q = 1 by omega) with rfl | rfl
      · exact g45
      · exact g46
    refine Or.inl ⟨m.1 (45 + q), x, m.1 (45 + q), setT m 0, ?_, ?_, rfl, rfl, Rel_T h⟩
    · unfold XN_score mX9_score
      rw [k_bd_some (pl_1 hq), if_neg (by decide), k_bd_some (sc_1 hq).1, hs]
      rfl
    · unfold MN_score mX10_score
      rw [k_bd2_some (th_z hq), if_neg (by decide), show (45 : Int32) + nI q = nI (45 + q) from nI_add 45 q, k_g_in (by omega) (by omega), nI_clamp (by omega)]
      rfl
  · refine Or.inr ⟨0, setT m 1, ?_, ?_, rfl, Rel_T h⟩
    · unfold XT_score mT9_score
      rw [k_bd_some h1, if_pos (by decide)]
    · unfold MN_score mX10_score; rw [k_bd2_some (h2 _ _)]; rfl
theorem ok_hits {x : XT} {m : MT} (h : Rel x m) (a : Int32) : OK_hits Rel x m a := by
  obtain ⟨p, F, ds, ph, -, -, -, -, -, -, -, ⟨g45, g46, g47, g48⟩, -⟩ := h.1
  rcases pl_or a with ⟨q, hq, rfl⟩ | ⟨h1, h2⟩
  · have hs : m.1 (47 + q) = if q = 0 then x.2.2.2.2.1.2.2.2.2.2.2.2.2.2.1 else x.2.2.2.2.1.2.2.2.2.2.2.2.2.2.2.1 := by
      rcases (show q = 0 ∨ q = 1 by omega) with rfl | rfl
      · exact g47
      · exact g48
    refine Or.inl ⟨m.1 (47 + q), x, m.1 (47 + q), setT m 0, ?_, ?_, rfl, rfl, Rel_T h⟩
    · unfold XN_hits mX9_hits
      rw [k_bd_some (pl_1 hq), if_neg (by decide), k_bd_some (sc_1 hq).2, hs]
      rfl
    · unfold MN_hits mX10_hits
      rw [k_bd2_some (th_z hq), if_neg (by decide), show (47 : Int32) + nI q = nI (47 + q) from nI_add 47 q, k_g_in (by omega) (by omega), nI_clamp (by omega)]
      rfl
  · refine Or.inr ⟨0, setT m 1, ?_, ?_, rfl, Rel_T h⟩
    · unfold XT_hits mT9_hits
      rw [k_bd_some h1, if_pos (by decide)]
    · unfold MN_hits mX10_hits; rw [k_bd2_some (h2 _ _)]; rfl
theorem ok_clearBuffer {x : XT} {m : MT} (h : Rel x m) : OK_clearBuffer Rel x m := by
  obtain ⟨hg, hp, hs, ⟨n, hn, l1, l2, hi⟩⟩ := h
  refine ⟨x.2.2.2.2.2.2, (x.1, x.2.1, x.2.2.1, x.2.2.2.1, x.2.2.2.2.1, x.2.2.2.2.2.1, 0), m.2.2.2.2.2.2.2.1, (m.1, m.2.1, m.2.2.1, m.2.2.2.1, m.2.2.2.2.1, m.2.2.2.2.2.1, m.2.2.2.2.2.2.1, 0, 0, m.2.2.2.2.2.2.2.2.2), rfl, rfl, l1.trans l2.symm, hg, hp, hs, ⟨0, by omega, nI_0.symm, nI_0.symm, fun i hi => by omega⟩⟩
theorem ch_nar : ∀ j, j < 127 → vp_nar .char (k_i2c (nI j)) = nI j := by decide +kernel
theorem ok_append {x : XT} {m : MT} (h : Rel x m) (a : Int32) : OK_append Rel x m a := by
  obtain ⟨hg, hp, hs, ⟨n, hn, l1, l2, hi⟩⟩ := h
  have hb : ∀ t, Rel x (setT m t) := fun t => ⟨hg, hp, hs, ⟨n, hn, l1, l2, hi⟩⟩
  have hbad : (a < 33 ∨ (¬ a < 33 ∧ (126 : Int32) < a)) → OK_append Rel x m a := by
    rintro (h1 | ⟨h1, h2⟩)
    · refine Or.inr (Or.inl ⟨0, setT m 1, ?_, ?_, rfl, hb 1⟩)
      · unfold XT_append mT9_append; rw [if_pos h1]; rfl
      · unfold MN_append mX10_append mX10_in; rw [if_pos h1]; rfl
    · refine Or.inr (Or.inl ⟨0, setT m 1, ?_, ?_, rfl, hb 1⟩)
      · unfold XT_append mT9_append; rw [if_neg h1, if_neg (Int32.not_le.mpr h2)]; rfl
      · unfold MN_append mX10_append mX10_in; rw [if_neg h1, if_pos h2]; rfl
  rcases pk_ix a (n := 127) (by omega) with h1 | h1 | ⟨j, hj, rfl⟩
  · exact hbad (Or.inl (Int32.lt_trans h1 (by decide)))
  · exact hbad (Or.inr ⟨Int32.not_lt.mpr (Int32.le_trans (by decide) h1), Int32.lt_of_lt_of_le (by decide) h1⟩)
  · by_cases hj3 : j < 33
    · exact hbad (Or.inl (show nI j < nI 33 from nI_lt hj3 (by omega)))
    · have k1 : ¬ nI j < (33 : Int32) := show ¬ nI j < nI 33 from nI_nlt (by omega) (by omega)
      have k2 : nI j ≤ (126 : Int32) := show nI j ≤ nI 126 from nI_le (by omega) (by omega)
      have k3 : ¬ (126 : Int32) < nI j := Int32.not_lt.mpr k2
      by_cases hn6 : n = 60
      · subst hn6
        refine Or.inr (Or.inr ⟨0, setT m 2, ?_, ?_, rfl, hb 2⟩)
        · unfold XT_append mT9_append mX8_isFull
          rw [if_neg k1, if_pos k2, l1, if_neg (by decide)]; rfl
        · unfold MN_append mX10_append mX10_in
          rw [if_neg k1, if_neg k3, k_bs, if_neg (by decide), if_pos (show m.2.2.2.2.2.2.2.1 = (60 : Int32) from l2)]; rfl
      · refine Or.inl ⟨nI (n + 1), (x.1, x.2.1, x.2.2.1, x.2.2.2.1, x.2.2.2.2.1, upd x.2.2.2.2.2.1 n (nI j), nI (n + 1)), nI (n + 1), (m.1, m.2.1, m.2.2.1, m.2.2.2.1, m.2.2.2.2.1, m.2.2.2.2.2.1, upd m.2.2.2.2.2.2.1 n (nI j), nI (n + 1), 0, m.2.2.2.2.2.2.2.2.2), ?_, ?_, rfl, rfl, hg, hp, hs, ⟨n + 1, by omega, rfl, rfl, fun i hi2 => ?_⟩⟩
        · unfold XN_append mX9_append mX8_isFull mX8_put
          rw [if_neg k1, if_pos k2, l1, if_pos (show nI n < (60 : Int32) from nI_lt (a := n) (b := 60) (by omega) (by omega)), k_bs, if_pos (by decide), if_neg (nI_pos (by omega)), if_neg (show ¬ (60 : Int32) ≤ nI n from nI_ge (a := n) (b := 60) (by omega) (by omega)), k_g_in (by omega) (by omega), ch_nar j hj, nI_clamp (by omega), nI_1]
          rfl
        · unfold MN_append mX10_append mX10_in
          rw [if_neg k1, if_neg k3, k_bs, if_neg (by decide), l2, if_neg (show ¬ nI n = (60 : Int32) from fun e => hn6 ((nI_eq (by omega) (by omega)).mp (show nI n = nI 60 from e))), k_g_in (by omega) (by omega), nI_clamp (by omega), nI_1]
          rfl
        · show upd x.2.2.2.2.2.1 n (nI j) i = upd m.2.2.2.2.2.2.1 n (nI j) i ∧ _
          by_cases hin : i = n
          · subst hin
            rw [pk_us, pk_us]
            exact ⟨rfl, j, by omega, by omega, pk_us⟩
          · rw [pk_un hin, pk_un hin]
            obtain ⟨a1, c, a2, a3, a4⟩ := hi i (by omega)
            exact ⟨a1, c, a2, a3, (pk_un hin).trans a4⟩
