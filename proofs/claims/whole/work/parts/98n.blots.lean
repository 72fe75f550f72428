/-! the blots behind a step -/
theorem g_re0 {ds : List Nat} {P : GP} {d w : Nat} (h : g_re ds P d w = 0) : d ∈ ds ∧ g_ban P.1 P.2 d w = 0 := by
  unfold g_re at h
  by_cases h1 : d ∈ ds
  · rw [if_pos h1] at h
    by_cases h2 : g_ban P.1 P.2 d w = 0
    · exact ⟨h1, h2⟩
    · rw [if_neg h2] at h; exact absurd h h2
  · rw [if_neg h1] at h; cases h
theorem g_re_lt {ds : List Nat} {P : GP} {d w : Nat} : g_re ds P d w < 7 := by
  have := g_ban_lt (f := P.1) (g := P.2) (d := d) (w := w)
  unfold g_re
  (repeat' split) <;> omega
theorem ok_blotsBehind {x : XT} {m : MT} (h : Rel x m) (a a2 : Int32) : OK_blotsBehind Rel x m a a2 := by
  obtain ⟨p, F, ds, ph, hg⟩ := h.1
  have hp := hg.1.1
  have g1 := hg.2.2.2.2.1.2.2.1
  have h36 := hg.2.2.2.2.1.1
  have hB := RG_B hg
  rcases pb_or p hp a with ⟨w, hw1, hw, rfl⟩ | ⟨e1, e2⟩
  · rcases dd_or a2 with ⟨d, hd1, hd, rfl⟩ | ⟨e1, e2⟩
    · obtain ⟨laid', e⟩ := RG_why (laid := m.2.2.2.2.2.2.2.2.2.1) hg hd1 hd hw1 hw
      have hlt := g_re_lt (ds := ds) (P := (F p, F (1 - p))) (d := d) (w := w)
      by_cases h0 : g_re ds (F p, F (1 - p)) d w = 0
      · obtain ⟨hds, hban⟩ := g_re0 h0
        have hpos : 0 < F p w := (g_ban0.mp hban).1
        have hA : g_A (F p, F (1 - p)) d w := ⟨hw1, hw, hban⟩
        have hst := g_ok_st hB.2 hA
        obtain ⟨l2, r1, r2, -⟩ := r_lays (s := m.1) (laid := laid') (lv := 0) (by omega)
        obtain ⟨s', m1, m2, m3⟩ := r_moves hp hB.2 hB.1 hw1 hw hd1 hd hpos
        have hb : mX10_blot s' (nI p) = some (nI (g_blot (g_mv (F p) d w))) := r_blot hp hst.1 m2.1
        have ht : mX10_takesUp s' l2 (nI 0) = some m.1 := r_takes (by omega) r2 m3
        refine Or.inl ⟨nI (g_blot (g_mv (F p) d w)), x, nI (g_blot (g_mv (F p) d w)), setTL m 0 l2, ?_, ?_, rfl, rfl, Rel_TL h⟩
        · unfold XN_blotsBehind mX9_blotsBehind
          rw [k_bd_some (pb_is p hp w (by omega) hw1), if_neg (by decide), k_bd_some (dd_is d hd hd1).1, if_neg (by decide), k_bd_some (RG_reason hg hd1 hd hw1 hw), h0, if_pos nI_0]
          rw [k_bd_some (show mX1_wayOf x.2.2.2.2.1.1 (pl p w) = some (nI w) from by rw [g1]; exact pb_wayOf p hp w (by omega)), k_bd_some (RG_mine hg), k_bd_some (show mX7_mineBehind (b_L (F p)) (nI w) (nI d) = some (b_L (g_mv (F p) d w)) from c_mine hB.2.1 hd (by omega) hpos), k_bd_some (show mX3_singles (b_L (g_mv (F p) d w)) = some (nI (g_blot (g_mv (F p) d w))) from c_blot (f := g_mv (F p) d w) hst.1)]
          rfl
        · unfold MN_blotsBehind mX10_blotsBehind
          rw [k_bd_some (pb_f0 p hp w (by omega) hw1 d hd hd1), if_pos rfl, k_bd3_some e, h0, if_pos nI_0]
          rw [nI_0] at r1 ht
          unfold mX10_blotsBehind_30
          rw [if_pos (by decide), k_bd_some r1, h36, k_bd2_some m1, m3 36 (by omega), h36, k_bd_some hb, k_bd_some ht]
          rfl
      · have hne : ¬ nI (g_re ds (F p, F (1 - p)) d w) = 0 := nI_ne0 (by omega) (by omega)
        refine Or.inr (Or.inr (Or.inr ⟨0, setTL m 3 laid', ?_, ?_, rfl, Rel_TL h⟩))
        · unfold XT_blotsBehind mT9_blotsBehind
          rw [k_bd_some (pb_is p hp w (by omega) hw1), if_neg (by decide), k_bd_some (dd_is d hd hd1).1, if_neg (by decide), k_bd_some (RG_reason hg hd1 hd hw1 hw), if_neg hne]
        · unfold MN_blotsBehind mX10_blotsBehind
          rw [k_bd_some (pb_f0 p hp w (by omega) hw1 d hd hd1), if_pos rfl, k_bd3_some e, if_neg hne]
          unfold mX10_blotsBehind_30
          rw [if_neg (by decide)]
          rfl
    · refine Or.inr (Or.inr (Or.inl ⟨0, setT m 2, ?_, ?_, rfl, Rel_T h⟩))
      · unfold XT_blotsBehind mT9_blotsBehind
        rw [k_bd_some (pb_is p hp w (by omega) hw1), if_neg (by decide), k_bd_some e1, if_pos (by decide)]
      · unfold MN_blotsBehind mX10_blotsBehind
        rw [k_bd_some (pb_f2 hp hw1 hw e2)]; rfl
  · refine Or.inr (Or.inl ⟨0, setT m 1, ?_, ?_, rfl, Rel_T h⟩)
    · unfold XT_blotsBehind mT9_blotsBehind
      rw [k_bd_some e1, if_pos (by decide)]
    · unfold MN_blotsBehind mX10_blotsBehind
      rw [k_bd_some (e2 a2)]; rfl
