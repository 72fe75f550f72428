theorem ok_carry {x : XT} {m : MT} (h : Rel x m) (a1 a2 a3 : Int32) : OK_carry Rel x m a1 a2 a3 := by
  obtain ⟨hg, hp, hs, ht⟩ := h
  have hb : ∀ t, Rel x (setT m t) := fun t => ⟨hg, hp, hs, ht⟩
  obtain ⟨p, F, ds, ph, hw0⟩ := hg
  have hw1 := hw0
  obtain ⟨⟨-, hph, -, -⟩, ⟨ho, ho'⟩, ⟨h0, h1⟩, -, ⟨-, h37, -, g2, -⟩, -, ⟨gp0, gp1⟩, -, -, h6⟩ := hw1
  rcases pl_or a1 with ⟨q, hq, rfl⟩ | ⟨n1, n2⟩
  · have hpl : mX10_isPlayer (nI q) = some true := by rcases (show q = 0 ∨ q = 1 by omega) with rfl | rfl <;> decide +kernel
    rcases pp_or q hq a2 with ⟨w, hw, rfl⟩ | ⟨n1, n2⟩
    · rcases pp_or q hq a3 with ⟨v, hv, rfl⟩ | ⟨n1, n2⟩
      · have hok := ok_q hq ho ho'
        have h6q : ph = 0 → F q 0 < 6 := fun e => by
          have := h6 (by omega)
          rcases (show q = 0 ∨ q = 1 by omega) with rfl | rfl
          · exact this.1
          · exact this.2
        by_cases hc : ph = 0 ∧ 0 < F q w ∧ g_free F q v = true ∧ g_last F q w v = false
        · obtain ⟨rfl, hf, hfr, hl⟩ := hc
          obtain ⟨cnt', G', before', known', s1, s2, hp'⟩ := R_save hp ⟨p, F, ds, 0, hw0⟩
          obtain ⟨s', y1, y2, y3, y4⟩ := r_carryYes (v := v) h37 hq hw hv h0 h1 hok hf s2
          have hn6 : ¬ b_mv (F q) w v 0 = 6 := fun e => by
            have := (g_last6 hw hv hok.1 (h6q rfl) hf).mp e
            rw [hl] at this; cases this
          have q0 : F_set F q (b_mv (F q) w v) q = b_mv (F q) w v := F_set_q
          have q1 : F_set F q (b_mv (F q) w v) (1 - q) = F (1 - q) := F_set_o (by omega)
          generalize F_set F q (b_mv (F q) w v) = F' at q0 q1
          rw [← q0] at y2
          rw [← q1] at y3
          have hX := X_carry (F' := F') hq hw hv ho ho' (h6q rfl) hf hfr hl q0 q1 g2 gp0 gp1 s1
          have hM := M_carry hq hw hv h0 h1 ho ho' hfr hl y1
          obtain ⟨P0, e0⟩ : ∃ P0, P0 = b_L (F' 0) := ⟨_, rfl⟩
          obtain ⟨P1, e1⟩ : ∃ P1, P1 = b_L (F' 1) := ⟨_, rfl⟩
          rw [← e0, ← e1] at hX
          have hT := T_carry hw0 hq hw hv hf hn6 q0 q1 y2 y3 y4 e0 e1
          generalize nI (g_pip (b_mv (F q) w v)) = r at hX hM
          exact Or.inl ⟨_, _, _, _, hX, hM, rfl, rfl, hT, hp', hs, ht⟩
        · refine Or.inr (Or.inr ⟨0, setT m 2, ?_, ?_, rfl, hb 2⟩)
          · have hcc := c_canCarry (F := F) (ph := ph) hph hq hw hv ho ho' h6q
            unfold XT_carry mT9_carry
            rw [k_bd_some (pl_1 hq), if_neg (by decide), k_bd_some (pp_is q hq w hw).1, if_neg (by decide), k_bd_some (pp_is q hq v hv).1, if_neg (by decide), g2, gp0, gp1, k_bd_some hcc, decide_eq_false hc, if_pos (by decide)]
          · unfold MN_carry
            rw [r_carry61 hq hw hv h0 h1 ho ho', r_carry91 hq hw hv h0 h1 hok, k_bd5_some (r_carryNo hph h37 hq hw h0 h1 hok hc)]
            rfl
      · refine Or.inr (Or.inl ⟨0, setT m 1, ?_, ?_, rfl, hb 1⟩)
        · unfold XT_carry mT9_carry
          rw [k_bd_some (pl_1 hq), if_neg (by decide), k_bd_some (pp_is q hq w hw).1, if_neg (by decide), k_bd_some n1, if_pos (by decide)]; rfl
        · unfold MN_carry mX10_carry
          rw [k_bd_some hpl, if_neg (by decide), k_bd_some (pp_is q hq w hw).2, if_neg (by decide), k_bd_some n2, if_pos (by decide)]; rfl
    · refine Or.inr (Or.inl ⟨0, setT m 1, ?_, ?_, rfl, hb 1⟩)
      · unfold XT_carry mT9_carry
        rw [k_bd_some (pl_1 hq), if_neg (by decide), k_bd_some n1, if_pos (by decide)]; rfl
      · unfold MN_carry mX10_carry
        rw [k_bd_some hpl, if_neg (by decide), k_bd_some n2, if_pos (by decide)]; rfl
  · refine Or.inr (Or.inl ⟨0, setT m 1, ?_, ?_, rfl, hb 1⟩)
    · unfold XT_carry mT9_carry
      rw [k_bd_some n1, if_pos (by decide)]; rfl
    · unfold MN_carry mX10_carry
      rw [k_bd_some (hplf n2), if_pos (by decide)]; rfl
