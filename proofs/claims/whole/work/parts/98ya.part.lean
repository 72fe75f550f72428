theorem i_pl17 {k : Nat} {s laid : Nat → Int32} {l4 l5 : Int32} (hk : k = 101 ∨ k = 120 ∨ k = 116 ∨ k = 100 ∨ k = 110) : mX10_isPlayed s laid (nI k) l4 l5 = if nI k = 101 then k_bd3 (mX10_canEnd s laid) (fun r16 w17 w18 => mX10_isPlayed_117 (nI k) l4 l5 r16 false w17 w18) else if nI k = 120 then k_bd (mX10_canOffer s) (fun r15 => mX10_isPlayed_117 (nI k) l4 l5 r15 false s laid) else if nI k = 110 then mX10_isPlayed_109 (nI k) l4 l5 3 (s 37) false s laid else mX10_isPlayed_109 (nI k) l4 l5 2 (s 37) false s laid := by
  have h1 : ¬ nI k = (114 : Int32) := by rcases hk with rfl | rfl | rfl | rfl | rfl <;> decide
  have h2 : ¬ nI k = (109 : Int32) := by rcases hk with rfl | rfl | rfl | rfl | rfl <;> decide
  have h3 : ¬ nI k = (98 : Int32) := by rcases hk with rfl | rfl | rfl | rfl | rfl <;> decide
  unfold mX10_isPlayed mX10_isPlayed_17
  rw [if_neg h2, if_neg h3, if_neg h1, if_pos (show k_b false = 0 from rfl)]
theorem i_117 {a1 l4 l5 : Int32} {s laid : Nat → Int32} : mX10_isPlayed_117 a1 l4 l5 false false s laid = some (false, s, laid) ∧ mX10_isPlayed_117 a1 l4 l5 true false s laid = mX10_isPlayed_143 a1 l4 l5 false false true s laid := by
  unfold mX10_isPlayed_117 mX10_isPlayed_142
  exact ⟨by rw [if_pos (show k_b false = 0 from rfl)], by rw [if_neg (show ¬ k_b true = 0 by decide), if_pos (show k_b false = 0 from rfl)]⟩
theorem i_109 {a1 l4 l5 : Int32} {s laid : Nat → Int32} {ph k : Nat} (hph : ph < 4) (hk : k < 4) (h37 : s 37 = nI ph) : mX10_isPlayed_109 a1 l4 l5 (nI k) (s 37) false s laid = mX10_isPlayed_117 a1 l4 l5 (decide (ph = k)) false s laid := by
  unfold mX10_isPlayed_109
  by_cases h : ph = k
  · rw [if_pos (by rw [h37, h]), decide_eq_true h]
  · rw [if_neg (fun e => h ((nI_phs hph k hk).mp (h37.symm.trans e))), decide_eq_false h]
theorem T_res_e {p : Nat} {F : Nat → Nat → Nat} {ds : List Nat} {ph : Nat} {g : GT} {s laid sg : Nat → Int32} {c : Nat → Nat} {n i i' : Nat} (h : RGw p F ds ph g s) (hs : TX sg c n) (hi : i < n) (hk : c i = 101) : T_res g s laid sg n i i' 101 (-1) 0 := by
  have hat := t_at hs hi
  rw [hk] at hat
  obtain ⟨b, laid', e1, e2, e3⟩ := R_canEnd (laid := laid) h
  have hpl : mX10_isPlayed s laid (nI 101) (-1) 0 = mX10_isPlayed_117 (nI 101) (-1) 0 b false s laid' := by
    rw [i_pl17 (Or.inl rfl), if_pos (show nI 101 = (101 : Int32) from rfl), k_bd3_some e2]
  refine ⟨b, ?_, fun hb => ⟨laid', ?_⟩, fun hb => ?_⟩
  · unfold mX9_isPartPossible
    rw [k_bd_some hat, if_neg (by decide), if_neg (by decide), if_pos (show nI 101 = (101 : Int32) from rfl), k_bd_some e1]
  · rw [hpl, hb, i_117.1]
  · subst hb
    obtain rfl := e3 rfl
    obtain ⟨s', t1, t2⟩ := T_end h
    refine ⟨s', laid', _, _, _, _, _, _, _, _, _, _, _, ?_, ?_, ⟨1 - p, F, [], 0, t2⟩⟩
    · rw [hpl, i_117.2]
      unfold mX10_isPlayed_143
      rw [if_pos (show k_b false = 0 from rfl), if_neg (by decide), if_pos (show nI 101 = (101 : Int32) from rfl), k_bd2_some t1]
    · unfold mX9_doPart
      rw [k_bd_some hat, if_neg (by decide), if_neg (by decide), if_pos (show nI 101 = (101 : Int32) from rfl)]
      exact k_bd3_some rfl
theorem T_res_x {p : Nat} {F : Nat → Nat → Nat} {ds : List Nat} {ph : Nat} {g : GT} {s laid sg : Nat → Int32} {c : Nat → Nat} {n i i' : Nat} (h : RGw p F ds ph g s) (hs : TX sg c n) (hi : i < n) (hk : c i = 120) : T_res g s laid sg n i i' 120 (-1) 0 := by
  have hat := t_at hs hi
  rw [hk] at hat
  obtain ⟨b, e1, e2, e3⟩ := R_canOffer h
  have hpl : mX10_isPlayed s laid (nI 120) (-1) 0 = mX10_isPlayed_117 (nI 120) (-1) 0 b false s laid := by
    rw [i_pl17 (Or.inr (Or.inl rfl)), if_neg (by decide), if_pos (show nI 120 = (120 : Int32) from rfl), k_bd_some e2]
  refine ⟨b, ?_, fun hb => ⟨laid, ?_⟩, fun hb => ?_⟩
  · unfold mX9_isPartPossible
    rw [k_bd_some hat, if_neg (by decide), if_neg (by decide), if_neg (by decide), if_neg (by decide), if_neg (by decide), if_neg (by decide), if_pos (show nI 120 = (120 : Int32) from rfl), k_bd_some e1]
  · rw [hpl, hb, i_117.1]
  · subst hb
    obtain rfl := e3 rfl
    refine ⟨upd s 37 2, laid, _, _, _, _, _, _, _, _, _, _, _, ?_, ?_, ⟨p, F, [], 2, T_offer h⟩⟩
    · rw [hpl, i_117.2]
      unfold mX10_isPlayed_143
      rw [if_pos (show k_b false = 0 from rfl), if_neg (by decide), if_neg (by decide), if_pos (show nI 120 = (120 : Int32) from rfl)]
      exact k_bd2_some rfl
    · unfold mX9_doPart
      rw [k_bd_some hat, if_neg (by decide), if_neg (by decide), if_neg (by decide), if_neg (by decide), if_neg (by decide), if_neg (by decide), if_pos (show nI 120 = (120 : Int32) from rfl)]
      exact k_bd_some rfl
theorem T_res_t {p : Nat} {F : Nat → Nat → Nat} {ds : List Nat} {ph : Nat} {g : GT} {s laid sg : Nat → Int32} {c : Nat → Nat} {n i i' : Nat} (h : RGw p F ds ph g s) (hs : TX sg c n) (hi : i < n) (hk : c i = 116) : T_res g s laid sg n i i' 116 (-1) 0 := by
  have hph := h.1.2.1
  have g2 := h.2.2.2.2.1.2.2.2.1
  have h37 := h.2.2.2.2.1.2.1
  have hat := t_at hs hi
  rw [hk] at hat
  have hpl : mX10_isPlayed s laid (nI 116) (-1) 0 = mX10_isPlayed_117 (nI 116) (-1) 0 (decide (ph = 2)) false s laid := by
    rw [i_pl17 (Or.inr (Or.inr (Or.inl rfl))), if_neg (by decide), if_neg (by decide), if_neg (by decide), kn_2, i_109 hph (by omega) h37]
  refine ⟨decide (ph = 2), ?_, fun hb => ⟨laid, ?_⟩, fun hb => ?_⟩
  · unfold mX9_isPartPossible
    rw [k_bd_some hat, if_neg (by decide), if_neg (by decide), if_neg (by decide), if_neg (by decide), if_neg (by decide), if_pos (show nI 116 = (116 : Int32) from rfl), k_bd_some (show mX1_isOffered g.2.1 = some (decide (ph = 2)) from by rw [g2]; exact offered_iff hph)]
  · rw [hpl, hb, i_117.1]
  · rw [hb, i_117.2] at hpl
    rw [decide_eq_true_iff] at hb
    subst hb
    obtain ⟨s', t1, t2⟩ := T_take h
    refine ⟨s', laid, _, _, _, _, _, _, _, _, _, _, _, ?_, ?_, ⟨p, F, [], 0, t2⟩⟩
    · rw [hpl]
      unfold mX10_isPlayed_143
      rw [if_pos (show k_b false = 0 from rfl), if_neg (by decide), if_neg (by decide), if_neg (by decide), if_pos (show nI 116 = (116 : Int32) from rfl), k_bd2_some t1]
    · unfold mX9_doPart
      rw [k_bd_some hat, if_neg (by decide), if_neg (by decide), if_neg (by decide), if_neg (by decide), if_neg (by decide), if_pos (show nI 116 = (116 : Int32) from rfl)]
      exact k_bd3_some rfl
theorem T_res_d {p : Nat} {F : Nat → Nat → Nat} {ds : List Nat} {ph : Nat} {g : GT} {s laid sg : Nat → Int32} {c : Nat → Nat} {n i i' : Nat} (h : RGw p F ds ph g s) (hs : TX sg c n) (hi : i < n) (hk : c i = 100) : T_res g s laid sg n i i' 100 (-1) 0 := by
  have hph := h.1.2.1
  have g2 := h.2.2.2.2.1.2.2.2.1
  have h37 := h.2.2.2.2.1.2.1
  have hat := t_at hs hi
  rw [hk] at hat
  have hpl : mX10_isPlayed s laid (nI 100) (-1) 0 = mX10_isPlayed_117 (nI 100) (-1) 0 (decide (ph = 2)) false s laid := by
    rw [i_pl17 (Or.inr (Or.inr (Or.inr (Or.inl rfl)))), if_neg (by decide), if_neg (by decide), if_neg (by decide), kn_2, i_109 hph (by omega) h37]
  refine ⟨decide (ph = 2), ?_, fun hb => ⟨laid, ?_⟩, fun hb => ?_⟩
  · unfold mX9_isPartPossible
    rw [k_bd_some hat, if_neg (by decide), if_pos (show nI 100 = (100 : Int32) from rfl), k_bd_some (show mX1_isOffered g.2.1 = some (decide (ph = 2)) from by rw [g2]; exact offered_iff hph)]
  · rw [hpl, hb, i_117.1]
  · rw [hb, i_117.2] at hpl
    rw [decide_eq_true_iff] at hb
    subst hb
    obtain ⟨s', sc0, sc1, r, t1, t2, t3, t4⟩ := T_drop h
    refine ⟨s', laid, _, _, _, _, _, _, _, _, _, _, _, ?_, ?_, ⟨p, F, [], 3, t4⟩⟩
    · rw [hpl]
      unfold mX10_isPlayed_143
      rw [if_pos (show k_b false = 0 from rfl), if_neg (by decide), if_neg (by decide), if_neg (by decide), if_neg (by decide), if_pos (show nI 100 = (100 : Int32) from rfl), k_bd2_some t1]
    · unfold mX9_doPart
      rw [k_bd_some hat, if_neg (by decide), if_pos (show nI 100 = (100 : Int32) from rfl), k_bd4_some t2]
theorem T_res_n {p : Nat} {F : Nat → Nat → Nat} {ds : List Nat} {ph : Nat} {g : GT} {s laid sg : Nat → Int32} {c : Nat → Nat} {n i i' : Nat} (h : RGw p F ds ph g s) (hs : TX sg c n) (hi : i < n) (hk : c i = 110) : T_res g s laid sg n i i' 110 (-1) 0 := by
  have hph := h.1.2.1
  have g2 := h.2.2.2.2.1.2.2.2.1
  have h37 := h.2.2.2.2.1.2.1
  have hat := t_at hs hi
  rw [hk] at hat
  have hpl : mX10_isPlayed s laid (nI 110) (-1) 0 = mX10_isPlayed_117 (nI 110) (-1) 0 (decide (ph = 3)) false s laid := by
    rw [i_pl17 (Or.inr (Or.inr (Or.inr (Or.inr rfl)))), if_neg (by decide), if_neg (by decide), if_pos (show nI 110 = (110 : Int32) from rfl), kn_3, i_109 hph (by omega) h37]
  refine ⟨decide (ph = 3), ?_, fun hb => ⟨laid, ?_⟩, fun hb => ?_⟩
  · unfold mX9_isPartPossible
    rw [k_bd_some hat, if_neg (by decide), if_neg (by decide), if_neg (by decide), if_neg (by decide), if_neg (by decide), if_neg (by decide), if_neg (by decide), k_bd_some (show mX1_isOver g.2.1 = some (decide (ph = 3)) from by rw [g2]; exact over_iff hph)]
  · rw [hpl, hb, i_117.1]
  · rw [hb, i_117.2] at hpl
    rw [decide_eq_true_iff] at hb
    subst hb
    obtain ⟨s', t1, t2⟩ := T_new h (by omega)
    refine ⟨s', laid, _, _, _, _, _, _, _, _, _, _, _, ?_, ?_, ⟨1 - p, fun _ => g_F0, [], 0, t2⟩⟩
    · rw [hpl]
      unfold mX10_isPlayed_143
      rw [if_pos (show k_b false = 0 from rfl), if_neg (by decide), if_neg (by decide), if_neg (by decide), if_neg (by decide), if_neg (by decide), k_bd2_some t1]
    · unfold mX9_doPart
      rw [k_bd_some hat, if_neg (by decide), if_neg (by decide), if_neg (by decide), if_neg (by decide), if_neg (by decide), if_neg (by decide), if_neg (by decide)]
      exact k_bd6_some rfl
theorem T_part {g : GT} {s laid sg : Nat → Int32} {c : Nat → Nat} {n i i' : Nat} {l4 l5 : Int32} (h : RG g s) (hs : TX sg c n) (hq : Q_kind c i l4 l5 i') (hi : i < i') (hn : i' ≤ n) : T_res g s laid sg n i i' (c i) l4 l5 := by
  obtain ⟨p, F, ds, ph, hw⟩ := h
  rcases hq with ⟨k, rfl, a1, a2, rfl, rfl⟩ | ⟨k, rfl, a1, a2, a3, rfl, rfl⟩ | ⟨k, rfl, a1, a2, a3, a4, rfl, rfl⟩ | ⟨k, rfl, a1, a2, rfl, rfl⟩ | ⟨k, rfl, rfl, rfl⟩
  · rw [k]; exact T_res_r hw hs hn k a1 a2
  · rw [k, t_l0 (j := c (i + 1)) (by omega)]
    exact T_res_m hw hs (by omega) hn (by omega) k (by omega) (t_num1 hs (by omega) (by omega) a2) (show 49 ≤ c (i + 4 - 1) ∧ c (i + 4 - 1) ≤ 54 from a3)
  · rw [k, t_l4 (c (i + 2)) (by omega) a2.1]
    exact T_res_m hw hs (by omega) hn (by omega) k (by omega) (t_num2 (j := i + 1) hs (by omega) a1 a2) (show 49 ≤ c (i + 5 - 1) ∧ c (i + 5 - 1) ≤ 54 from a4)
  · rw [k]
    exact T_res_b hw hs (by omega) hn (by omega) k (show 49 ≤ c (i + 3 - 1) ∧ c (i + 3 - 1) ≤ 54 from a2)
  · rcases k with k | k | k | k | k
    · rw [k]; exact T_res_e hw hs (by omega) k
    · rw [k]; exact T_res_x hw hs (by omega) k
    · rw [k]; exact T_res_t hw hs (by omega) k
    · rw [k]; exact T_res_d hw hs (by omega) k
    · rw [k]; exact T_res_n hw hs (by omega) k
