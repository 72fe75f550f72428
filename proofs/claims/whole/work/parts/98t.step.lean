/-! a step -/
theorem RB_congr {s s' : Nat → Int32} {p : Nat} {P : GP} (hp : p < 2) (hs : ∀ k, k < 36 → s' k = s k) (h : RB s p P) : RB s' p P :=
  ⟨fun w hw => by rw [hs _ (ix_lt p hp w hw)]; exact h.1 w hw, fun w hw => by rw [hs _ (ix_lt (1 - p) (by omega) w hw)]; exact h.2 w hw⟩
theorem r_at0 {s : Nat → Int32} {q : Nat} {f : Nat → Nat} (hq : q < 2) (h : RH s q f) : mX10_at s (nI q) 16 = some (nI (f 0)) := by
  rw [show (16 : Int32) = pl q 0 from pl_off q hq, r_at hq (by omega), h 0 (by omega)]
theorem r_st109 {a1 a2 t0 t1 : Int32} {p : Nat} {l4 : Bool} {s : Nat → Int32} (hp : p < 2) : mX10_steps_109 a1 a2 t0 t1 (nI (45 + p)) l4 s = some (l4, upd s (45 + p) (t1 + t0)) := by
  unfold mX10_steps_109
  rw [k_g_in (by omega) (by omega), nI_clamp (by omega)]
theorem r_st37 {s1 : Nat → Int32} {p d : Nat} {ds : List Nat} {Q : GP} {a1 : Int32} {b l4 : Bool} (hp : p < 2) (hQ : g_ok Q) (h : RB s1 p Q) (hds : ds ∈ d_all) (hd : d ∈ ds) (hD : RD s1 ds) : ∃ s', mX10_steps_37 a1 (nI d) b (s1 (48 - p)) (nI (48 - p)) (nI p) l4 s1 = some (l4, s') ∧ RB s' p Q ∧ s' (48 - p) = s1 (48 - p) + k_b b ∧ (Q.1 0 = 6 → RD s' [] ∧ s' 37 = nI 3 ∧ s' (45 + p) = s1 (45 + p) + (if Q.2 0 = 0 then 2 * s1 43 else s1 43)) ∧ (Q.1 0 ≠ 6 → RD s' (ds.erase d) ∧ s' 37 = s1 37 ∧ s' (45 + p) = s1 (45 + p)) ∧ ∀ k, k ≠ 37 → k ≠ 48 - p → k ≠ 45 + p → 36 ≤ k → (k < 38 ∨ 43 ≤ k) → s' k = s1 k := by
  have hle : Q.1 0 ≤ 6 := b_ok_le (f := Q.1) hQ.1 (by omega)
  have hle2 : Q.2 0 ≤ 6 := b_ok_le (f := Q.2) hQ.2.1 (by omega)
  obtain ⟨s3, e1, d1, o1⟩ := r_uses (s := upd s1 (48 - p) (s1 (48 - p) + k_b b)) hds hd (RD_hi hD (by omega))
  have o3 : ∀ k, k ≠ 48 - p → (k < 38 ∨ 43 ≤ k) → s3 k = s1 k := fun k h1 h2 => by rw [o1 k h2, pk_un h1]
  have h3 : RB s3 p Q := RB_congr hp (fun k hk => o3 k (by omega) (by omega)) h
  have hh : s3 (48 - p) = s1 (48 - p) + k_b b := by rw [o1 _ (by omega), pk_us]
  have hat : mX10_at s3 (nI p) 16 = some (nI (Q.1 0)) := r_at0 hp h3.1
  have h45 : (45 : Int32) + nI p = nI (45 + p) := nI_add 45 p
  by_cases h6 : Q.1 0 = 6
  · obtain ⟨s4, e4, d4, o4⟩ := r_clear (upd s3 37 3)
    have o5 : ∀ k, k ≠ 37 → k ≠ 48 - p → (k < 38 ∨ 43 ≤ k) → s4 k = s1 k := fun k h1 h2 h3 => by rw [o4 k h3, pk_un h1, o3 k h2 h3]
    have h4 : RB s4 p Q := RB_congr hp (fun k hk => by rw [o4 k (by omega), pk_un (by omega)]) h3
    have hat2 : mX10_at s4 (1 - nI p) 16 = some (nI (Q.2 0)) := by
      rw [show (1 : Int32) - nI p = nI (1 - p) from r_1p hp]
      exact r_at0 (by omega) h4.2
    have w45 : s4 (45 + p) = s1 (45 + p) := o5 _ (by omega) (by omega) (by omega)
    have w43 : s4 43 = s1 43 := o5 _ (by omega) (by omega) (by omega)
    have e37 : s4 37 = nI 3 := by rw [o4 37 (by omega), pk_us]; rfl
    have hfin : ∀ t0 : Int32, RB (upd s4 (45 + p) (s4 (45 + p) + t0)) p Q ∧ RD (upd s4 (45 + p) (s4 (45 + p) + t0)) [] := fun t0 => ⟨RB_congr hp (fun k hk => pk_un (by omega)) h4, RD_hi d4 (by omega)⟩
    by_cases h0 : Q.2 0 = 0
    · refine ⟨upd s4 (45 + p) (s4 (45 + p) + 2 * s4 43), ?_, (hfin _).1, ?_, fun _ => ⟨(hfin _).2, ?_, ?_⟩, fun q => absurd h6 q, fun k h1 h2 h3 h4 h5 => ?_⟩
      · unfold mX10_steps_37
        rw [k_g_in (by omega) (by omega), nI_clamp (by omega), k_bd_some e1, k_bd_some hat, h6, if_pos (show nI 6 = (6 : Int32) from rfl), k_bd_some e4, h45, k_g_in (by omega) (by omega), k_bd_some hat2, h0, if_pos nI_0, nI_clamp (by omega), r_st109 hp]
      · rw [pk_un (by omega), o4 _ (by omega), pk_un (by omega), hh]
      · rw [pk_un (by omega), e37]
      · rw [pk_us, w45, w43, if_pos h0]
      · rw [pk_un h3, o5 k h1 h2 h5]
    · refine ⟨upd s4 (45 + p) (s4 (45 + p) + s4 43), ?_, (hfin _).1, ?_, fun _ => ⟨(hfin _).2, ?_, ?_⟩, fun q => absurd h6 q, fun k h1 h2 h3 h4 h5 => ?_⟩
      · unfold mX10_steps_37
        rw [k_g_in (by omega) (by omega), nI_clamp (by omega), k_bd_some e1, k_bd_some hat, h6, if_pos (show nI 6 = (6 : Int32) from rfl), k_bd_some e4, h45, k_g_in (by omega) (by omega), k_bd_some hat2, if_neg (show ¬ nI (Q.2 0) = (0 : Int32) from nI_ne0 (by omega) (by omega)), nI_clamp (by omega), r_st109 hp]
      · rw [pk_un (by omega), o4 _ (by omega), pk_un (by omega), hh]
      · rw [pk_un (by omega), e37]
      · rw [pk_us, w45, w43, if_neg h0]
      · rw [pk_un h3, o5 k h1 h2 h5]
  · refine ⟨s3, ?_, h3, hh, fun q => absurd q h6, fun _ => ⟨d1, o3 _ (by omega) (by omega), o3 _ (by omega) (by omega)⟩, fun k h1 h2 h3 h4 h5 => o3 k h2 h5⟩
    unfold mX10_steps_37
    rw [k_g_in (by omega) (by omega), nI_clamp (by omega), k_bd_some e1, k_bd_some hat, if_neg (show ¬ nI (Q.1 0) = (6 : Int32) from fun e => h6 ((nI_eq (by omega) (by omega)).mp (show nI (Q.1 0) = nI 6 from e)))]
theorem r_steps {s : Nat → Int32} {p d w : Nat} {ds : List Nat} {P : GP} (hp : p < 2) (hP : g_ok P) (h : RB s p P) (hds : ds ∈ d_all) (hd : d ∈ ds) (hD : RD s ds) (h36 : s 36 = nI p) (hA : g_A P d w) : ∃ s', mX10_steps s (pl p w) (nI d) = some (g_hit P d w, s') ∧ RB s' p (g_st P d w) ∧ s' (48 - p) = s (48 - p) + k_b (g_hit P d w) ∧ ((g_st P d w).1 0 = 6 → RD s' [] ∧ s' 37 = nI 3 ∧ s' (45 + p) = s (45 + p) + (if (g_st P d w).2 0 = 0 then 2 * s 43 else s 43)) ∧ ((g_st P d w).1 0 ≠ 6 → RD s' (ds.erase d) ∧ s' 37 = s 37 ∧ s' (45 + p) = s (45 + p)) ∧ ∀ k, k ≠ 37 → k ≠ 48 - p → k ≠ 45 + p → 36 ≤ k → (k < 38 ∨ 43 ≤ k) → s' k = s k := by
  have hr := d_range ds hds d hd
  have hpos : 0 < P.1 w := (g_ban0.mp hA.2.2).1
  obtain ⟨s1, e1, b1, o1⟩ := r_moves hp hP h hA.1 hA.2.1 (show 1 ≤ d by omega) hr.2 hpos
  have hD1 : RD s1 ds := ⟨by rw [o1 _ (by omega)]; exact hD.1, fun i hi => by rw [o1 _ (by omega)]; exact hD.2 i hi⟩
  obtain ⟨s', e2, c1, c2, c3, c4, c5⟩ := r_st37 (a1 := pl p w) (b := g_hit P d w) (l4 := g_hit P d w) hp (g_ok_st hP hA) b1 hds hd hD1
  refine ⟨s', ?_, c1, ?_, fun q => ?_, fun q => ?_, fun k h1 h2 h3 h4 h5 => by rw [c5 k h1 h2 h3 h4 h5, o1 k h4]⟩
  · unfold mX10_steps
    have h48 : (48 : Int32) - nI p = nI (48 - p) := pk_sub (a := 48) (b := p) (by omega)
    rw [h36, k_bd2_some e1, h48, k_g_in (by omega) (by omega), nI_clamp (by omega)]
    cases hh : g_hit P d w
    · rw [if_pos (show k_b false = 0 from rfl)]; rw [hh] at e2; exact e2
    · rw [if_neg (show ¬ k_b true = 0 by decide)]; rw [hh] at e2; exact e2
  · rw [c2, o1 _ (by omega)]
  · rw [← o1 (45 + p) (by omega), ← o1 43 (by omega)]; exact c3 q
  · rw [← o1 (45 + p) (by omega), ← o1 37 (by omega)]; exact c4 q
/-! the class -/
theorem c_set {F : Nat → Nat → Nat} {q : Nat} {f : Nat → Nat} (hq : q < 2) : mX1_setPieces (b_L (F 0)) (b_L (F 1)) (nI q) (b_L f) = some (b_L (F_set F q f 0), b_L (F_set F q f 1)) := by
  unfold mX1_setPieces
  rcases (show q = 0 ∨ q = 1 by omega) with rfl | rfl
  · rw [if_pos (show nI 0 = (0 : Int32) from nI_0), F_set_q, F_set_o (by omega)]
  · rw [if_neg (show ¬ nI 1 = (0 : Int32) by decide), F_set_q, F_set_o (by omega)]
theorem c_mov {F : Nat → Nat → Nat} {p : Nat} (hp : p < 2) : mX1_moversPieces (nI p) (b_L (F 0)) (b_L (F 1)) = some (b_L (F p)) := by
  unfold mX1_moversPieces
  rw [k_bd_some (c_po hp)]
theorem c_oth {F : Nat → Nat → Nat} {p : Nat} (hp : p < 2) : mX1_othersPieces (nI p) (b_L (F 0)) (b_L (F 1)) = some (b_L (F (1 - p))) := by
  unfold mX1_othersPieces
  rw [show (1 : Int32) - nI p = nI (1 - p) from r_1p hp, k_bd_some (c_po (by omega))]
def s_h0 (b : Bool) (p : Nat) (h : Int32) : Int32 := if b = true ∧ p = 1 then h + 1 else h
def s_h1 (b : Bool) (p : Nat) (h : Int32) : Int32 := if b = true ∧ p = 0 then h + 1 else h
theorem c_countHit {p : Nat} {h0 h1 : Int32} (hp : p < 2) : mX1_countHit h0 h1 (1 - nI p) = some (s_h0 true p h0, s_h1 true p h1) := by
  unfold mX1_countHit s_h0 s_h1
  rw [show (1 : Int32) - nI p = nI (1 - p) from r_1p hp]
  rcases (show p = 0 ∨ p = 1 by omega) with rfl | rfl
  · rw [if_neg (show ¬ nI (1 - 0) = (0 : Int32) by decide), if_neg (by omega), if_pos ⟨rfl, rfl⟩]
  · rw [if_pos (show nI (1 - 1) = (0 : Int32) from nI_0), if_pos ⟨rfl, rfl⟩, if_neg (by omega)]
theorem c_step35 {F F' : Nat → Nat → Nat} {p d w : Nat} {ds : List Nat} {ph stk sc0 sc1 h0 h1 : Int32} {b : Bool} (hp : p < 2) (ho : g_ok (F p, F (1 - p))) (hds : ds ∈ d_all) (hd : d ∈ ds) (hw : w < 18) (hpos : 0 < F p w) (q0 : F' = F_set (F_set F (1 - p) (g_th (F (1 - p)) d w)) p (g_mv (F p) d w)) : mX1_doStep_35 (nI p) stk (pl p w) (nI d) b (nI w) (b_L (g_th (F (1 - p)) d w)) ph (d_I ds) (b_L (F 0)) (b_L (F 1)) sc0 sc1 h0 h1 = mX1_doStep_93 (nI p) stk (pl p w) (nI d) b ph (d_I (ds.erase d)) (b_L (F' 0)) (b_L (F' 1)) sc0 sc1 (s_h0 b p h0) (s_h1 b p h1) := by
  have hr := d_range ds hds d hd
  have e1 : F_set F (1 - p) (g_th (F (1 - p)) d w) p = F p := F_set_o (by omega)
  unfold mX1_doStep_35
  rw [show (1 : Int32) - nI p = nI (1 - p) from r_1p hp, k_bd2_some (c_set (F := F) (q := 1 - p) (f := g_th (F (1 - p)) d w) (by omega))]
  rw [k_bd_some (c_mov (F := F_set F (1 - p) (g_th (F (1 - p)) d w)) hp), e1, k_bd_some (c_mine (f := F p) ho.1 hr.2 hw hpos), k_bd2_some (c_set (F := F_set F (1 - p) (g_th (F (1 - p)) d w)) (q := p) (f := g_mv (F p) d w) hp), ← q0, k_bd_some (d_without ds hds d hd)]
  cases b
  · rw [if_pos (show k_b false = 0 from rfl)]; rfl
  · rw [if_neg (show ¬ k_b true = 0 by decide)]
    have := c_countHit (h0 := h0) (h1 := h1) hp
    rw [show (1 : Int32) - nI p = nI (1 - p) from r_1p hp] at this
    rw [k_bd2_some this]
def s_w (F' : Nat → Nat → Nat) (p : Nat) (stk : Int32) : Int32 := if F' (1 - p) 0 = 0 then 2 * stk else stk
def s_s0 (p : Nat) (sc w : Int32) : Int32 := if p = 0 then sc + w else sc
def s_s1 (p : Nat) (sc w : Int32) : Int32 := if p = 0 then sc else sc + w
theorem c_step140 {p : Nat} {stk a1 a2 t0 ph di sc0 sc1 h0 h1 : Int32} {b : Bool} {P0 P1 : Int64} (hp : p < 2) : mX1_doStep_140 (nI p) stk a1 a2 t0 b ph di P0 P1 sc0 sc1 h0 h1 = some (b, 3, 0, P0, P1, s_s0 p sc0 t0, s_s1 p sc1 t0, h0, h1) := by
  unfold mX1_doStep_140 mX1_winBy mX1_winBy_30 s_s0 s_s1
  rcases (show p = 0 ∨ p = 1 by omega) with rfl | rfl
  · rw [if_pos (show nI 0 = (0 : Int32) from nI_0), if_pos rfl, if_pos rfl]; rfl
  · rw [if_neg (show ¬ nI 1 = (0 : Int32) by decide), if_neg (by omega), if_neg (by omega)]; rfl
theorem c_step93 {F' : Nat → Nat → Nat} {p : Nat} {stk a1 a2 ph di sc0 sc1 h0 h1 : Int32} {b : Bool} (hp : p < 2) (ho : g_ok (F' p, F' (1 - p))) : mX1_doStep_93 (nI p) stk a1 a2 b ph di (b_L (F' 0)) (b_L (F' 1)) sc0 sc1 h0 h1 = if F' p 0 = 6 then some (b, 3, 0, b_L (F' 0), b_L (F' 1), s_s0 p sc0 (s_w F' p stk), s_s1 p sc1 (s_w F' p stk), h0, h1) else some (b, ph, di, b_L (F' 0), b_L (F' 1), sc0, sc1, h0, h1) := by
  have hle : F' (1 - p) 0 ≤ 6 := b_ok_le (f := F' (1 - p)) ho.2.1 (by omega)
  unfold mX1_doStep_93
  rw [k_bd_some (c_mov (F := F') hp), k_bd_some (c_allOff (f := F' p) ho.1)]
  by_cases h6 : F' p 0 = 6
  · rw [decide_eq_true h6, if_neg (show ¬ k_b true = 0 by decide), if_pos h6, k_bd_some (c_oth (F := F') hp), k_bd_some (show mX3_on (b_L (F' (1 - p))) 0 = some (nI (F' (1 - p) 0)) from b_on (f := F' (1 - p)) (w := 0) ho.2.1 (by omega))]
    unfold mX1_doStep_119 s_w
    by_cases h0' : F' (1 - p) 0 = 0
    · rw [h0', if_pos nI_0, if_neg (show ¬ k_b true = 0 by decide), if_pos rfl, c_step140 hp]
    · rw [if_neg (show ¬ nI (F' (1 - p) 0) = (0 : Int32) from nI_ne0 (by omega) (by omega)), if_pos (show k_b false = 0 from rfl), if_neg h0', c_step140 hp]
  · rw [decide_eq_false h6, if_pos (show k_b false = 0 from rfl), if_neg h6]
theorem c_doStep {F F' : Nat → Nat → Nat} {p d w : Nat} {ds : List Nat} {ph stk sc0 sc1 h0 h1 : Int32} (hp : p < 2) (ho : g_ok (F p, F (1 - p))) (hds : ds ∈ d_all) (hd : d ∈ ds) (hA : g_A (F p, F (1 - p)) d w) (q0 : F' = F_set (F_set F (1 - p) (g_th (F (1 - p)) d w)) p (g_mv (F p) d w)) (ho2 : g_ok (F' p, F' (1 - p))) : mX1_doStep (nI p) ph (d_I ds) stk (b_L (F 0)) (b_L (F 1)) sc0 sc1 h0 h1 (pl p w) (nI d) = if F' p 0 = 6 then some (g_hit (F p, F (1 - p)) d w, 3, 0, b_L (F' 0), b_L (F' 1), s_s0 p sc0 (s_w F' p stk), s_s1 p sc1 (s_w F' p stk), s_h0 (g_hit (F p, F (1 - p)) d w) p h0, s_h1 (g_hit (F p, F (1 - p)) d w) p h1) else some (g_hit (F p, F (1 - p)) d w, ph, d_I (ds.erase d), b_L (F' 0), b_L (F' 1), sc0, sc1, s_h0 (g_hit (F p, F (1 - p)) d w) p h0, s_h1 (g_hit (F p, F (1 - p)) d w) p h1) := by
  have hr := d_range ds hds d hd
  have hw := hA.2.1
  have hpos : 0 < F p w := (g_ban0.mp hA.2.2).1
  have hch := c_hit (P := (F p, F (1 - p))) ho hA.1 hw (show 1 ≤ d by omega)
  rw [← c_step93 (b := g_hit (F p, F (1 - p)) d w) (a1 := pl p w) (a2 := nI d) hp ho2, ← c_step35 (b := g_hit (F p, F (1 - p)) d w) hp ho hds hd (by omega) hpos q0]
  unfold mX1_doStep
  rw [k_bd_some (pb_wayOf p hp w (by omega)), k_bd_some (c_oth (F := F) hp), k_bd_some (c_theirs (g := F (1 - p)) (d := d) (w := w) ho.2.1 hr.2 (by omega)), k_bd_some (c_oth (F := F) hp)]
  cases hh : g_hit (F p, F (1 - p)) d w
  · rw [hh] at hch
    rw [if_pos (hch.mpr rfl)]
  · rw [hh] at hch
    rw [if_neg (fun e => by have := hch.mp e; cases this)]
