/-! the relation between what the class holds and what the reference holds -/
def RGw (p : Nat) (F : Nat → Nat → Nat) (ds : List Nat) (ph : Nat) (g : GT) (s : Nat → Int32) : Prop :=
  (p < 2 ∧ ph < 4 ∧ ds ∈ d_all ∧ (ph ≠ 1 → ds = [])) ∧ (g_ok (F 0, F 1) ∧ g_ok (F 1, F 0)) ∧ (RH s 0 (F 0) ∧ RH s 1 (F 1)) ∧ RD s ds ∧
  (s 36 = nI p ∧ s 37 = nI ph ∧ g.1 = nI p ∧ g.2.1 = nI ph ∧ g.2.2.1 = d_I ds) ∧
  (s 43 = g.2.2.2.1 ∧ s 44 = g.2.2.2.2.1 ∧ (g.2.2.2.2.1 = -1 ∨ g.2.2.2.2.1 = nI 0 ∨ g.2.2.2.2.1 = nI 1)) ∧
  (g.2.2.2.2.2.1 = b_L (F 0) ∧ g.2.2.2.2.2.2.1 = b_L (F 1)) ∧
  (s 45 = g.2.2.2.2.2.2.2.1 ∧ s 46 = g.2.2.2.2.2.2.2.2.1 ∧ s 47 = g.2.2.2.2.2.2.2.2.2.1 ∧ s 48 = g.2.2.2.2.2.2.2.2.2.2.1) ∧
  ((s 49 = if g.2.2.2.2.2.2.2.2.2.2.2.1 = true then nI 1 else nI 0) ∧ (g.2.2.2.2.2.2.2.2.2.2.2.1 = true → s 50 = g.2.2.2.2.2.2.2.2.2.2.2.2)) ∧
  (ph ≠ 3 → F 0 0 < 6 ∧ F 1 0 < 6)
def RG (g : GT) (s : Nat → Int32) : Prop := ∃ p F ds ph, RGw p F ds ph g s
def RP (cnt : Int32) (G : Nat → GT) (known : Int32) (before : Nat → Int32) : Prop := ∃ kn : Nat, kn ≤ 5 ∧ cnt = nI kn ∧ known = nI kn ∧ ∀ i, i < kn → RG (G i) (fun k => before (51 * i + k))
def RT (sg : Nat → Int32) (len : Int32) (buffer : Nat → Int32) (length : Int32) : Prop := ∃ n : Nat, n ≤ 60 ∧ len = nI n ∧ length = nI n ∧ ∀ i, i < n → sg i = buffer i ∧ ∃ c : Nat, 33 ≤ c ∧ c ≤ 126 ∧ sg i = nI c
def Rel (x : XT) (m : MT) : Prop := RG x.2.2.2.2.1 m.1 ∧ RP x.2.1 x.2.2.2.1 m.2.2.1 m.2.1 ∧ (x.1 = m.2.2.2.2.1 ∧ (m.2.2.2.2.1 = true → RG x.2.2.1 m.2.2.2.1)) ∧ RT x.2.2.2.2.2.1 x.2.2.2.2.2.2 m.2.2.2.2.2.2.1 m.2.2.2.2.2.2.2.1
def setT (m : MT) (t : Int32) : MT := (m.1, m.2.1, m.2.2.1, m.2.2.2.1, m.2.2.2.2.1, m.2.2.2.2.2.1, m.2.2.2.2.2.2.1, m.2.2.2.2.2.2.2.1, t, m.2.2.2.2.2.2.2.2.2)
theorem Rel_T {x : XT} {m : MT} {t : Int32} (h : Rel x m) : Rel x (setT m t) := h
theorem thr_T {m : MT} {t : Int32} : thr (setT m t) = t := rfl
theorem pl_or (a : Int32) : (∃ q, q < 2 ∧ a = nI q) ∨ (mX9_isPlayer a = some false ∧ ∀ th b, mX10_isThere th a b = some (false, 1)) := by
  rcases pk_ix a (n := 2) (by omega) with h | h | ⟨j, hj, rfl⟩
  · refine Or.inr ⟨?_, fun th b => ?_⟩
    · unfold mX9_isPlayer
      rw [if_neg (fun e => by rw [e] at h; exact absurd h (by decide)), if_neg (fun e => by rw [e] at h; exact absurd h (by decide))]
    · unfold mX10_isThere mX10_isPlayer mX10_in
      rw [if_pos h]; rfl
  · have h2 : ¬ a ≤ 1 := fun q => absurd (Int32.le_trans h q) (by decide)
    refine Or.inr ⟨?_, fun th b => ?_⟩
    · unfold mX9_isPlayer
      rw [if_neg (fun e => by rw [e] at h; exact absurd h (by decide)), if_neg (fun e => by rw [e] at h; exact absurd h (by decide))]
    · unfold mX10_isThere mX10_isPlayer mX10_in
      rw [if_neg (fun q => absurd (Int32.le_trans h (Int32.le_of_lt q)) (by decide)), if_pos (Int32.not_le.mp h2)]; rfl
  · exact Or.inl ⟨j, hj, rfl⟩
theorem pt_or (a : Int32) : (∃ q, q < 16 ∧ a = nI q) ∨ (mX9_isPoint a = some false ∧ ∀ th b, mX10_isThere th b a = some (false, 1)) := by
  have hn : ∀ (r : Bool) (th b : Int32), (mX10_isPoint a = some false) → mX10_isThere th b a = some (false, 1) := by
    intro r th b h
    unfold mX10_isThere
    rcases pl_or b with ⟨q, hq, rfl⟩ | ⟨-, h2⟩
    · rw [k_bd_some (show mX10_isPlayer (nI q) = some true from by rcases (show q = 0 ∨ q = 1 by omega) with rfl | rfl <;> decide +kernel)]
      rw [k_bd_some h]; rfl
    · have := h2 th a
      unfold mX10_isThere at this
      exact this
  rcases pk_ix a (n := 16) (by omega) with h | h | ⟨j, hj, rfl⟩
  · refine Or.inr ⟨?_, fun th b => hn false th b ?_⟩
    · unfold mX9_isPoint; rw [if_pos h]
    · unfold mX10_isPoint mX10_in; rw [if_pos h]; rfl
  · have h2 : ¬ a ≤ 15 := fun q => absurd (Int32.le_trans h q) (by decide)
    have h3 : ¬ a < 0 := fun q => absurd (Int32.le_trans h (Int32.le_of_lt q)) (by decide)
    refine Or.inr ⟨?_, fun th b => hn false th b ?_⟩
    · unfold mX9_isPoint; rw [if_neg h3, if_pos (show (16 : Int32) ≤ a from h)]
    · unfold mX10_isPoint mX10_in; rw [if_neg h3, if_pos (Int32.not_le.mp h2)]; rfl
  · exact Or.inl ⟨j, hj, rfl⟩
theorem pl_1 {q : Nat} (hq : q < 2) : mX9_isPlayer (nI q) = some true := by rcases (show q = 0 ∨ q = 1 by omega) with rfl | rfl <;> decide +kernel
theorem th_10 : ∀ q, q < 2 → ∀ x, x < 16 → mX10_isThere 0 (nI q) (nI x) = some (true, 0) := by decide +kernel
theorem th_1 {q x : Nat} {th : Int32} (hq : q < 2) (hx : x < 16) : mX10_isThere th (nI q) (nI x) = some (true, 0) := th_10 q hq x hx
theorem th_z {q : Nat} {th : Int32} (hq : q < 2) : mX10_isThere th (nI q) 0 = some (true, 0) := th_10 q hq 0 (by omega)
theorem pt_1 : ∀ x, x < 16 → mX9_isPoint (nI x) = some true := by decide +kernel
theorem po_1 {g : GT} {F : Nat → Nat → Nat} {q : Nat} (hq : q < 2) (h0 : g.2.2.2.2.2.1 = b_L (F 0)) (h1 : g.2.2.2.2.2.2.1 = b_L (F 1)) : mX1_piecesOf (g.2.2.2.2.2.1) (g.2.2.2.2.2.2.1) (nI q) = some (b_L (F q)) := by
  rcases (show q = 0 ∨ q = 1 by omega) with rfl | rfl
  · rw [h0]; rfl
  · rw [h1]; rfl
theorem RH_q {s : Nat → Int32} {F : Nat → Nat → Nat} {q : Nat} (hq : q < 2) (h0 : RH s 0 (F 0)) (h1 : RH s 1 (F 1)) : RH s q (F q) := by
  rcases (show q = 0 ∨ q = 1 by omega) with rfl | rfl
  · exact h0
  · exact h1
theorem ok_q {F : Nat → Nat → Nat} {q : Nat} (hq : q < 2) (h0 : g_ok (F 0, F 1)) (h1 : g_ok (F 1, F 0)) : g_ok (F q, F (1 - q)) := by
  rcases (show q = 0 ∨ q = 1 by omega) with rfl | rfl
  · exact h0
  · exact h1
theorem ok_hasStopped {x : XT} {m : MT} (h : Rel x m) : OK_hasStopped Rel x m := by
  obtain ⟨p, F, ds, ph, -, -, -, -, -, -, -, -, ⟨h49, -⟩, -⟩ := h.1
  refine ⟨x.2.2.2.2.1.2.2.2.2.2.2.2.2.2.2.2.1, x, x.2.2.2.2.1.2.2.2.2.2.2.2.2.2.2.2.1, setT m 0, rfl, ?_, rfl, Rel_T h⟩
  unfold MN_hasStopped mX10_hasStopped
  rw [h49]
  cases x.2.2.2.2.1.2.2.2.2.2.2.2.2.2.2.2.1
  · rw [if_neg (by decide)]; rfl
  · rw [if_pos (by decide)]; rfl
theorem ok_stoppedPart {x : XT} {m : MT} (h : Rel x m) : OK_stoppedPart Rel x m := by
  obtain ⟨p, F, ds, ph, -, -, -, -, -, -, -, -, ⟨h49, h50⟩, -⟩ := h.1
  cases hs : x.2.2.2.2.1.2.2.2.2.2.2.2.2.2.2.2.1
  · refine Or.inr ⟨0, setT m 1, ?_, ?_, rfl, Rel_T h⟩
    · unfold XT_stoppedPart mT9_stoppedPart; rw [hs]; rfl
    · unfold MN_stoppedPart mX10_stoppedPart; rw [h49, hs]; rfl
  · refine Or.inl ⟨x.2.2.2.2.1.2.2.2.2.2.2.2.2.2.2.2.2, x, x.2.2.2.2.1.2.2.2.2.2.2.2.2.2.2.2.2, setT m 0, ?_, ?_, rfl, rfl, Rel_T h⟩
    · unfold XN_stoppedPart mX9_stoppedPart; rw [hs]; rfl
    · unfold MN_stoppedPart mX10_stoppedPart; rw [h49, hs, ← h50 hs]; rfl
theorem ok_mover {x : XT} {m : MT} (h : Rel x m) : OK_mover Rel x m := by
  obtain ⟨p, F, ds, ph, -, -, -, -, ⟨h36, -, g1, -⟩, -⟩ := h.1
  exact ⟨_, x, _, setT m 0, rfl, rfl, g1.trans h36.symm, Rel_T h⟩
theorem ok_phase {x : XT} {m : MT} (h : Rel x m) : OK_phase Rel x m := by
  obtain ⟨p, F, ds, ph, -, -, -, -, ⟨-, h37, -, g2, -⟩, -⟩ := h.1
  exact ⟨_, x, _, setT m 0, rfl, rfl, g2.trans h37.symm, Rel_T h⟩
theorem ok_savedStates {x : XT} {m : MT} (h : Rel x m) : OK_savedStates Rel x m := by
  obtain ⟨kn, -, h1, h2, -⟩ := h.2.1
  exact ⟨_, x, _, setT m 0, rfl, rfl, h1.trans h2.symm, Rel_T h⟩
theorem ok_stake {x : XT} {m : MT} (h : Rel x m) : OK_stake Rel x m := by
  obtain ⟨p, F, ds, ph, -, -, -, -, -, ⟨h43, -⟩, -⟩ := h.1
  exact ⟨_, x, _, setT m 0, rfl, rfl, h43.symm, Rel_T h⟩
theorem ok_cubeOf {x : XT} {m : MT} (h : Rel x m) : OK_cubeOf Rel x m := by
  obtain ⟨p, F, ds, ph, -, -, -, -, -, ⟨-, h44, -⟩, -⟩ := h.1
  exact ⟨_, x, _, setT m 0, rfl, rfl, h44.symm, Rel_T h⟩
theorem ok_diceLeft {x : XT} {m : MT} (h : Rel x m) : OK_diceLeft Rel x m := by
  obtain ⟨p, F, ds, ph, ⟨-, -, hds, -⟩, -, -, hD, ⟨-, -, -, -, g3⟩, -⟩ := h.1
  refine ⟨nI ds.length, x, m.1 38, setT m 0, ?_, rfl, hD.1.symm, Rel_T h⟩
  unfold XN_diceLeft mX9_diceLeft
  rw [g3, k_bd_some (k_bd_some (d_count ds hds))]
theorem ok_dieLeft {x : XT} {m : MT} (h : Rel x m) (a : Int32) : OK_dieLeft Rel x m a := by
  obtain ⟨p, F, ds, ph, ⟨-, -, hds, -⟩, -, -, hD, ⟨-, -, -, -, g3⟩, -⟩ := h.1
  have hl := d_len ds hds
  have e1 : nI ds.length - 1 < nI ds.length ∧ (∀ n : Nat, n < ds.length → ¬ nI ds.length - 1 < nI n) ∧ (∀ b : Int32, nI ds.length ≤ b → nI ds.length - 1 < b) := by
    rcases (show ds.length = 0 ∨ ds.length = 1 ∨ ds.length = 2 ∨ ds.length = 3 ∨ ds.length = 4 by omega) with e | e | e | e | e <;> rw [e] <;> refine ⟨by decide, ?_, fun b hb => Int32.lt_of_lt_of_le (by decide) hb⟩ <;> intro n hn
    · omega
    · rcases (show n = 0 by omega) with rfl; decide
    · rcases (show n = 0 ∨ n = 1 by omega) with rfl | rfl <;> decide
    · rcases (show n = 0 ∨ n = 1 ∨ n = 2 by omega) with rfl | rfl | rfl <;> decide
    · rcases (show n = 0 ∨ n = 1 ∨ n = 2 ∨ n = 3 by omega) with rfl | rfl | rfl | rfl <;> decide
  rcases pk_ix a (n := ds.length) (by omega) with h1 | h1 | ⟨j, hj, rfl⟩
  · refine Or.inr ⟨0, setT m 1, ?_, ?_, rfl, Rel_T h⟩
    · unfold XT_dieLeft mT9_dieLeft; rw [if_pos h1]; rfl
    · unfold MN_dieLeft mX10_dieLeft mX10_in; rw [if_pos h1]; rfl
  · have h0 : ¬ a < 0 := fun q => absurd (Int32.lt_of_le_of_lt h1 q) (nI_pos (by omega))
    refine Or.inr ⟨0, setT m 1, ?_, ?_, rfl, Rel_T h⟩
    · unfold XT_dieLeft mT9_dieLeft; rw [if_neg h0, g3, k_bd_some (d_count ds hds), if_neg (Int32.not_lt.mpr h1)]; rfl
    · unfold MN_dieLeft mX10_dieLeft mX10_in; rw [if_neg h0, hD.1, if_pos (e1.2.2 a h1)]; rfl
  · refine Or.inl ⟨nI (ds.getD j 0), x, nI (ds.getD j 0), setT m 0, ?_, ?_, rfl, rfl, Rel_T h⟩
    · unfold XN_dieLeft mX9_dieLeft
      rw [if_neg (nI_pos (by omega)), g3, k_bd_some (d_count ds hds), if_pos (nI_lt hj (by omega)), k_bd_some (d_at ds hds j (by omega))]
      rfl
    · unfold MN_dieLeft mX10_dieLeft mX10_in
      rw [if_neg (nI_pos (by omega)), hD.1, if_neg (e1.2.1 j hj)]
      show k_bd2 (k_g (39 + nI j) 51 _) _ = _
      rw [show (39 : Int32) + nI j = nI (39 + j) from nI_add 39 j, k_g_in (by omega) (by omega), nI_clamp (by omega), hD.2 j (by omega)]
      rfl
theorem c_on {F : Nat → Nat → Nat} {q w : Nat} (hq : q < 2) (h : g_ok (F q, F (1 - q))) (hw : w < 18) : mX3_on (b_L (F q)) (nI w) = some (nI (F q w)) := b_on h.1 hw
theorem c_way : ∀ q, q < 2 → ∀ x, x < 16 → mX1_wayOf (nI q) (nI x) = some (nI (pw q x)) := by decide +kernel
theorem r_atp {s : Nat → Int32} {F : Nat → Nat → Nat} {q x : Nat} (hq : q < 2) (hx : x < 16) (h : RH s q (F q)) : mX10_at s (nI q) (nI x) = some (nI (F q (pw q x))) := by
  have h1 := pw_r q hq x hx
  rw [pl_pt q hq x hx, r_at hq (by omega), h _ (by omega)]
theorem ok_piecesOn {x : XT} {m : MT} (h : Rel x m) (a a2 : Int32) : OK_piecesOn Rel x m a a2 := by
  obtain ⟨p, F, ds, ph, -, ⟨ho, ho'⟩, ⟨hr0, hr1⟩, -, -, -, ⟨gp0, gp1⟩, -⟩ := h.1
  rcases pl_or a with ⟨q, hq, rfl⟩ | ⟨h1, h2⟩
  · rcases pt_or a2 with ⟨y, hy, rfl⟩ | ⟨h3, h4⟩
    · have h5 := pw_r q hq y hy
      refine Or.inl ⟨nI (F q (pw q y)), x, nI (F q (pw q y)), setT m 0, ?_, ?_, rfl, rfl, Rel_T h⟩
      · unfold XN_piecesOn mX9_piecesOn mX1_countAt
        rw [k_bd_some (pl_1 hq), if_neg (by decide), k_bd_some (pt_1 y hy), if_neg (by decide), k_bd_some (po_1 hq gp0 gp1), k_bd_some (c_way q hq y hy), k_bd_some (c_on hq (ok_q hq ho ho') (by omega))]
        rfl
      · unfold MN_piecesOn mX10_piecesOn
        rw [k_bd2_some (th_1 hq hy), if_neg (by decide), k_bd_some (r_atp hq hy (RH_q hq hr0 hr1))]
        rfl
    · refine Or.inr ⟨0, setT m 1, ?_, ?_, rfl, Rel_T h⟩
      · unfold XT_piecesOn mT9_piecesOn
        rw [k_bd_some (pl_1 hq), if_neg (by decide), k_bd_some h3, if_pos (by decide)]; rfl
      · unfold MN_piecesOn mX10_piecesOn; rw [k_bd2_some (h4 _ _)]; rfl
  · refine Or.inr ⟨0, setT m 1, ?_, ?_, rfl, Rel_T h⟩
    · unfold XT_piecesOn mT9_piecesOn
      rw [k_bd_some h1, if_pos (by decide)]; rfl
    · unfold MN_piecesOn mX10_piecesOn; rw [k_bd2_some (h2 _ _)]; rfl
theorem ok_onBar {x : XT} {m : MT} (h : Rel x m) (a : Int32) : OK_onBar Rel x m a := by
  obtain ⟨p, F, ds, ph, -, ⟨ho, ho'⟩, ⟨hr0, hr1⟩, -, -, -, ⟨gp0, gp1⟩, ⟨g45, g46, g47, g48⟩, -⟩ := h.1
  rcases pl_or a with ⟨q, hq, rfl⟩ | ⟨h1, h2⟩
  · have hok := ok_q hq ho ho'
    have hrq := RH_q hq hr0 hr1
    refine Or.inl ⟨nI (F q 17), x, nI (F q 17), setT m 0, ?_, ?_, rfl, rfl, Rel_T h⟩
    · unfold XN_onBar mX9_onBar
      rw [k_bd_some (pl_1 hq), if_neg (by decide), k_bd_some (po_1 hq gp0 gp1), k_bd_some (show mX3_on (b_L (F q)) 17 = some (nI (F q 17)) from b_on (w := 17) hok.1 (by omega))]
      rfl
    · unfold MN_onBar mX10_onBar
      rw [k_bd2_some (th_z hq), if_neg (by decide), k_bd_some (show mX10_at m.1 (nI q) (-1) = some (nI (F q 17)) from by rw [show (-1 : Int32) = pl q 17 from pl_bar q hq, r_at hq (by omega), hrq _ (by omega)])]
      rfl
  · refine Or.inr ⟨0, setT m 1, ?_, ?_, rfl, Rel_T h⟩
    · unfold XT_onBar mT9_onBar
      rw [k_bd_some h1, if_pos (by decide)]
    · unfold MN_onBar mX10_onBar; rw [k_bd2_some (h2 _ _)]; rfl
theorem ok_borneOff {x : XT} {m : MT} (h : Rel x m) (a : Int32) : OK_borneOff Rel x m a := by
  obtain ⟨p, F, ds, ph, -, ⟨ho, ho'⟩, ⟨hr0, hr1⟩, -, -, -, ⟨gp0, gp1⟩, ⟨g45, g46, g47, g48⟩, -⟩ := h.1
  rcases pl_or a with ⟨q, hq, rfl⟩ | ⟨h1, h2⟩
  · have hok := ok_q hq ho ho'
    have hrq := RH_q hq hr0 hr1
    refine Or.inl ⟨nI (F q 0), x, nI (F q 0), setT m 0, ?_, ?_, rfl, rfl, Rel_T h⟩
    · unfold XN_borneOff mX9_borneOff
      rw [k_bd_some (pl_1 hq), if_neg (by decide), k_bd_some (po_1 hq gp0 gp1), k_bd_some (show mX3_on (b_L (F q)) 0 = some (nI (F q 0)) from b_on (w := 0) hok.1 (by omega))]
      rfl
    · unfold MN_borneOff mX10_borneOff
      rw [k_bd2_some (th_z hq), if_neg (by decide), k_bd_some (show mX10_at m.1 (nI q) 16 = some (nI (F q 0)) from by rw [show (16 : Int32) = pl q 0 from pl_off q hq, r_at hq (by omega), hrq _ (by omega)])]
      rfl
  · refine Or.inr ⟨0, setT m 1, ?_, ?_, rfl, Rel_T h⟩
    · unfold XT_borneOff mT9_borneOff
      rw [k_bd_some h1, if_pos (by decide)]
    · unfold MN_borneOff mX10_borneOff; rw [k_bd2_some (h2 _ _)]; rfl
theorem ok_pips {x : XT} {m : MT} (h : Rel x m) (a : Int32) : OK_pips Rel x m a := by
  obtain ⟨p, F, ds, ph, -, ⟨ho, ho'⟩, ⟨hr0, hr1⟩, -, -, -, ⟨gp0, gp1⟩, ⟨g45, g46, g47, g48⟩, -⟩ := h.1
  rcases pl_or a with ⟨q, hq, rfl⟩ | ⟨h1, h2⟩
  · have hok := ok_q hq ho ho'
    have hrq := RH_q hq hr0 hr1
    refine Or.inl ⟨nI (g_pip (F q)), x, nI (g_pip (F q)), setT m 0, ?_, ?_, rfl, rfl, Rel_T h⟩
    · unfold XN_pips mX9_pips
      rw [k_bd_some (pl_1 hq), if_neg (by decide), k_bd_some (po_1 hq gp0 gp1), k_bd_some (c_pip hok.1)]
      rfl
    · unfold MN_pips mX10_pips
      rw [k_bd2_some (th_z hq), if_neg (by decide), k_bd_some (r_pip hq hrq)]
      rfl
  · refine Or.inr ⟨0, setT m 1, ?_, ?_, rfl, Rel_T h⟩
    · unfold XT_pips mT9_pips
      rw [k_bd_some h1, if_pos (by decide)]
    · unfold MN_pips mX10_pips; rw [k_bd2_some (h2 _ _)]; rfl
theorem ok_blots {x : XT} {m : MT} (h : Rel x m) (a : Int32) : OK_blots Rel x m a := by
  obtain ⟨p, F, ds, ph, -, ⟨ho, ho'⟩, ⟨hr0, hr1⟩, -, -, -, ⟨gp0, gp1⟩, ⟨g45, g46, g47, g48⟩, -⟩ := h.1
  rcases pl_or a with ⟨q, hq, rfl⟩ | ⟨h1, h2⟩
  · have hok := ok_q hq ho ho'
    have hrq := RH_q hq hr0 hr1
    refine Or.inl ⟨nI (g_blot (F q)), x, nI (g_blot (F q)), setT m 0, ?_, ?_, rfl, rfl, Rel_T h⟩
    · unfold XN_blots mX9_blots
      rw [k_bd_some (pl_1 hq), if_neg (by decide), k_bd_some (po_1 hq gp0 gp1), k_bd_some (c_blot hok.1)]
      rfl
    · unfold MN_blots mX10_blots
      rw [k_bd2_some (th_z hq), if_neg (by decide), k_bd_some (r_blot hq hok.1 hrq)]
      rfl
  · refine Or.inr ⟨0, setT m 1, ?_, ?_, rfl, Rel_T h⟩
    · unfold XT_blots mT9_blots
      rw [k_bd_some h1, if_pos (by decide)]
    · unfold MN_blots mX10_blots; rw [k_bd2_some (h2 _ _)]; rfl
theorem ok_blockade {x : XT} {m : MT} (h : Rel x m) (a : Int32) : OK_blockade Rel x m a := by
  obtain ⟨p, F, ds, ph, -, ⟨ho, ho'⟩, ⟨hr0, hr1⟩, -, -, -, ⟨gp0, gp1⟩, ⟨g45, g46, g47, g48⟩, -⟩ := h.1
  rcases pl_or a with ⟨q, hq, rfl⟩ | ⟨h1, h2⟩
  · have hok := ok_q hq ho ho'
    have hrq := RH_q hq hr0 hr1
    obtain ⟨r, e1, e2⟩ := c_wall hok.1
    obtain ⟨r2, e3, e4⟩ := r_wall hq hok.1 hrq
    obtain rfl : r = r2 := g_mw_uniq e2 e4
    refine Or.inl ⟨nI r, x, nI r, setT m 0, ?_, ?_, rfl, rfl, Rel_T h⟩
    · unfold XN_blockade mX9_blockade
      rw [k_bd_some (pl_1 hq), if_neg (by decide), k_bd_some (po_1 hq gp0 gp1), k_bd_some e1]
      rfl
    · unfold MN_blockade mX10_blockade
      rw [k_bd2_some (th_z hq), if_neg (by decide), k_bd_some e3]
      rfl
  · refine Or.inr ⟨0, setT m 1, ?_, ?_, rfl, Rel_T h⟩
    · unfold XT_blockade mT9_blockade
      rw [k_bd_some h1, if_pos (by decide)]
    · unfold MN_blockade mX10_blockade; rw [k_bd2_some (h2 _ _)]; rfl
theorem ok_entering {x : XT} {m : MT} (h : Rel x m) (a : Int32) : OK_entering Rel x m a := by
  obtain ⟨p, F, ds, ph, -, ⟨ho, ho'⟩, ⟨hr0, hr1⟩, -, -, -, ⟨gp0, gp1⟩, ⟨g45, g46, g47, g48⟩, -⟩ := h.1
  rcases pl_or a with ⟨q, hq, rfl⟩ | ⟨h1, h2⟩
  · have hok := ok_q hq ho ho'
    have hrq := RH_q hq hr0 hr1
    have e1 : nI 1 - nI q = nI (1 - q) := r_1p hq
    have h1q : 1 - q < 2 := by omega
    have hrr : RH m.1 (1 - q) (F (1 - q)) := RH_q h1q hr0 hr1
    refine Or.inl ⟨nI (36 - g_bar (F (1 - q)) * g_bar (F (1 - q))), x, nI (36 - g_bar (F (1 - q)) * g_bar (F (1 - q))), setT m 0, ?_, ?_, rfl, rfl, Rel_T h⟩
    · unfold XN_entering mX9_entering
      rw [k_bd_some (pl_1 hq), if_neg (by decide), show (1 : Int32) - nI q = nI (1 - q) from e1, k_bd_some (po_1 h1q gp0 gp1), k_bd_some (c_enter hok.2.1)]
      rfl
    · unfold MN_entering mX10_entering
      rw [k_bd2_some (th_z hq), if_neg (by decide), k_bd_some (r_enters hq hok.2.1 hrr)]
      rfl
  · refine Or.inr ⟨0, setT m 1, ?_, ?_, rfl, Rel_T h⟩
    · unfold XT_entering mT9_entering
      rw [k_bd_some h1, if_pos (by decide)]
    · unfold MN_entering mX10_entering; rw [k_bd2_some (h2 _ _)]; rfl
