/-! pieces that change their places -/
theorem RGw_pc {p : Nat} {F : Nat → Nat → Nat} {ds : List Nat} {ph : Nat} {g : GT} {s : Nat → Int32} (h : RGw p F ds ph g s) {F' : Nat → Nat → Nat} {ds' : List Nat} {ph' : Nat} {s' : Nat → Int32} {phs di : Int32} {P0 P1 : Int64} {sc0 sc1 hi0 hi1 : Int32} (hph' : ph' < 4) (hds' : ds' ∈ d_all) (hn : ph' ≠ 1 → ds' = []) (o : g_ok (F' 0, F' 1)) (o' : g_ok (F' 1, F' 0)) (r0 : RH s' 0 (F' 0)) (r1 : RH s' 1 (F' 1)) (hD : RD s' ds') (e36 : s' 36 = s 36) (e37 : s' 37 = nI ph') (g2 : phs = nI ph') (g3 : di = d_I ds') (e43 : s' 43 = s 43) (e44 : s' 44 = s 44) (p0 : P0 = b_L (F' 0)) (p1 : P1 = b_L (F' 1)) (e45 : s' 45 = sc0) (e46 : s' 46 = sc1) (e47 : s' 47 = hi0) (e48 : s' 48 = hi1) (e49 : s' 49 = s 49) (e50 : s' 50 = s 50) (hF : ph' ≠ 3 → F' 0 0 < 6 ∧ F' 1 0 < 6) :
    RG (g.1, phs, di, g.2.2.2.1, g.2.2.2.2.1, P0, P1, sc0, sc1, hi0, hi1, g.2.2.2.2.2.2.2.2.2.2.2) s' := by
  obtain ⟨⟨hp, -⟩, -, -, -, ⟨a1, -, a3, -⟩, ⟨b1, b2, b3⟩, -, -, ⟨c1, c2⟩, -⟩ := h
  exact ⟨p, F', ds', ph', ⟨hp, hph', hds', hn⟩, ⟨o, o'⟩, ⟨r0, r1⟩, hD, ⟨e36.trans a1, e37, a3, g2, g3⟩, ⟨e43.trans b1, e44.trans b2, b3⟩, ⟨p0, p1⟩, ⟨e45, e46, e47, e48⟩, ⟨e49.trans c1, fun he => e50.trans (c2 he)⟩, hF⟩
theorem g_ok_mv {f g : Nat → Nat} {w v : Nat} (h : g_ok (f, g)) (hw : w < 18) (hv : v < 18) (hf : 0 < f w) : g_ok (b_mv f w v, g) ∧ g_ok (g, b_mv f w v) := by
  obtain ⟨h1, h2, h3⟩ := h
  have k1 : b_ok (b_mv f w v) := b_ok_mv (show b_ok f from h1) hw hv hf
  have k2 : b_ok g := h2
  have hz : ∀ i, 18 ≤ i → b_mv f w v i = 0 ∧ g i = 0 := fun i hi => by
    have a1 : f i = 0 := (h3 i hi).1
    have a2 : g i = 0 := (h3 i hi).2
    refine ⟨?_, a2⟩
    rw [b_mv_at, if_neg (by omega), if_neg (by omega), a1]
  exact ⟨⟨k1, k2, hz⟩, ⟨k2, k1, fun i hi => ⟨(hz i hi).2, (hz i hi).1⟩⟩⟩
theorem b_mv_le {f : Nat → Nat} {w v : Nat} (h : b_ok f) (hw : w < 18) (hv : v < 18) (hf : 0 < f w) : b_mv f w v 0 ≤ 6 := by
  have k1 : b_ok (b_mv f w v) := b_ok_mv h hw hv hf
  generalize b_mv f w v = u at k1
  exact b_ok_le k1 (by omega)
theorem T_carry {p : Nat} {F F' : Nat → Nat → Nat} {ds : List Nat} {g : GT} {s s' : Nat → Int32} {q w v : Nat} (h : RGw p F ds 0 g s) (hq : q < 2) (hw : w < 18) (hv : v < 18) (hf : 0 < F q w) (hl : ¬ b_mv (F q) w v 0 = 6) (q0 : F' q = b_mv (F q) w v) (q1 : F' (1 - q) = F (1 - q)) (r : RH s' q (F' q)) (r1 : RH s' (1 - q) (F' (1 - q))) (hk : ∀ k, 36 ≤ k → s' k = s k) {P0 P1 : Int64} (p0 : P0 = b_L (F' 0)) (p1 : P1 = b_L (F' 1)) : RG (g.1, g.2.1, g.2.2.1, g.2.2.2.1, g.2.2.2.2.1, P0, P1, g.2.2.2.2.2.2.2.1, g.2.2.2.2.2.2.2.2.1, g.2.2.2.2.2.2.2.2.2.1, g.2.2.2.2.2.2.2.2.2.2.1, g.2.2.2.2.2.2.2.2.2.2.2) s' := by
  have h' := h
  obtain ⟨⟨-, -, hds, hn⟩, ⟨ho, ho'⟩, -, hD, ⟨-, a2, -, a4, a5⟩, -, -, ⟨d1, d2, d3, d4⟩, -, f⟩ := h'
  have hle : F' q 0 ≤ 6 := by rw [q0]; exact b_mv_le (ok_q hq ho ho').1 hw hv hf
  have hne : F' q 0 ≠ 6 := by rw [q0]; exact hl
  have hD' : RD s' ds := ⟨by rw [hk _ (by omega)]; exact hD.1, fun i hi => by rw [hk _ (by omega)]; exact hD.2 i hi⟩
  have hg := g_ok_mv (ok_q hq ho ho') hw hv hf
  rw [← q0, ← q1] at hg
  have hf6 := f (by omega)
  rcases (show q = 0 ∨ q = 1 by omega) with rfl | rfl
  · have e1 : F' 1 0 = F 1 0 := congrFun q1 0
    exact RGw_pc h (by omega) hds hn hg.1 hg.2 r r1 hD' (hk _ (by omega)) ((hk _ (by omega)).trans a2) a4 a5 (hk _ (by omega)) (hk _ (by omega)) p0 p1 ((hk _ (by omega)).trans d1) ((hk _ (by omega)).trans d2) ((hk _ (by omega)).trans d3) ((hk _ (by omega)).trans d4) (hk _ (by omega)) (hk _ (by omega)) (fun _ => ⟨by omega, by omega⟩)
  · have e1 : F' 0 0 = F 0 0 := congrFun q1 0
    exact RGw_pc h (by omega) hds hn hg.2 hg.1 r1 r hD' (hk _ (by omega)) ((hk _ (by omega)).trans a2) a4 a5 (hk _ (by omega)) (hk _ (by omega)) p0 p1 ((hk _ (by omega)).trans d1) ((hk _ (by omega)).trans d2) ((hk _ (by omega)).trans d3) ((hk _ (by omega)).trans d4) (hk _ (by omega)) (hk _ (by omega)) (fun _ => ⟨by omega, by omega⟩)
def F_set (F : Nat → Nat → Nat) (q : Nat) (f : Nat → Nat) : Nat → Nat → Nat := fun r => if r = q then f else F r
theorem F_set_q {F : Nat → Nat → Nat} {q : Nat} {f : Nat → Nat} : F_set F q f q = f := if_pos rfl
theorem F_set_o {F : Nat → Nat → Nat} {q r : Nat} {f : Nat → Nat} (h : r ≠ q) : F_set F q f r = F r := if_neg h
theorem c_doCarry {F F' : Nat → Nat → Nat} {q w v : Nat} (hq : q < 2) (hw : w < 18) (hv : v < 18) (ho : g_ok (F 0, F 1)) (ho' : g_ok (F 1, F 0)) (hf : 0 < F q w) (q0 : F' q = b_mv (F q) w v) (q1 : F' (1 - q) = F (1 - q)) : mX1_doCarry (b_L (F 0)) (b_L (F 1)) (nI q) (pl q w) (pl q v) = some (b_L (F' 0), b_L (F' 1)) := by
  have hc := c_carried hq hw hv ho ho' hf
  rw [← q0] at hc
  unfold mX1_doCarry
  rw [k_bd_some hc]
  unfold mX1_setPieces
  rcases (show q = 0 ∨ q = 1 by omega) with rfl | rfl
  · rw [if_pos (show nI 0 = (0 : Int32) from nI_0), show F' 1 = F 1 from q1]; rfl
  · rw [if_neg (show ¬ nI 1 = (0 : Int32) by decide), show F' 0 = F 0 from q1]; rfl
theorem hplf {a : Int32} (h2 : ∀ th b, mX10_isThere th a b = some (false, 1)) : mX10_isPlayer a = some false := by
  have h3 := h2 0 0
  unfold mX10_isThere at h3
  cases hc : mX10_isPlayer a with
  | none => rw [hc] at h3; cases h3
  | some b =>
    cases b
    · rfl
    · rw [hc, k_bs, if_neg (by decide), k_bd_some (show mX10_isPoint 0 = some true from by decide +kernel), if_neg (by decide)] at h3
      unfold mX10_isThere_20 at h3
      cases h3
theorem M_carry {m : MT} {F : Nat → Nat → Nat} {q w v : Nat} {before' : Nat → Int32} {known' : Int32} {s' : Nat → Int32} {r : Int32} (hq : q < 2) (hw : w < 18) (hv : v < 18) (h0 : RH m.1 0 (F 0)) (h1 : RH m.1 1 (F 1)) (ho : g_ok (F 0, F 1)) (ho' : g_ok (F 1, F 0)) (hfr : g_free F q v = true) (hl : g_last F q w v = false) (y1 : mX10_carry_91 (nI q) (pl q w) (pl q v) false (!true) m.1 m.2.1 m.2.2.1 0 = some (r, s', before', known', 0)) : MN_carry m (nI q) (pl q w) (pl q v) = some (r, (s', before', known', m.2.2.2.1, m.2.2.2.2.1, m.2.2.2.2.2.1, m.2.2.2.2.2.2.1, m.2.2.2.2.2.2.2.1, 0, m.2.2.2.2.2.2.2.2.2)) := by
  unfold MN_carry
  rw [r_carry61 hq hw hv h0 h1 ho ho', r_carry91 hq hw hv h0 h1 (ok_q hq ho ho'), hfr, hl, k_bd5_some y1]
theorem X_carry {x : XT} {F F' : Nat → Nat → Nat} {q w v : Nat} {cnt' : Int32} {G' : Nat → GT} (hq : q < 2) (hw : w < 18) (hv : v < 18) (ho : g_ok (F 0, F 1)) (ho' : g_ok (F 1, F 0)) (h6 : F q 0 < 6) (hf : 0 < F q w) (hfr : g_free F q v = true) (hl : g_last F q w v = false) (q0 : F' q = b_mv (F q) w v) (q1 : F' (1 - q) = F (1 - q)) (g2 : x.2.2.2.2.1.2.1 = nI 0) (gp0 : x.2.2.2.2.1.2.2.2.2.2.1 = b_L (F 0)) (gp1 : x.2.2.2.2.1.2.2.2.2.2.2.1 = b_L (F 1))
    (s1 : mX2_save x.2.1 x.2.2.2.1 x.2.2.2.2.1.1 x.2.2.2.2.1.2.1 x.2.2.2.2.1.2.2.1 x.2.2.2.2.1.2.2.2.1 x.2.2.2.2.1.2.2.2.2.1 x.2.2.2.2.1.2.2.2.2.2.1 x.2.2.2.2.1.2.2.2.2.2.2.1 x.2.2.2.2.1.2.2.2.2.2.2.2.1 x.2.2.2.2.1.2.2.2.2.2.2.2.2.1 x.2.2.2.2.1.2.2.2.2.2.2.2.2.2.1 x.2.2.2.2.1.2.2.2.2.2.2.2.2.2.2.1 x.2.2.2.2.1.2.2.2.2.2.2.2.2.2.2.2.1 x.2.2.2.2.1.2.2.2.2.2.2.2.2.2.2.2.2 = some (cnt', G')) :
    XN_carry x (nI q) (pl q w) (pl q v) = some (nI (g_pip (b_mv (F q) w v)), (x.1, cnt', x.2.2.1, G', (x.2.2.2.2.1.1, x.2.2.2.2.1.2.1, x.2.2.2.2.1.2.2.1, x.2.2.2.2.1.2.2.2.1, x.2.2.2.2.1.2.2.2.2.1, b_L (F' 0), b_L (F' 1), x.2.2.2.2.1.2.2.2.2.2.2.2.1, x.2.2.2.2.1.2.2.2.2.2.2.2.2.1, x.2.2.2.2.1.2.2.2.2.2.2.2.2.2.1, x.2.2.2.2.1.2.2.2.2.2.2.2.2.2.2.1, x.2.2.2.2.1.2.2.2.2.2.2.2.2.2.2.2), x.2.2.2.2.2.1, x.2.2.2.2.2.2)) := by
  have hcc := c_canCarry (F := F) (ph := 0) (v := v) (by omega) hq hw hv ho ho' (fun _ => h6)
  rw [decide_eq_true (show 0 = 0 ∧ 0 < F q w ∧ g_free F q v = true ∧ g_last F q w v = false from ⟨rfl, hf, hfr, hl⟩)] at hcc
  have hd := c_doCarry (F' := F') hq hw hv ho ho' hf q0 q1
  have hok := ok_q hq ho ho'
  have hpip := c_pip (f := b_mv (F q) w v) (b_ok_mv hok.1 hw hv hf)
  have hpo : mX1_piecesOf (b_L (F' 0)) (b_L (F' 1)) (nI q) = some (b_L (b_mv (F q) w v)) := by rw [c_po hq, q0]
  unfold XN_carry mX9_carry
  rw [k_bd_some (pl_1 hq), if_neg (by decide), k_bd_some (pp_is q hq w hw).1, if_neg (by decide), k_bd_some (pp_is q hq v hv).1, if_neg (by decide)]
  rw [k_bd_some (show mX1_canCarry x.2.2.2.2.1.2.1 x.2.2.2.2.1.2.2.2.2.2.1 x.2.2.2.2.1.2.2.2.2.2.2.1 (nI q) (pl q w) (pl q v) = some true from by rw [g2, gp0, gp1]; exact hcc), if_neg (by decide), k_bd2_some s1]
  rw [k_bd2_some (show mX1_doCarry x.2.2.2.2.1.2.2.2.2.2.1 x.2.2.2.2.1.2.2.2.2.2.2.1 (nI q) (pl q w) (pl q v) = some (b_L (F' 0), b_L (F' 1)) from by rw [gp0, gp1]; exact hd)]
  rw [k_bd_some hpo, k_bd_some hpip]
  exact k_bd5_some rfl
