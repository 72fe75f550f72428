theorem ok_digest {x : XT} {m : MT} (h : Rel x m) : OK_digest Rel x m := by
  obtain ⟨hg, hp, hs, ht⟩ := h
  have hg' := hg
  obtain ⟨p, F, ds, ph, hw⟩ := hg
  obtain ⟨n, c, hn, l1, l2, tx, tb⟩ := TX_of ht
  obtain ⟨kn, -, k1, k2, -⟩ := id hp
  have h1 := RG_mine hw
  have h2 := RG_others hw
  have h3 := RG_reach hw
  obtain ⟨hB, hP⟩ := RG_B hw
  obtain ⟨r, hsh, hc, hr⟩ := R_share hw
  obtain ⟨bits, b1, b2⟩ := f_sh_bits hsh
  have hw' := hw
  obtain ⟨⟨hp2, -, hds, -⟩, ⟨ho, ho'⟩, ⟨r0, r1⟩, hD, ⟨h36, h37, g1, g2, g3⟩, ⟨h43, h44, -⟩, ⟨gp0, gp1⟩, ⟨h45, h46, h47, h48⟩, -, -⟩ := hw'
  obtain ⟨w0, a1, a2⟩ := c_wall (f := F 0) ho.1
  obtain ⟨v0, a3, a4⟩ := r_wall (p := 0) (f := F 0) (by omega) ho.1 r0
  obtain rfl : w0 = v0 := g_mw_uniq a2 a4
  obtain ⟨w1, c1, c2⟩ := c_wall (f := F 1) ho'.1
  obtain ⟨v1, c3, c4⟩ := r_wall (p := 1) (f := F 1) (by omega) ho'.1 r1
  obtain rfl : w1 = v1 := g_mw_uniq c2 c4
  rw [nI_0] at a3
  obtain ⟨N, N2, as', laid', m', t', f0', f1', many', dice', D, y1, y2, y3, y4⟩ := y_digest (as_ := m.2.2.2.2.2.1) (laid := m.2.2.2.2.2.2.2.2.2.1) (dice := m.2.2.2.2.2.2.2.2.2.2.2.2.2.2.2.2.2.2.1) (kn := m.2.2.1) (th0 := m.2.2.2.2.2.2.2.2.1) (many := m.2.2.2.2.2.2.2.2.2.2.2.2.2.2.2.1) (m := m.2.2.2.2.2.2.2.2.2.2.2.2.2.1) (t := m.2.2.2.2.2.2.2.2.2.2.2.2.2.2.1) (f0 := m.2.2.2.2.2.2.2.2.2.2.2.2.2.2.2.2.1) (f1 := m.2.2.2.2.2.2.2.2.2.2.2.2.2.2.2.2.2.1) (H0 := m.2.2.2.2.2.2.2.2.2.2.2.2.2.2.2.2.2.2.2) hw tb a3 c3 hr b2
  rw [← l2] at y1
  have hX : mX9_digest x.2.1 x.2.2.2.2.1.1 x.2.2.2.2.1.2.1 x.2.2.2.2.1.2.2.1 x.2.2.2.2.1.2.2.2.1 x.2.2.2.2.1.2.2.2.2.1 x.2.2.2.2.1.2.2.2.2.2.1 x.2.2.2.2.1.2.2.2.2.2.2.1 x.2.2.2.2.1.2.2.2.2.2.2.2.1 x.2.2.2.2.1.2.2.2.2.2.2.2.2.1 x.2.2.2.2.1.2.2.2.2.2.2.2.2.2.1 x.2.2.2.2.1.2.2.2.2.2.2.2.2.2.2.1 x.2.2.2.2.1.2.2.2.2.2.2.2.2.2.2.2.1 x.2.2.2.2.1.2.2.2.2.2.2.2.2.2.2.2.2 x.2.2.2.2.2.1 x.2.2.2.2.2.2 = some D := by
    have ecnt : mX7_countPossible (b_L (F p)) (b_L (F (1 - p))) (d_I ds) = some (nI (g_poss ds (F p, F (1 - p)))) := c_count (P := (F p, F (1 - p))) hds hP
    have er65 : mX0_rolled 6 5 = some (d_I (d_rol 6 5)) := d_rolled 6 (by omega) 5 (by omega) (by omega) (by omega)
    have eturn : mX9_addTurn x.2.2.2.2.1.1 x.2.2.2.2.1.2.1 x.2.2.2.2.1.2.2.1 x.2.2.2.2.1.2.2.2.1 x.2.2.2.2.1.2.2.2.2.1 4517 = some (tu_ ds (m.1 36) (m.1 37) (m.1 43) (m.1 44) 4517) := by
      rw [g3, x_turn hds, g1, g2, h36, h37, h43, h44]
    have ep0 : ∀ H, mX9_addPlayer x.2.2.2.2.1.2.2.2.2.2.1 x.2.2.2.2.1.2.2.2.2.2.2.1 x.2.2.2.2.1.2.2.2.2.2.2.2.1 x.2.2.2.2.1.2.2.2.2.2.2.2.2.1 x.2.2.2.2.1.2.2.2.2.2.2.2.2.2.1 x.2.2.2.2.1.2.2.2.2.2.2.2.2.2.2.1 H 0 = some (ph_ F 0 w0 (m.1 45) (m.1 47) H) := fun H => by
      have z := x_player (F := F) (q := 0) (w := w0) (sc0 := x.2.2.2.2.1.2.2.2.2.2.2.2.1) (sc1 := x.2.2.2.2.1.2.2.2.2.2.2.2.2.1) (h0 := x.2.2.2.2.1.2.2.2.2.2.2.2.2.2.1) (h1 := x.2.2.2.2.1.2.2.2.2.2.2.2.2.2.2.1) (H := H) (by omega) ho ho' a1
      rw [if_pos rfl, if_pos rfl, nI_0] at z
      rw [gp0, gp1, h45, h47]; exact z
    have ep1 : ∀ H, mX9_addPlayer x.2.2.2.2.1.2.2.2.2.2.1 x.2.2.2.2.1.2.2.2.2.2.2.1 x.2.2.2.2.1.2.2.2.2.2.2.2.1 x.2.2.2.2.1.2.2.2.2.2.2.2.2.1 x.2.2.2.2.1.2.2.2.2.2.2.2.2.2.1 x.2.2.2.2.1.2.2.2.2.2.2.2.2.2.2.1 H 1 = some (ph_ F 1 w1 (m.1 46) (m.1 48) H) := fun H => by
      have z := x_player (F := F) (q := 1) (w := w1) (sc0 := x.2.2.2.2.1.2.2.2.2.2.2.2.1) (sc1 := x.2.2.2.2.1.2.2.2.2.2.2.2.2.1) (h0 := x.2.2.2.2.1.2.2.2.2.2.2.2.2.2.1) (h1 := x.2.2.2.2.1.2.2.2.2.2.2.2.2.2.2.1) (H := H) (by omega) ho ho' c1
      rw [if_neg (by omega), if_neg (by omega)] at z
      rw [gp0, gp1, h46, h48]; exact z
    have ekn : x.2.1 = m.2.2.1 := k1.trans k2.symm
    have hc' : mX9_shareOfMover x.2.2.2.2.1.1 (b_L (F 0)) (b_L (F 1)) = some r := by rw [← gp0, ← gp1]; exact hc
    have e170 : ∀ H, k_fix (fun _ _ => none) (mX9_digest_170 x.2.1 x.2.2.2.2.1.1 x.2.2.2.2.1.2.1 x.2.2.2.2.1.2.2.1 x.2.2.2.2.1.2.2.2.1 x.2.2.2.2.1.2.2.2.2.1 x.2.2.2.2.1.2.2.2.2.2.1 x.2.2.2.2.1.2.2.2.2.2.2.1 x.2.2.2.2.1.2.2.2.2.2.2.2.1 x.2.2.2.2.1.2.2.2.2.2.2.2.2.1 x.2.2.2.2.1.2.2.2.2.2.2.2.2.2.1 x.2.2.2.2.1.2.2.2.2.2.2.2.2.2.2.1 x.2.2.2.2.1.2.2.2.2.2.2.2.2.2.2.2.1 x.2.2.2.2.1.2.2.2.2.2.2.2.2.2.2.2.2 x.2.2.2.2.2.1 x.2.2.2.2.2.2) k_F H 0 = some (en_ x.2.2.2.2.1.2.2.2.2.2.2.2.2.2.2.2.1 x.2.2.2.2.1.2.2.2.2.2.2.2.2.2.2.2.2 bits c n (sf F 0 16 H)) := fun H => by
      have z := x_170 (F := F) (cnt := x.2.1) (mv := x.2.2.2.2.1.1) (phs := x.2.2.2.2.1.2.1) (di := x.2.2.2.2.1.2.2.1) (stk := x.2.2.2.2.1.2.2.2.1) (cub := x.2.2.2.2.1.2.2.2.2.1) (sc0 := x.2.2.2.2.1.2.2.2.2.2.2.2.1) (sc1 := x.2.2.2.2.1.2.2.2.2.2.2.2.2.1) (h0 := x.2.2.2.2.1.2.2.2.2.2.2.2.2.2.1) (h1 := x.2.2.2.2.1.2.2.2.2.2.2.2.2.2.2.1) (st := x.2.2.2.2.1.2.2.2.2.2.2.2.2.2.2.2.1) (sp := x.2.2.2.2.1.2.2.2.2.2.2.2.2.2.2.2.2) tx ho ho' hc' b1 16 0 k_F H (by omega) (by decide)
      rw [nI_0] at z
      rw [gp0, gp1, l1]; exact z
    unfold mX9_digest
    rw [k_bd_some h1, k_bd_some h2, k_bd_some eturn, g3, k_bd_some ecnt, k_bd_some (d_mx _ _).2]
    rw [g3] at h3
    rw [k_bd_some h3, k_bd_some (d_mx _ _).2, k_bd_some (y2 false), k_bd_some (d_mx _ _).2, k_bd_some (y2 true), k_bd_some (d_mx _ _).2, k_bd_some er65, k_bd_some (y3 false), k_bd_some (d_mx _ _).2, k_bd_some (d_mx _ _).2, k_bd_some (ep0 _), k_bd_some (ep1 _), ← g3, e170, y4, ekn]
    rfl
  clear y4
  refine ⟨D, x, D, (m.1, m.2.1, m.2.2.1, m.2.2.2.1, m.2.2.2.2.1, as', m.2.2.2.2.2.2.1, m.2.2.2.2.2.2.2.1, 0, laid', m.2.2.2.2.2.2.2.2.2.2.1, m.2.2.2.2.2.2.2.2.2.2.2.1, m.2.2.2.2.2.2.2.2.2.2.2.2.1, m', t', many', f0', f1', dice', D), ?_, ?_, rfl, hg', hp, hs, ht⟩
  · unfold XN_digest
    exact k_bd_some hX
  · unfold MN_digest
    rw [k_bd12_some y1]
