/-! the law's own small numbers: low, way, target, pieces, find -/
theorem l_rem {a d : Nat} (ha : a < 2 ^ 31) (h0 : 0 < d) (hd : d < 2 ^ 31) : k_irem (nI a) (nI d) = nI (a % d) := pk_rem ha h0 hd
theorem l_low (a : Int32) {n : Nat} (h0 : 0 < n) (hn : n < 2 ^ 31) : ∃ r, r < n ∧ mL_low a (nI n) = some (nI r) := by
  obtain ⟨j, hj, e⟩ := pk_andE a (m := 2147483647) 31 (by decide)
  refine ⟨j % n, Nat.mod_lt _ h0, ?_⟩
  unfold mL_low
  rw [e, l_rem hj h0 hn]
  exact if_pos (decide_eq_true (nI_ne0 h0 hn))
theorem l_low102 (a : Int32) : ∃ r, r < 102 ∧ mL_low a 102 = some (nI r) := l_low a (n := 102) (by omega) (by omega)
theorem l_low16 (a : Int32) : ∃ r, r < 16 ∧ mL_low a 16 = some (nI r) := l_low a (n := 16) (by omega) (by omega)
theorem l_low6 (a : Int32) : ∃ r, r < 6 ∧ mL_low a 6 = some (nI r) := l_low a (n := 6) (by omega) (by omega)
theorem l_way : ∀ p, p < 2 → ∀ w, w < 18 → (1 ≤ w → mL_way (nI p) (pl p w) = some (nI w)) := by decide +kernel
theorem l_wayY : ∀ p, p < 2 → ∀ y, y < 16 → mL_way (nI p) (nI y) = some (nI (pw p y)) := by decide +kernel
theorem l_target : ∀ p, p < 2 → ∀ w, w < 18 → ∀ d, d < 7 → (1 ≤ w ∧ 1 ≤ d → mL_target (nI p) (pl p w) (nI d) = some (pl p (w - d))) := by decide +kernel
theorem pl_neg : ∀ p, p < 2 → ∀ w, w < 18 → (1 ≤ w → (pl p w < 0 ↔ w = 17) ∧ (0 ≤ pl p w ↔ ¬ w = 17)) := by decide +kernel
theorem pl_16 : ∀ p, p < 2 → ∀ v, v < 17 → ((16 ≤ pl p v ↔ v = 0) ∧ (pl p v = 16 ↔ v = 0)) := by decide +kernel
theorem pl_isPt : ∀ q, q < 2 → ∀ v, v < 17 → (1 ≤ v → mX9_isPoint (pl q v) = some true) := by decide +kernel
section QL
variable {x : XT} {p : Nat} {F : Nat → Nat → Nat} {ds : List Nat} {ph : Nat}
theorem q_piecesW (h : RX x p F ds ph) {q v : Nat} (hq : q < 2) (h1 : 1 ≤ v) (h2 : v ≤ 16) : XR_piecesOn x (nI q) (pl q v) = some (nI (F q v)) := by
  obtain ⟨-, ⟨ho, ho'⟩, -, -, -, ⟨g5, g6⟩, -⟩ := h
  unfold XR_piecesOn mX9_piecesOn
  rw [k_bd_some (pl_1 hq), if_neg (by decide), k_bd_some (pl_isPt q hq v (by omega) h1), if_neg (by decide), g5, g6, k_bd_some (c_cw hq (by omega) ho ho')]
theorem q_piecesO (h : RX x p F ds ph) {q v : Nat} (hq : q < 2) (h1 : 1 ≤ v) (h2 : v ≤ 16) : XR_piecesOn x (1 - nI q) (pl q v) = some (nI (F (1 - q) (17 - v))) := by
  rw [show (1 : Int32) - nI q = nI (1 - q) from r_1p hq, pl_opp q hq v (by omega) h1]
  exact q_piecesW h (by omega) (by omega) (by omega)
theorem q_pieces (h : RX x p F ds ph) {w : Nat} (h1 : 1 ≤ w) (h2 : w ≤ 17) : mL_pieces x (nI p) (pl p w) = some (nI (F p w)) := by
  have hp := RX_p h
  have hn := (pl_neg p hp w (by omega) h1).2
  unfold mL_pieces
  by_cases c : w = 17
  · subst c
    rw [if_neg (fun q => (hn.mp q) rfl), k_bd_some (q_onBar h hp)]
  · rw [if_pos (hn.mpr c), k_bd_some (q_piecesW h hp h1 (by omega))]
def f_dd (j : Nat) : Nat := 1 + j / 17
def f_ww (p j : Nat) : Nat := tr p (j % 17)
def f_cc (j : Nat) : Nat := 32 * (1 + j / 17) + j % 17
theorem f_bd {p j : Nat} (hp : p < 2) (hj : j < 102) : 1 ≤ f_dd j ∧ f_dd j < 7 ∧ 1 ≤ f_ww p j ∧ f_ww p j ≤ 17 := by
  have h2 : j % 17 < 17 := Nat.mod_lt _ (by omega)
  have h3 := tr_q hp h2
  unfold f_dd f_ww
  exact ⟨by omega, by omega, h3.1, h3.2⟩
theorem f_qm {p j : Nat} (hp : p < 2) : nI (j % 17) - 1 = pl p (f_ww p j) := by
  have h2 : j % 17 < 17 := Nat.mod_lt _ (by omega)
  exact qm_pl (q := j % 17) hp (by omega)
theorem f_of {p d w : Nat} (hp : p < 2) (hd1 : 1 ≤ d) (hd : d < 7) (hw1 : 1 ≤ w) (hw : w ≤ 17) : ∃ j, j < 102 ∧ f_dd j = d ∧ f_ww p j = w := by
  have h1 : tr p w < 17 := by
    have := tr_lt p hp w (by omega)
    have h2 := tr_17 p hp w (by omega)
    omega
  refine ⟨17 * (d - 1) + tr p w, by omega, ?_, ?_⟩
  · unfold f_dd; omega
  · unfold f_ww
    rw [show (17 * (d - 1) + tr p w) % 17 = tr p w by omega]
    exact tr_tr p hp w (by omega)
theorem q_why' (h : RX x p F ds ph) {j : Nat} (hj : j < 102) : XR_whyNoStep x (k_irem (nI j) 17 - 1) (1 + nI j / 17) = some (nI (g_re ds (x_P p F) (f_dd j) (f_ww p j))) := by
  have hp := RX_p h
  obtain ⟨b1, b2, b3, b4⟩ := f_bd hp hj
  have e1 : k_irem (nI j) 17 = nI (j % 17) := l_rem (d := 17) (by omega) (by omega) (by omega)
  have e2 : nI j / 17 = nI (j / 17) := pk_div (d := 17) (by omega) (by omega) (by omega)
  have e3 : (1 : Int32) + nI (j / 17) = nI (f_dd j) := nI_add 1 (j / 17)
  rw [e1, e2, e3, f_qm hp]
  exact q_why h b1 b2 b3 b4
theorem f_code (j : Nat) (hj : j < 102) : (32 * (1 + nI j / 17)) + k_irem (nI j) 17 = nI (f_cc j) := by
  have e1 : k_irem (nI j) 17 = nI (j % 17) := l_rem (d := 17) (by omega) (by omega) (by omega)
  have e2 : nI j / 17 = nI (j / 17) := pk_div (d := 17) (by omega) (by omega) (by omega)
  have e3 : (1 : Int32) + nI (j / 17) = nI (1 + j / 17) := nI_add 1 (j / 17)
  have e4 : (32 : Int32) * nI (1 + j / 17) = nI (32 * (1 + j / 17)) := pk_mul 32 (1 + j / 17)
  rw [e1, e2, e3, e4, nI_add]
  rfl
theorem f_from {p j : Nat} (hp : p < 2) (hj : j < 102) : k_irem (nI (f_cc j)) 32 - 1 = pl p (f_ww p j) := by
  have h3 : f_cc j % 32 = j % 17 := by unfold f_cc; omega
  have e1 : k_irem (nI (f_cc j)) 32 = nI (f_cc j % 32) := l_rem (d := 32) (by unfold f_cc; omega) (by omega) (by omega)
  rw [e1, h3]; exact f_qm hp
theorem f_die {j : Nat} (hj : j < 102) : nI (f_cc j) / 32 = nI (f_dd j) := by
  have h3 : f_cc j / 32 = f_dd j := by unfold f_cc f_dd; omega
  have e1 : nI (f_cc j) / 32 = nI (f_cc j / 32) := pk_div (d := 32) (by unfold f_cc; omega) (by omega) (by omega)
  rw [e1, h3]
theorem re_ne {ds : List Nat} {P : GP} {d w : Nat} (h : ¬ g_re ds P d w = 0) : ¬ nI (g_re ds P d w) = 0 := nI_ne0 (by omega) (by have := g_re_lt (ds := ds) (P := P) (d := d) (w := w); omega)
theorem q_find4 (h : RX x p F ds ph) {v : Int32} {r : Nat} (hr : r < 102) (er : mL_low v 102 = some (nI r)) : ∀ (n i fu : Nat) (l2 : Int32), i + n = 102 → n < fu →
    ((l2 = -1 ∧ ∀ k, k < i → ¬ g_re ds (x_P p F) (f_dd ((k + r) % 102)) (f_ww p ((k + r) % 102)) = 0) ∨ ∃ j, j < 102 ∧ l2 = nI (f_cc j) ∧ g_re ds (x_P p F) (f_dd j) (f_ww p j) = 0) →
    ∃ l, k_fix (fun _ _ => none) (mL_find_4 x v) fu l2 (nI i) = some l ∧ ((l = -1 ∧ ∀ k, k < 102 → ¬ g_re ds (x_P p F) (f_dd ((k + r) % 102)) (f_ww p ((k + r) % 102)) = 0) ∨ ∃ j, j < 102 ∧ l = nI (f_cc j) ∧ g_re ds (x_P p F) (f_dd j) (f_ww p j) = 0) := by
  intro n
  induction n with
  | zero =>
    intro i fu l2 hi hfu hI
    obtain rfl : i = 102 := by omega
    refine ⟨l2, ?_, hI⟩
    rw [k_fix1 hfu, mL_find_4, if_pos (by decide)]
  | succ n ih =>
    intro i fu l2 hi hfu hI
    rw [k_fix1 (by omega), mL_find_4, if_neg (show ¬ (102 : Int32) ≤ nI i from nI_ge (a := i) (b := 102) (by omega) (by omega)), k_bd_some er, show nI i + 1 = nI (i + 1) from nI_1 i]
    rcases hI with ⟨rfl, hno⟩ | ⟨j, hj, rfl, hj0⟩
    · rw [if_neg (by decide)]
      have e1 : k_irem (nI i + nI r) 102 = nI ((i + r) % 102) := by
        rw [nI_add]; exact l_rem (d := 102) (by omega) (by omega) (by omega)
      have hj : (i + r) % 102 < 102 := Nat.mod_lt _ (by omega)
      rw [e1, k_bd_some (q_why' h hj)]
      by_cases c : g_re ds (x_P p F) (f_dd ((i + r) % 102)) (f_ww p ((i + r) % 102)) = 0
      · rw [if_pos (by rw [c]; exact nI_0), f_code _ hj]
        exact ih (i + 1) _ _ (by omega) (by omega) (Or.inr ⟨_, hj, rfl, c⟩)
      · rw [if_neg (re_ne c)]
        refine ih (i + 1) _ _ (by omega) (by omega) (Or.inl ⟨rfl, fun k hk => ?_⟩)
        rcases Nat.lt_succ_iff_lt_or_eq.mp hk with q | q
        · exact hno k q
        · subst q; exact c
    · rw [if_pos (show (0 : Int32) ≤ nI (f_cc j) from nI_le (a := 0) (Nat.zero_le _) (by unfold f_cc; omega))]
      exact ih (i + 1) _ _ (by omega) (by omega) (Or.inr ⟨j, hj, rfl, hj0⟩)
theorem q_find (h : RX x p F ds ph) (v : Int32) : ∃ l, mL_find x v = some l ∧ ((l = -1 ∧ ∀ d w, 1 ≤ d → d < 7 → 1 ≤ w → w ≤ 17 → ¬ g_re ds (x_P p F) d w = 0) ∨ ∃ j, j < 102 ∧ l = nI (f_cc j) ∧ g_re ds (x_P p F) (f_dd j) (f_ww p j) = 0) := by
  obtain ⟨r, hr, er⟩ := l_low102 v
  obtain ⟨l, e, hl⟩ := q_find4 h hr er 102 0 k_F (-1) (by omega) (by decide) (Or.inl ⟨rfl, fun k hk => by omega⟩)
  refine ⟨l, ?_, ?_⟩
  · unfold mL_find
    rw [nI_0] at e
    exact e
  · rcases hl with ⟨rfl, hno⟩ | hj
    · refine Or.inl ⟨rfl, fun d w d1 d2 w1 w2 => ?_⟩
      obtain ⟨j, hj, rfl, rfl⟩ := f_of (RX_p h) d1 d2 w1 w2
      have h1 := hno ((j + 102 - r) % 102) (Nat.mod_lt _ (by omega))
      rw [show ((j + 102 - r) % 102 + r) % 102 = j by omega] at h1
      exact h1
    · exact Or.inr hj
end QL
