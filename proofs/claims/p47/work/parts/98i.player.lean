/-! a player's pieces, as the law counts them -/
theorem g_sum_shift (K : Nat → Nat) : ∀ (n a : Nat), g_sum (fun i => K (i + 1)) a n = g_sum K (a + 1) n
  | 0, _ => rfl
  | n + 1, a => by
    show K (a + 1) + g_sum (fun i => K (i + 1)) (a + 1) n = K (a + 1) + g_sum K (a + 1 + 1) n
    rw [g_sum_shift K n (a + 1)]
theorem g_sum_S (K : Nat → Nat) : ∀ (n a : Nat), g_sum K a (n + 1) = g_sum K a n + K (a + n)
  | 0, a => by show K a + 0 = 0 + K (a + 0); rw [Nat.add_zero, Nat.add_zero, Nat.zero_add]
  | n + 1, a => by
    show K a + g_sum K (a + 1) (n + 1) = K a + g_sum K (a + 1) n + K (a + (n + 1))
    rw [g_sum_S K n (a + 1), show a + 1 + n = a + (n + 1) by omega, Nat.add_assoc]
theorem pw_tr : ∀ q, q < 2 → ∀ i, i < 16 → pw q i = tr q (i + 1) := by decide +kernel
theorem g_sum_pw {q : Nat} (hq : q < 2) (H : Nat → Nat) : g_sum (fun i => H (pw q i)) 0 16 = g_sum H 1 16 := by
  rw [g_sum_congr (G := fun i => H (tr q (i + 1))) (fun i _ h => by show H (pw q i) = H (tr q (i + 1)); rw [pw_tr q hq i (by omega)]), g_sum_shift (fun j => H (tr q j)) 16 0]
  exact g_sum_tr1 hq H
theorem b_sum6 {f : Nat → Nat} (h : b_ok f) : f 17 + f 0 + g_sum f 1 16 = 6 := by
  have h' : 0 + f 0 + f 1 + f 2 + f 3 + f 4 + f 5 + f 6 + f 7 + f 8 + f 9 + f 10 + f 11 + f 12 + f 13 + f 14 + f 15 + f 16 + f 17 = 6 := h
  show f 17 + f 0 + (f 1 + (f 2 + (f 3 + (f 4 + (f 5 + (f 6 + (f 7 + (f 8 + (f 9 + (f 10 + (f 11 + (f 12 + (f 13 + (f 14 + (f 15 + (f 16 + 0)))))))))))))))) = 6
  omega
theorem pip_sum {f : Nat → Nat} : 17 * f 17 + g_sum (fun w => w * f w) 1 16 = g_pip f := by
  have h : g_pip f = g_sum (fun w => w * f w) 1 16 + 17 * f 17 := g_sum_S (fun w => w * f w) 16 1
  omega
def p_B (F : Nat → Nat → Nat) (q i : Nat) : Bool := decide (2 ≤ F q (pw q i))
theorem p_wall {F : Nat → Nat → Nat} {q r : Nat} (hq : q < 2) (h : g_mw (g_blk (F q)) 16 r) : g_mw (p_B F q) 16 r := by
  rcases (show q = 0 ∨ q = 1 by omega) with rfl | rfl
  · refine g_mw_rev (fun i hi => ?_) h
    show decide (2 ≤ F 0 (16 - i)) = decide (2 ≤ F 0 (16 - 1 - i + 1))
    rw [show 16 - 1 - i + 1 = 16 - i by omega]
  · exact g_mw_congr (fun i hi => rfl) h
section QP
variable {x : XT} {p : Nat} {F : Nat → Nat → Nat} {ds : List Nat} {ph : Nat}
abbrev K36 := Int32 → Int32 → Int32 → Int32 → Int32 → Bool → Int32 → Option Bool
theorem p_115 (h : RX x p F ds ph) {q i : Nat} (hq : q < 2) (hi : i < 16) {k : K36} {t0 l2 l3 l4 l6 : Int32} : mL_isPlayerSo_115 x (nI q) k t0 l2 l3 l4 l6 true (nI i) (nI (F q (pw q i))) = k l2 l3 l4 t0 l6 true (nI (i + 1)) := by
  have hpw := pw_r q hq i hi
  have hle : F q (pw q i) ≤ 6 := b_ok_le (RX_b h hq) (by omega)
  unfold mL_isPlayerSo_115
  rw [if_neg (by decide), show nI i + 1 = nI (i + 1) from nI_1 i]
  by_cases c : F q (pw q i) = 0
  · rw [if_pos (show nI (F q (pw q i)) = 0 by rw [c]; exact nI_0)]
  · have hz : F (1 - q) (pw (1 - q) i) = 0 := by
      have := RX_free h hq (w := pw q i) hpw.1 hpw.2.1
      rw [hpw.2.2] at this
      rcases this with e | e
      · exact absurd e c
      · exact e
    rw [if_neg (show ¬ nI (F q (pw q i)) = 0 from nI_ne0 (by omega) (by omega)), show (1 : Int32) - nI q = nI (1 - q) from r_1p hq, k_bd_some (q_piecesOn h (show 1 - q < 2 by omega) hi), hz, if_pos nI_0]
theorem p_99 (h : RX x p F ds ph) {q i t best : Nat} (hq : q < 2) (hi : i < 16) (ht : t < 100) (hb : best < 100) {k : K36} {l2 l3 l4 : Int32} : mL_isPlayerSo_99 x (nI q) k (nI t) l2 l3 l4 (nI best) true (nI i) (nI (F q (pw q i))) = k l2 l3 l4 (nI (Nat.max best t)) (nI t) true (nI (i + 1)) := by
  unfold mL_isPlayerSo_99
  by_cases c : t ≤ best
  · rw [if_pos (nI_le c (by omega)), show Nat.max best t = best from Nat.max_eq_left c]
    exact p_115 h hq hi
  · rw [if_neg (nI_ge (by omega) (by omega)), show Nat.max best t = t from Nat.max_eq_right (by omega)]
    exact p_115 h hq hi
theorem p_82 (h : RX x p F ds ph) {q i len best c : Nat} (hq : q < 2) (hi : i < 16) (ht : len < 90) (hb : best < 100) {k : K36} {l2 l3 : Int32} {t0 : Bool} : mL_isPlayerSo_82 x (nI q) k t0 (nI c) l2 l3 (nI best) (nI len) true (nI i) (nI (F q (pw q i))) = k l2 l3 (nI c + k_b t0) (nI (Nat.max best (if p_B F q i = true then len + 1 else 0))) (nI (if p_B F q i = true then len + 1 else 0)) true (nI (i + 1)) := by
  have hle : F q (pw q i) ≤ 6 := b_ok_le (RX_b h hq) (by have := pw_r q hq i hi; omega)
  unfold mL_isPlayerSo_82
  by_cases c : 2 ≤ F q (pw q i)
  · have hB : p_B F q i = true := decide_eq_true c
    rw [if_neg (show ¬ nI (F q (pw q i)) ≤ 1 from nI_ge (a := 1) (by omega) (by omega)), if_pos hB, show nI len + 1 = nI (len + 1) from nI_1 len]
    exact p_99 h hq hi (by omega) hb
  · have hB : ¬ p_B F q i = true := fun e => c (of_decide_eq_true e)
    rw [if_pos (show nI (F q (pw q i)) ≤ 1 from nI_le (b := 1) (by omega) (by omega)), if_neg hB]
    exact p_99 (t := 0) h hq hi (by omega) hb
theorem p_36 (h : RX x p F ds ph) {q : Nat} (hq : q < 2) : ∀ (m i fu a b c len best : Nat), i + m = 16 → m < fu → g_wi (p_B F q) i len best →
    ∃ best', g_mw (p_B F q) 16 best' ∧ k_fix (fun _ _ _ _ _ _ _ => none) (mL_isPlayerSo_36 x (nI q)) fu (nI a) (nI b) (nI c) (nI best) (nI len) true (nI i) = k_fix (fun _ _ _ _ _ _ _ => none) (mL_isPlayerSo_158 x (nI q)) k_F (nI (a + g_sum (fun i => F q (pw q i)) i m)) (nI (b + g_sum (fun i => pw q i * F q (pw q i)) i m)) (nI (c + g_sum (fun i => if F q (pw q i) = 1 then 1 else 0) i m)) (nI best') true 0 1 := by
  intro m
  induction m with
  | zero =>
    intro i fu a b c len best hi hfu hw
    obtain rfl : i = 16 := by omega
    refine ⟨best, hw.2, ?_⟩
    rw [k_fix1 hfu, mL_isPlayerSo_36, if_pos (by decide)]
    rfl
  | succ m ih =>
    intro i fu a b c len best hi hfu hw
    have hlen := hw.1.1
    have hbest := g_mw_le hw.2
    have hle : F q (pw q i) ≤ 6 := b_ok_le (RX_b h hq) (by have := pw_r q hq i (by omega); omega)
    obtain ⟨best', e1, e2⟩ := ih (i + 1) (fu - 1) (a + F q (pw q i)) (b + pw q i * F q (pw q i)) (c + if F q (pw q i) = 1 then 1 else 0) _ _ (by omega) (by omega) (g_wi_s hw)
    refine ⟨best', e1, ?_⟩
    have em : nI (F q (pw q i)) * nI (pw q i) = nI (pw q i * F q (pw q i)) := by rw [pk_mul, Nat.mul_comm]
    rw [k_fix1 (by omega), mL_isPlayerSo_36, if_neg (show ¬ (16 : Int32) ≤ nI i from nI_ge (a := i) (b := 16) (by omega) (by omega)), k_bd_some (q_piecesOn h hq (by omega)), k_bd_some (l_wayY q hq i (by omega)), em, nI_add, nI_add]
    have fin : ∀ t0 : Bool, nI c + k_b t0 = nI (c + if F q (pw q i) = 1 then 1 else 0) → mL_isPlayerSo_82 x (nI q) (k_fix (fun _ _ _ _ _ _ _ => none) (mL_isPlayerSo_36 x (nI q)) (fu - 1)) t0 (nI c) (nI (a + F q (pw q i))) (nI (b + pw q i * F q (pw q i))) (nI best) (nI len) true (nI i) (nI (F q (pw q i))) = k_fix (fun _ _ _ _ _ _ _ => none) (mL_isPlayerSo_158 x (nI q)) k_F (nI (a + g_sum (fun i => F q (pw q i)) i (m + 1))) (nI (b + g_sum (fun i => pw q i * F q (pw q i)) i (m + 1))) (nI (c + g_sum (fun i => if F q (pw q i) = 1 then 1 else 0) i (m + 1))) (nI best') true 0 1 := by
      intro t0 ht
      rw [p_82 h hq (by omega) (by omega) (by omega), ht, e2]
      have g1 : a + F q (pw q i) + g_sum (fun i => F q (pw q i)) (i + 1) m = a + g_sum (fun i => F q (pw q i)) i (m + 1) := Nat.add_assoc _ _ _
      have g2 : b + pw q i * F q (pw q i) + g_sum (fun i => pw q i * F q (pw q i)) (i + 1) m = b + g_sum (fun i => pw q i * F q (pw q i)) i (m + 1) := Nat.add_assoc _ _ _
      have g3 : c + (if F q (pw q i) = 1 then 1 else 0) + g_sum (fun i => if F q (pw q i) = 1 then 1 else 0) (i + 1) m = c + g_sum (fun i => if F q (pw q i) = 1 then 1 else 0) i (m + 1) := Nat.add_assoc _ _ _
      rw [g1, g2, g3]
    by_cases c1 : F q (pw q i) = 1
    · rw [if_pos (show nI (F q (pw q i)) = 1 by rw [c1]; exact kn_1.symm)]
      exact fin true (by rw [if_pos c1]; exact nI_1 c)
    · rw [if_neg (show ¬ nI (F q (pw q i)) = 1 from fun e => c1 ((nI_eq (b := 1) (by omega) (by omega)).mp e))]
      exact fin false (by rw [if_neg c1]; exact k_ad0 (nI c))
theorem p_158 (h : RX x p F ds ph) {q best : Nat} (hq : q < 2) (hw : g_mw (p_B F q) 16 best) {l2 l3 l4 : Int32} (e2 : l2 = 6) (e3 : nI (g_pip (F q)) = l3) (e4 : nI (g_blot (F q)) = l4) : ∀ (m d fu c : Nat), 1 ≤ d → d + m = 7 → m < fu → c + g_sum (fun d => if 2 ≤ F (1 - q) d then 1 else 0) d m = g_bar (F (1 - q)) → k_fix (fun _ _ _ _ _ _ _ => none) (mL_isPlayerSo_158 x (nI q)) fu l2 l3 l4 (nI best) true (nI c) (nI d) = some true := by
  intro m
  induction m with
  | zero =>
    intro d fu c hd1 hd hfu hc
    obtain rfl : d = 7 := by omega
    have hc : c + 0 = g_bar (F (1 - q)) := hc
    obtain rfl : c = g_bar (F (1 - q)) := by omega
    obtain ⟨r, er, hr⟩ := q_blockade h hq
    obtain rfl : r = best := g_mw_uniq (p_wall hq hr) hw
    have hb := g_bar_le (g := F (1 - q))
    have hb2 : g_bar (F (1 - q)) * g_bar (F (1 - q)) ≤ 6 * 6 := Nat.mul_le_mul hb hb
    have e36 : nI (36 - g_bar (F (1 - q)) * g_bar (F (1 - q))) = 36 - nI (g_bar (F (1 - q))) * nI (g_bar (F (1 - q))) := by
      rw [pk_mul]; exact (pk_sub (a := 36) hb2).symm
    rw [k_fix1 hfu, mL_isPlayerSo_158, if_pos (by decide), if_neg (by decide), if_pos e2, k_bd_some (q_pips h hq), if_pos e3, k_bd_some (q_blots h hq), if_pos e4, k_bd_some er, if_pos rfl, k_bd_some (q_entering h hq), if_pos e36]
  | succ m ih =>
    intro d fu c hd1 hd hfu hc
    have hc : c + ((if 2 ≤ F (1 - q) d then 1 else 0) + g_sum (fun d => if 2 ≤ F (1 - q) d then 1 else 0) (d + 1) m) = g_bar (F (1 - q)) := hc
    have hle : F (1 - q) d ≤ 6 := b_ok_le (RX_b h (show 1 - q < 2 by omega)) (by omega)
    have et : mL_target (nI q) (-1) (nI d) = some (pl q (17 - d)) := by
      rw [show (-1 : Int32) = pl q 17 from pl_bar q hq]
      exact l_target q hq 17 (by omega) d (by omega) ⟨by omega, hd1⟩
    have eo : XR_piecesOn x (1 - nI q) (pl q (17 - d)) = some (nI (F (1 - q) d)) := by
      rw [q_piecesO h hq (by omega) (by omega), show 17 - (17 - d) = d by omega]
    rw [k_fix1 (by omega), mL_isPlayerSo_158, if_neg (show ¬ (7 : Int32) ≤ nI d from nI_ge (a := d) (b := 7) (by omega) (by omega)), k_bd_some et, k_bd_some eo, show nI d + 1 = nI (d + 1) from nI_1 d]
    by_cases c1 : 2 ≤ F (1 - q) d
    · rw [if_pos c1] at hc
      rw [if_neg (show ¬ nI (F (1 - q) d) ≤ 1 from nI_ge (a := 1) (by omega) (by omega)), show nI c + 1 = nI (c + 1) from nI_1 c]
      exact ih (d + 1) _ _ (by omega) (by omega) (by omega) (by omega)
    · rw [if_neg c1] at hc
      rw [if_pos (show nI (F (1 - q) d) ≤ 1 from nI_le (b := 1) (by omega) (by omega)), show nI c + 0 = nI c from k_ad0 (nI c)]
      exact ih (d + 1) _ _ (by omega) (by omega) (by omega) (by omega)
theorem t_player {x : XT} (h : x_inv x) {q : Nat} (hq : q < 2) : mL_isPlayerSo x (nI q) = some true := by
  obtain ⟨p, F, ds, ph, h, -⟩ := h
  obtain ⟨best, e1, e2⟩ := p_36 h hq 16 0 k_F (F q 17 + F q 0) (17 * F q 17) 0 0 0 (by omega) (by decide) g_wi_0
  have em : (17 : Int32) * nI (F q 17) = nI (17 * F q 17) := pk_mul 17 (F q 17)
  have s1 : F q 17 + F q 0 + g_sum (fun i => F q (pw q i)) 0 16 = 6 := by rw [g_sum_pw hq (F q)]; exact b_sum6 (RX_b h hq)
  have s2 : 17 * F q 17 + g_sum (fun i => pw q i * F q (pw q i)) 0 16 = g_pip (F q) := by rw [g_sum_pw hq (fun w => w * F q w)]; exact pip_sum
  have s3 : 0 + g_sum (fun i => if F q (pw q i) = 1 then 1 else 0) 0 16 = g_blot (F q) := by rw [g_sum_pw hq (fun w => if F q w = 1 then 1 else 0), Nat.zero_add]; rfl
  have e3 := p_158 h hq e1 (l2 := nI 6) (l3 := nI (g_pip (F q))) (l4 := nI (g_blot (F q))) kn_6.symm rfl rfl 6 1 k_F 0 (by omega) (by omega) (by decide) (Nat.zero_add _)
  rw [s1, s2, s3] at e2
  unfold mL_isPlayerSo
  rw [k_bd_some (q_onBar h hq), k_bd_some (q_borneOff h hq), k_bd_some (q_onBar h hq), nI_add, em]
  rw [nI_0] at e2 e3
  exact e2.trans e3
end QP
