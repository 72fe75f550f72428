/-! places, questions -/
def tr (p x : Nat) : Nat := if p = 0 then 17 - x else if x = 0 then 17 else if x = 17 then 0 else x
def qm (q : Nat) : Int32 := nI q - nI 1
def pl (p w : Nat) : Int32 := qm (tr p w)
theorem tr_lt : ∀ p, p < 2 → ∀ w, w < 18 → tr p w < 18 := by decide +kernel
theorem tr_tr : ∀ p, p < 2 → ∀ w, w < 18 → tr p (tr p w) = w := by decide +kernel
theorem tr_17 : ∀ p, p < 2 → ∀ w, w < 18 → (tr p w = 17 ↔ w = 0) := by decide +kernel
theorem pl_bar : ∀ p, p < 2 → -nI 1 = pl p 17 := by decide +kernel
theorem pl_off : ∀ p, p < 2 → nI 16 = pl p 0 := by decide +kernel
theorem pl_eq : ∀ p, p < 2 → ∀ w, w < 18 → ∀ v, v < 18 → (pl p w = pl p v ↔ w = v) := by decide +kernel
theorem pl_opp : ∀ p, p < 2 → ∀ v, v < 17 → 1 ≤ v → pl p v = pl (1 - p) (17 - v) := by decide +kernel
theorem qm_0 : qm 0 = -nI 1 := by decide +kernel
theorem qm_s (q : Nat) : qm q + nI 1 = qm (q + 1) := by
  unfold qm
  rw [pk_sub (a := q + 1) (b := 1) (by omega), Int32.sub_add_cancel]
  rfl
theorem qm_pl {p q : Nat} (hp : p < 2) (hq : q < 18) : qm q = pl p (tr p q) := by unfold pl; rw [tr_tr p hp q hq]
theorem qm_end : ∀ q, q < 18 → (nI 16 ≤ qm q ↔ q = 17) := by decide +kernel
theorem r_1p {p : Nat} (hp : p < 2) : nI 1 - nI p = nI (1 - p) := pk_sub (by omega)
def g_hit (P : GP) (d w : Nat) : Bool := decide (d < w ∧ P.2 (17 - (w - d)) = 1)
theorem tr_q {p q : Nat} (hp : p < 2) (hq : q < 17) : 1 ≤ tr p q ∧ tr p q ≤ 17 := by
  have ht := tr_lt p hp q (by omega)
  have h0 : tr p q ≠ 0 := fun z => by have := tr_tr p hp q (by omega); rw [z] at this; have := (tr_17 p hp 0 (by omega)).mpr rfl; omega
  omega
theorem pl_pt : ∀ p, p < 2 → ∀ x, x < 16 → nI x = pl p (pw p x) := by decide +kernel
theorem pw_r : ∀ p, p < 2 → ∀ x, x < 16 → 1 ≤ pw p x ∧ pw p x ≤ 16 ∧ 17 - pw p x = pw (1 - p) x := by decide +kernel
theorem g_sum_tr {p : Nat} (hp : p < 2) (G : Nat → Nat) : g_sum (fun q => G (tr p q)) 0 17 = g_sum G 1 17 := by
  rcases (by omega : p = 0 ∨ p = 1) with e | e <;> subst e <;> simp [g_sum, tr] <;> omega
theorem g_sum_tr1 {p : Nat} (hp : p < 2) (G : Nat → Nat) : g_sum (fun q => G (tr p q)) 1 16 = g_sum G 1 16 := by
  rcases (by omega : p = 0 ∨ p = 1) with e | e <;> subst e <;> simp [g_sum, tr] <;> omega
def g_c0 (ds : List Nat) (P : GP) (d w : Nat) : Nat := if g_re ds P d w = 0 then 1 else 0
theorem g_sum_add (F G : Nat → Nat) : ∀ (n a : Nat), g_sum (fun i => F i + G i) a n = g_sum F a n + g_sum G a n
  | 0, _ => rfl
  | n + 1, a => by
    show F a + G a + g_sum (fun i => F i + G i) (a + 1) n = F a + g_sum F (a + 1) n + (G a + g_sum G (a + 1) n)
    rw [g_sum_add F G n (a + 1)]; omega
theorem g_sum_zero : ∀ (n a : Nat), g_sum (fun _ => 0) a n = 0
  | 0, _ => rfl
  | n + 1, a => by
    show 0 + g_sum (fun _ => 0) (a + 1) n = 0
    rw [g_sum_zero n (a + 1)]
theorem g_sum_swap (F : Nat → Nat → Nat) (n a : Nat) : ∀ (m b : Nat), g_sum (fun i => g_sum (fun j => F i j) b m) a n = g_sum (fun j => g_sum (fun i => F i j) a n) b m
  | 0, b => g_sum_zero n a
  | m + 1, b => by
    show g_sum (fun i => F i b + g_sum (fun j => F i j) (b + 1) m) a n = g_sum (fun i => F i b) a n + _
    rw [g_sum_add, g_sum_swap F n a m (b + 1)]
theorem g_cw_sum {ds : List Nat} {P : GP} {w : Nat} (hds : ds ∈ d_all) : g_sum (fun d => g_c0 ds P d w) 1 6 = g_cw ds P w (d_ks ds) := by
  have z : ∀ d, d ∉ ds → g_c0 ds P d w = 0 := fun d h => by
    unfold g_c0 g_re
    rw [if_neg (c := d ∈ ds) h]; rfl
  have e : ∀ l, g_cw ds P w l = (l.map (fun d => g_c0 ds P d w)).sum := by
    intro l
    induction l with
    | nil => rfl
    | cons d l ih => show g_c0 ds P d w + g_cw ds P w l = _; rw [ih]; rfl
  rw [e]
  rcases d_shape ds hds with ⟨-, u2, u3, -⟩ | ⟨-, u2, -⟩
  · obtain ⟨a, ha⟩ : ∃ a, a = ds.getD 0 0 := ⟨_, rfl⟩
    obtain ⟨b, hb⟩ : ∃ b, b = ds.getD 1 0 := ⟨_, rfl⟩
    rw [← ha, ← hb] at u2 u3
    obtain ⟨ra1, ra2⟩ := d_range ds hds a (by rw [u2]; exact List.mem_cons_self)
    obtain ⟨rb1, rb2⟩ := d_range ds hds b (by rw [u2]; exact List.mem_cons_of_mem _ List.mem_cons_self)
    have hk : d_ks ds = [a, b] := by rw [u2]; exact d_ks_two u3
    have z2 : ∀ d, d ≠ a → d ≠ b → g_c0 ds P d w = 0 := fun d h1 h2 => z d (by rw [u2]; simp [h1, h2])
    rw [hk]
    generalize g_c0 ds P = C at z2
    have hs : ∀ x, x < 7 → 0 < x → x = 1 ∨ x = 2 ∨ x = 3 ∨ x = 4 ∨ x = 5 ∨ x = 6 := fun x _ _ => by omega
    rcases hs a ra2 ra1 with q | q | q | q | q | q <;> rcases hs b rb2 rb1 with q' | q' | q' | q' | q' | q' <;> subst q <;> subst q' <;> first | exact absurd rfl u3 | (simp [g_sum, z2, Nat.add_comm])
  · by_cases c : ds = []
    · subst c
      rw [show d_ks [] = [] from rfl]
      simp [g_sum, z]
    · obtain ⟨d, hd⟩ : ∃ d, d = ds.getD 0 0 := ⟨_, rfl⟩
      have hlen : 0 < ds.length := List.length_pos_iff.mpr c
      have hmem : d ∈ ds := by
        rw [hd, List.getD_eq_getElem?_getD, List.getElem?_eq_getElem hlen]
        exact List.getElem_mem hlen
      obtain ⟨r1, r2⟩ := d_range ds hds d hmem
      rw [← hd] at u2
      have hk : d_ks ds = [d] := by
        have := d_ks_rep d (ds.length - 1)
        rwa [show ds.length - 1 + 1 = ds.length by omega, ← u2] at this
      have z2 : ∀ e, e ≠ d → g_c0 ds P e w = 0 := fun e h1 => z e (by rw [u2]; intro h; exact h1 (List.eq_of_mem_replicate h))
      rw [hk]
      generalize g_c0 ds P = C at z2
      have hs : ∀ x, x < 7 → 0 < x → x = 1 ∨ x = 2 ∨ x = 3 ∨ x = 4 ∨ x = 5 ∨ x = 6 := fun x _ _ => by omega
      rcases hs d r2 r1 with q | q | q | q | q | q <;> subst q <;> simp [g_sum, z2]
def g_poss (ds : List Nat) (P : GP) : Nat := g_sum (fun w => g_cw ds P w (d_ks ds)) 1 17
theorem pl_1 {q : Nat} (hq : q < 2) : mX9_isPlayer (nI q) = some true := by rcases (show q = 0 ∨ q = 1 by omega) with rfl | rfl <;> decide +kernel
theorem pt_1 : ∀ x, x < 16 → mX9_isPoint (nI x) = some true := by decide +kernel
theorem ok_q {F : Nat → Nat → Nat} {q : Nat} (hq : q < 2) (h0 : g_ok (F 0, F 1)) (h1 : g_ok (F 1, F 0)) : g_ok (F q, F (1 - q)) := by
  rcases (show q = 0 ∨ q = 1 by omega) with rfl | rfl
  · exact h0
  · exact h1
theorem c_on {F : Nat → Nat → Nat} {q w : Nat} (hq : q < 2) (h : g_ok (F q, F (1 - q))) (hw : w < 18) : mX3_on (b_L (F q)) (nI w) = some (nI (F q w)) := b_on h.1 hw
theorem c_way : ∀ q, q < 2 → ∀ x, x < 16 → mX1_wayOf (nI q) (nI x) = some (nI (pw q x)) := by decide +kernel
theorem pb_wayOf : ∀ p, p < 2 → ∀ w, w < 18 → mX1_wayOf (nI p) (pl p w) = some (nI w) := by decide +kernel
theorem pb_is : ∀ p, p < 2 → ∀ w, w < 18 → (1 ≤ w → mX9_isPointOrBar (pl p w) = some true) := by decide +kernel
theorem c_cnt {F : Nat → Nat → Nat} {q y : Nat} (hq : q < 2) (hy : y < 16) (ho : g_ok (F 0, F 1)) (ho' : g_ok (F 1, F 0)) : mX1_countAt (b_L (F 0)) (b_L (F 1)) (nI q) (nI y) = some (nI (F q (pw q y))) := by
  have h5 := pw_r q hq y hy
  unfold mX1_countAt
  rw [k_bd_some (show mX1_piecesOf (b_L (F 0)) (b_L (F 1)) (nI q) = some (b_L (F q)) from by rcases (show q = 0 ∨ q = 1 by omega) with rfl | rfl <;> rfl), k_bd_some (c_way q hq y hy), k_bd_some (c_on hq (ok_q hq ho ho') (by omega))]
theorem c_own {F : Nat → Nat → Nat} {y : Nat} (hy : y < 16) (ho : g_ok (F 0, F 1)) (ho' : g_ok (F 1, F 0)) : mX1_ownerOfBlot (b_L (F 0)) (b_L (F 1)) (nI y) = some (if F 0 (pw 0 y) = 1 then 0 else if F 1 (pw 1 y) = 1 then 1 else -1) := by
  have h0 := pw_r 0 (by omega) y hy
  have h1 := pw_r 1 (by omega) y hy
  have l0 : F 0 (pw 0 y) ≤ 6 := b_ok_le ho.1 (i := pw 0 y) (by omega)
  have l1 : F 1 (pw 1 y) ≤ 6 := b_ok_le ho'.1 (i := pw 1 y) (by omega)
  unfold mX1_ownerOfBlot
  rw [k_bd_some (show mX1_countAt (b_L (F 0)) (b_L (F 1)) 0 (nI y) = _ from c_cnt (q := 0) (by omega) hy ho ho')]
  by_cases e0 : F 0 (pw 0 y) = 1
  · rw [if_pos (show nI (F 0 (pw 0 y)) = 1 by rw [e0]; rfl), if_pos e0]
  · rw [if_neg (show ¬ nI (F 0 (pw 0 y)) = (1 : Int32) from fun h => e0 ((nI_eq (by omega) (by omega)).mp (show nI (F 0 (pw 0 y)) = nI 1 from h))), if_neg e0, k_bd_some (show mX1_countAt (b_L (F 0)) (b_L (F 1)) 1 (nI y) = _ from c_cnt (q := 1) (by omega) hy ho ho')]
    by_cases e1 : F 1 (pw 1 y) = 1
    · rw [if_pos (show nI (F 1 (pw 1 y)) = 1 by rw [e1]; rfl), if_pos e1]
    · rw [if_neg (show ¬ nI (F 1 (pw 1 y)) = (1 : Int32) from fun h => e1 ((nI_eq (by omega) (by omega)).mp (show nI (F 1 (pw 1 y)) = nI 1 from h))), if_neg e1]
theorem c_shotsR {F : Nat → Nat → Nat} {y : Nat} (hy : y < 16) (ho : g_ok (F 0, F 1)) (ho' : g_ok (F 1, F 0)) : mX9_shotsRollByRoll (b_L (F 0)) (b_L (F 1)) (nI y) = some (nI (g_sh F y)) := by
  have h0 := pw_r 0 (by omega) y hy
  have h1 := pw_r 1 (by omega) y hy
  unfold mX9_shotsRollByRoll g_sh
  rw [k_bd_some (c_own hy ho ho')]
  by_cases e0 : F 0 (pw 0 y) = 1
  · rw [if_pos e0, if_pos e0, if_pos (by decide)]
    rw [k_bd_some (show mX1_wayOf (1 - 0) (nI y) = _ from c_way 1 (by omega) y hy), k_bd_some (show mX1_piecesOf (b_L (F 0)) (b_L (F 1)) (1 - 0) = some (b_L (F 1)) from rfl), k_bd_some (show mX1_piecesOf (b_L (F 0)) (b_L (F 1)) 0 = some (b_L (F 0)) from rfl), k_bd_some (show mX6_rollByRoll (b_L (F 1)) (b_L (F 0)) (nI (pw 1 y)) = _ from c_rolls (P := (F 1, F 0)) ho' h1.1 h1.2.1), c_rolls_eq]
  · rw [if_neg e0, if_neg e0]
    by_cases e1 : F 1 (pw 1 y) = 1
    · rw [if_pos e1, if_pos e1, if_pos (by decide)]
      rw [k_bd_some (show mX1_wayOf (1 - 1) (nI y) = _ from c_way 0 (by omega) y hy), k_bd_some (show mX1_piecesOf (b_L (F 0)) (b_L (F 1)) (1 - 1) = some (b_L (F 0)) from rfl), k_bd_some (show mX1_piecesOf (b_L (F 0)) (b_L (F 1)) 1 = some (b_L (F 1)) from rfl), k_bd_some (show mX6_rollByRoll (b_L (F 0)) (b_L (F 1)) (nI (pw 0 y)) = _ from c_rolls (P := (F 0, F 1)) ho h0.1 h0.2.1), c_rolls_eq]
    · rw [if_neg e1, if_neg e1, if_neg (by decide)]; rfl
theorem c_shotsK {F : Nat → Nat → Nat} {y : Nat} (hy : y < 16) (ho : g_ok (F 0, F 1)) (ho' : g_ok (F 1, F 0)) : mX9_shotsKindByKind (b_L (F 0)) (b_L (F 1)) (nI y) = some (nI (g_sh F y)) := by
  have h0 := pw_r 0 (by omega) y hy
  have h1 := pw_r 1 (by omega) y hy
  unfold mX9_shotsKindByKind g_sh
  rw [k_bd_some (c_own hy ho ho')]
  by_cases e0 : F 0 (pw 0 y) = 1
  · rw [if_pos e0, if_pos e0, if_pos (by decide)]
    rw [k_bd_some (show mX1_wayOf (1 - 0) (nI y) = _ from c_way 1 (by omega) y hy), k_bd_some (show mX1_piecesOf (b_L (F 0)) (b_L (F 1)) (1 - 0) = some (b_L (F 1)) from rfl), k_bd_some (show mX1_piecesOf (b_L (F 0)) (b_L (F 1)) 0 = some (b_L (F 0)) from rfl), k_bd_some (show mX6_kindByKind (b_L (F 1)) (b_L (F 0)) (nI (pw 1 y)) = _ from c_kinds (P := (F 1, F 0)) ho' h1.1 h1.2.1), c_kinds_eq]
  · rw [if_neg e0, if_neg e0]
    by_cases e1 : F 1 (pw 1 y) = 1
    · rw [if_pos e1, if_pos e1, if_pos (by decide)]
      rw [k_bd_some (show mX1_wayOf (1 - 1) (nI y) = _ from c_way 0 (by omega) y hy), k_bd_some (show mX1_piecesOf (b_L (F 0)) (b_L (F 1)) (1 - 1) = some (b_L (F 0)) from rfl), k_bd_some (show mX1_piecesOf (b_L (F 0)) (b_L (F 1)) 1 = some (b_L (F 1)) from rfl), k_bd_some (show mX6_kindByKind (b_L (F 0)) (b_L (F 1)) (nI (pw 0 y)) = _ from c_kinds (P := (F 0, F 1)) ho h0.1 h0.2.1), c_kinds_eq]
    · rw [if_neg e1, if_neg e1, if_neg (by decide)]; rfl
theorem sc_1 {a b : Int32} {q : Nat} (hq : q < 2) : mX1_scoreOf a b (nI q) = some (if q = 0 then a else b) ∧ mX1_hitsOf a b (nI q) = some (if q = 0 then a else b) := by
  rcases (show q = 0 ∨ q = 1 by omega) with rfl | rfl <;> exact ⟨rfl, rfl⟩
theorem d_nil : ([] : List Nat) ∈ d_all := by decide +kernel
theorem nI_phs {ph : Nat} (h : ph < 4) (k : Nat) (hk : k < 4) : (nI ph = nI k) ↔ ph = k := nI_eq (by omega) (by omega)
theorem offered_iff {ph : Nat} (h : ph < 4) : mX1_isOffered (nI ph) = some (decide (ph = 2)) := by
  rcases (show ph = 0 ∨ ph = 1 ∨ ph = 2 ∨ ph = 3 by omega) with rfl | rfl | rfl | rfl <;> decide +kernel
theorem over_iff {ph : Nat} (h : ph < 4) : mX1_isOver (nI ph) = some (decide (ph = 3)) := by
  rcases (show ph = 0 ∨ ph = 1 ∨ ph = 2 ∨ ph = 3 by omega) with rfl | rfl | rfl | rfl <;> decide +kernel
theorem awaits_iff {ph : Nat} (h : ph < 4) : mX1_awaitsRoll (nI ph) = some (decide (ph = 0)) := by
  rcases (show ph = 0 ∨ ph = 1 ∨ ph = 2 ∨ ph = 3 by omega) with rfl | rfl | rfl | rfl <;> decide +kernel
theorem cub_of {p : Nat} (hp : p < 2) : nI (1 - p) = -1 ∨ nI (1 - p) = nI 0 ∨ nI (1 - p) = nI 1 := by
  rcases (show p = 0 ∨ p = 1 by omega) with rfl | rfl
  · exact Or.inr (Or.inr rfl)
  · exact Or.inr (Or.inl rfl)
def d_rol (a b : Nat) : List Nat := if a = b then [a, a, a, a] else [a, b]
def g_F0 (w : Nat) : Nat := if w = 16 ∨ w = 12 ∨ w = 9 then 2 else 0
theorem b_L0 : b_L g_F0 = 563087660810240 := by decide +kernel
theorem g_ok0 : g_ok (g_F0, g_F0) := ⟨(show b_sm g_F0 18 = 6 by decide +kernel), (show b_sm g_F0 18 = 6 by decide +kernel), fun i hi => ⟨if_neg (by omega), if_neg (by omega)⟩⟩
theorem g_re0 {ds : List Nat} {P : GP} {d w : Nat} (h : g_re ds P d w = 0) : d ∈ ds ∧ g_ban P.1 P.2 d w = 0 := by
  unfold g_re at h
  by_cases h1 : d ∈ ds
  · rw [if_pos h1] at h
    by_cases h2 : g_ban P.1 P.2 d w = 0
    · exact ⟨h1, h2⟩
    · rw [if_neg h2] at h; exact absurd h h2
  · rw [if_neg h1] at h; cases h
theorem g_re_lt {ds : List Nat} {P : GP} {d w : Nat} : g_re ds P d w < 7 := by
  have := g_ban_lt (f := P.1) (g := P.2) (d := d) (w := w)
  unfold g_re
  (repeat' split) <;> omega
theorem pip_le {f : Nat → Nat} (h : b_ok f) : g_pip f < 103 := by
  have h' : 0 + f 0 + f 1 + f 2 + f 3 + f 4 + f 5 + f 6 + f 7 + f 8 + f 9 + f 10 + f 11 + f 12 + f 13 + f 14 + f 15 + f 16 + f 17 = 6 := h
  show 1 * f 1 + (2 * f 2 + (3 * f 3 + (4 * f 4 + (5 * f 5 + (6 * f 6 + (7 * f 7 + (8 * f 8 + (9 * f 9 + (10 * f 10 + (11 * f 11 + (12 * f 12 + (13 * f 13 + (14 * f 14 + (15 * f 15 + (16 * f 16 + (17 * f 17 + 0)))))))))))))))) < 103
  omega
