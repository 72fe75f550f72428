/-! the digest -/
def mx (h v : Int64) : Int64 := 31 * h + v
theorem d_mx (h v : Int64) : mX10_mix h v = some (mx h v) ∧ mX9_added h v = some (mx h v) := ⟨rfl, rfl⟩
def t_I (n : Nat) : Int64 := Int32.toInt64 (nI n)
/-- dice, one by one -/
def df (ds : List Nat) : Nat → Nat → Int64 → Int64
  | _, 0, H => H
  | i, n + 1, H => df ds (i + 1) n (mx H (t_I (ds.getD i 0)))
/-- points, one by one -/
def pf (F : Nat → Nat → Nat) (q : Nat) : Nat → Nat → Int64 → Int64
  | _, 0, H => H
  | x, n + 1, H => pf F q (x + 1) n (mx H (t_I (F q (pw q x))))
/-- shots, one by one -/
def sf (F : Nat → Nat → Nat) : Nat → Nat → Int64 → Int64
  | _, 0, H => H
  | x, n + 1, H => sf F (x + 1) n (mx (mx H (t_I (g_sh F x))) (t_I (g_sh F x)))
/-- signs, one by one -/
def tf (c : Nat → Nat) : Nat → Nat → Int64 → Int64
  | _, 0, H => H
  | i, n + 1, H => tf c (i + 1) n (mx H (t_I (c i)))
def ph_ (F : Nat → Nat → Nat) (q w : Nat) (sc hi : Int32) (H : Int64) : Int64 := pf F q 0 16 (mx (mx (mx (mx (mx (mx (mx (mx H (t_I (F q 17))) (t_I (F q 0))) (t_I (g_pip (F q)))) (t_I (g_blot (F q)))) (t_I w)) (Int32.toInt64 sc)) (Int32.toInt64 hi)) (t_I (36 - g_bar (F (1 - q)) * g_bar (F (1 - q)))))
def tu_ (ds : List Nat) (mv phs stk cub : Int32) (H : Int64) : Int64 := mx (mx (df ds 0 ds.length (mx (mx (mx H (Int32.toInt64 mv)) (Int32.toInt64 phs)) (t_I ds.length))) (Int32.toInt64 stk)) (Int32.toInt64 cub)
/-! the class -/
theorem x_turn {ds : List Nat} {mv phs stk cub : Int32} {H : Int64} (hds : ds ∈ d_all) : mX9_addTurn mv phs (d_I ds) stk cub H = some (tu_ ds mv phs stk cub H) := by
  have hc := d_count ds hds
  have hl := d_len ds hds
  have key : ∀ (n i F : Nat) (K : Int64), i + n = ds.length → n < F → k_fix (fun _ _ => none) (mX9_addTurn_45 mv phs (d_I ds) stk cub H) F K (nI i) = some (mx (mx (df ds i n K) (Int32.toInt64 stk)) (Int32.toInt64 cub)) := by
    intro n
    induction n with
    | zero =>
      intro i F K hi hF
      obtain rfl : i = ds.length := by omega
      rw [k_fix1 hF, mX9_addTurn_45, k_bd_some hc, if_pos (nI_le (Nat.le_refl _) (by omega)), k_bd_some (d_mx _ _).2, k_bd_some (d_mx _ _).2]
      rfl
    | succ n ih =>
      intro i F K hi hF
      rw [k_fix1 (by omega), mX9_addTurn_45, k_bd_some hc, if_neg (nI_ge (by omega) (by omega)), k_bd_some (d_at ds hds i (by omega)), k_bd_some (d_mx _ _).2, nI_1, ih (i + 1) (F - 1) _ (by omega) (by omega)]
      rfl
  unfold mX9_addTurn
  rw [k_bd_some (d_mx _ _).2, k_bd_some (d_mx _ _).2, k_bd_some hc, k_bd_some (d_mx _ _).2]
  have e := key ds.length 0 k_F (mx (mx (mx H (Int32.toInt64 mv)) (Int32.toInt64 phs)) (Int32.toInt64 (nI ds.length))) (by omega) (by generalize hk : k_F = F; have : F = 4096 := hk.symm; omega)
  rw [nI_0] at e
  exact e
theorem x_player {F : Nat → Nat → Nat} {q w : Nat} {sc0 sc1 h0 h1 : Int32} {H : Int64} (hq : q < 2) (ho : g_ok (F 0, F 1)) (ho' : g_ok (F 1, F 0)) (hw : mX3_longestWall (b_L (F q)) = some (nI w)) : mX9_addPlayer (b_L (F 0)) (b_L (F 1)) sc0 sc1 h0 h1 H (nI q) = some (ph_ F q w (if q = 0 then sc0 else sc1) (if q = 0 then h0 else h1) H) := by
  have hok := ok_q hq ho ho'
  have key : ∀ (n x M : Nat) (K : Int64), x + n = 16 → n < M → k_fix (fun _ _ => none) (mX9_addPlayer_133 (b_L (F 0)) (b_L (F 1)) sc0 sc1 h0 h1 H (nI q)) M K (nI x) = some (pf F q x n K) := by
    intro n
    induction n with
    | zero =>
      intro x M K hx hM
      obtain rfl : x = 16 := by omega
      rw [k_fix1 hM, mX9_addPlayer_133, if_pos (show (16 : Int32) ≤ nI 16 by decide)]
      rfl
    | succ n ih =>
      intro x M K hx hM
      rw [k_fix1 (by omega), mX9_addPlayer_133, if_neg (show ¬ (16 : Int32) ≤ nI x from nI_ge (a := x) (b := 16) (by omega) (by omega)), k_bd_some (c_cnt hq (by omega) ho ho'), k_bd_some (d_mx _ _).2, nI_1, ih (x + 1) (M - 1) _ (by omega) (by omega)]
      rfl
  have e17 : mX3_on (b_L (F q)) 17 = some (nI (F q 17)) := b_on (w := 17) hok.1 (by omega)
  have e0 : mX3_on (b_L (F q)) 0 = some (nI (F q 0)) := b_on (w := 0) hok.1 (by omega)
  have ep := c_pip (f := F q) hok.1
  have eb := c_blot (f := F q) hok.1
  have ee := c_enter (g := F (1 - q)) hok.2.1
  have s1 := (sc_1 (a := sc0) (b := sc1) hq).1
  have s2 := (sc_1 (a := h0) (b := h1) hq).2
  unfold mX9_addPlayer
  rw [k_bd_some (c_po hq), k_bd_some e17, k_bd_some (d_mx _ _).2, k_bd_some e0, k_bd_some (d_mx _ _).2, k_bd_some ep, k_bd_some (d_mx _ _).2, k_bd_some eb, k_bd_some (d_mx _ _).2, k_bd_some hw, k_bd_some (d_mx _ _).2, k_bd_some s1, k_bd_some (d_mx _ _).2, k_bd_some s2, k_bd_some (d_mx _ _).2, show (1 : Int32) - nI q = nI (1 - q) from r_1p hq, k_bd_some (c_po (show 1 - q < 2 by omega)), k_bd_some ee, k_bd_some (d_mx _ _).2]
  have e := key 16 0 k_F (mx (mx (mx (mx (mx (mx (mx (mx H (t_I (F q 17))) (t_I (F q 0))) (t_I (g_pip (F q)))) (t_I (g_blot (F q)))) (t_I w)) (Int32.toInt64 (if q = 0 then sc0 else sc1))) (Int32.toInt64 (if q = 0 then h0 else h1))) (t_I (36 - g_bar (F (1 - q)) * g_bar (F (1 - q))))) (by omega) (by decide)
  rw [nI_0] at e
  exact e
theorem x_text {sg : Nat → Int32} {c : Nat → Nat} {n : Nat} {H : Int64} (h : TX sg c n) : mX9_addText sg (nI n) H = some (tf c 0 n (mx H (t_I n))) := by
  have hn := h.1
  have key : ∀ (k i F : Nat) (K : Int64), i + k = n → k < F → k_fix (fun _ _ => none) (mX9_addText_16 sg (nI n) H) F K (nI i) = some (tf c i k K) := by
    intro k
    induction k with
    | zero =>
      intro i F K hi hF
      obtain rfl : i = n := by omega
      rw [k_fix1 hF, mX9_addText_16, if_pos (nI_le (Nat.le_refl _) (by omega))]
      rfl
    | succ k ih =>
      intro i F K hi hF
      rw [k_fix1 (by omega), mX9_addText_16, if_neg (nI_ge (by omega) (by omega)), k_bd_some (t_at h (by omega)), k_bd_some (d_mx _ _).2, nI_1, ih (i + 1) (F - 1) _ (by omega) (by omega)]
      rfl
  unfold mX9_addText
  rw [k_bd_some (d_mx _ _).2]
  have e := key n 0 k_F (mx H (t_I n)) (by omega) (by generalize hk : k_F = F; have : F = 4096 := hk.symm; omega)
  rw [nI_0] at e
  exact e
/-- behind the shots -/
def en_ (st : Bool) (sp : Int32) (bits : Int64) (c : Nat → Nat) (n : Nat) (H : Int64) : Int64 := tf c 0 n (mx (mx (if st = true then mx (mx H (t_I 1)) (Int32.toInt64 sp) else mx H (t_I 0)) bits) (t_I n))
theorem x_end {cnt mv phs di stk cub sc0 sc1 h0 h1 : Int32} {P0 P1 : Int64} {st : Bool} {sp : Int32} {sg : Nat → Int32} {c : Nat → Nat} {n : Nat} {r : UInt64} {bits H : Int64} (h : TX sg c n) (hr : mX9_shareOfMover mv P0 P1 = some r) (hb : mX9_bitsOf r = some bits) : (if (k_b st) = 0 then (mX9_digest_228 cnt mv phs di stk cub P0 P1 sc0 sc1 h0 h1 st sp sg (nI n) 0 H) else (mX9_digest_228 cnt mv phs di stk cub P0 P1 sc0 sc1 h0 h1 st sp sg (nI n) 1 H)) = some (en_ st sp bits c n H) := by
  have e258 : ∀ K, mX9_digest_258 cnt mv phs di stk cub P0 P1 sc0 sc1 h0 h1 st sp sg (nI n) K = some (tf c 0 n (mx (mx K bits) (t_I n))) := fun K => by
    unfold mX9_digest_258
    rw [k_bd_some hr, k_bd_some hb, k_bd_some (d_mx _ _).2, k_bd_some (x_text h)]
  unfold mX9_digest_228
  cases st
  · rw [if_pos (show k_b false = 0 from rfl), k_bd_some (d_mx _ _).2, if_pos (show k_b false = 0 from rfl), e258]
    rfl
  · rw [if_neg (show ¬ k_b true = 0 by decide), k_bd_some (d_mx _ _).2, if_neg (show ¬ k_b true = 0 by decide), k_bd_some (d_mx _ _).2, e258]
    rfl
theorem x_170 {F : Nat → Nat → Nat} {cnt mv phs di stk cub sc0 sc1 h0 h1 : Int32} {st : Bool} {sp : Int32} {sg : Nat → Int32} {c : Nat → Nat} {n : Nat} {r : UInt64} {bits : Int64} (h : TX sg c n) (ho : g_ok (F 0, F 1)) (ho' : g_ok (F 1, F 0)) (hr : mX9_shareOfMover mv (b_L (F 0)) (b_L (F 1)) = some r) (hb : mX9_bitsOf r = some bits) : ∀ (k x M : Nat) (H : Int64), x + k = 16 → k < M → k_fix (fun _ _ => none) (mX9_digest_170 cnt mv phs di stk cub (b_L (F 0)) (b_L (F 1)) sc0 sc1 h0 h1 st sp sg (nI n)) M H (nI x) = some (en_ st sp bits c n (sf F x k H)) := by
  intro k
  induction k with
  | zero =>
    intro x M H hx hM
    obtain rfl : x = 16 := by omega
    rw [k_fix1 hM, mX9_digest_170, if_pos (show (16 : Int32) ≤ nI 16 by decide), x_end h hr hb]
    rfl
  | succ k ih =>
    intro x M H hx hM
    rw [k_fix1 (by omega), mX9_digest_170, if_neg (show ¬ (16 : Int32) ≤ nI x from nI_ge (a := x) (b := 16) (by omega) (by omega)), k_bd_some (c_shotsR (by omega) ho ho'), k_bd_some (d_mx _ _).2, k_bd_some (c_shotsK (by omega) ho ho'), k_bd_some (d_mx _ _).2, nI_1, ih (x + 1) (M - 1) _ (by omega) (by omega)]
    rfl
