/-! the reference's digest -/
abbrev DR := Int64 × (Nat → Int32) × (Nat → Int32) × Int32 × (Nat → Int32) × (Nat → Int64) × (Nat → Int64) × Int32 × (Nat → Int64) × (Nat → Int64) × (Nat → Int32) × Int64
abbrev dz12 : Int32 → (Nat → Int32) → (Nat → Int32) → Int32 → (Nat → Int32) → (Nat → Int64) → (Nat → Int64) → Int32 → (Nat → Int64) → (Nat → Int64) → (Nat → Int32) → Int64 → Option DR := fun _ _ _ _ _ _ _ _ _ _ _ _ => none
abbrev dz13 : Int32 → Int32 → (Nat → Int32) → (Nat → Int32) → Int32 → (Nat → Int32) → (Nat → Int64) → (Nat → Int64) → Int32 → (Nat → Int64) → (Nat → Int64) → (Nat → Int32) → Int64 → Option DR := fun _ _ _ _ _ _ _ _ _ _ _ _ _ => none
theorem y_387 {s as_ laid dice : Nat → Int32} {kn th many : Int32} {m t f0 f1 : Nat → Int64} {buf : Nat → Int32} {c : Nat → Nat} {n : Nat} (h : TX buf c n) : ∀ (k i F : Nat) (H : Int64), i + k = n → k < F → k_fix dz12 (mX10_digest_387 kn buf (nI n)) F (nI i) s as_ th laid m t many f0 f1 dice H = some (tf c i k H, s, as_, th, laid, m, t, many, f0, f1, dice, tf c i k H) := by
  have hn := h.1
  intro k
  induction k with
  | zero =>
    intro i F H hi hF
    obtain rfl : i = n := by omega
    rw [k_fix1 hF, mX10_digest_387, if_pos (nI_le (Nat.le_refl _) (by omega))]
    rfl
  | succ k ih =>
    intro i F H hi hF
    have hc := h.2 i (by omega)
    rw [k_fix1 (by omega), mX10_digest_387, if_neg (nI_ge (by omega) (by omega)), k_g_in (by omega) (by omega), nI_clamp (by omega), hc.2.2, k_bd_some (d_mx _ _).1, nI_1, ih (i + 1) (F - 1) _ (by omega) (by omega)]
    rfl
theorem y_360 {s as_ laid dice : Nat → Int32} {kn th many : Int32} {m t f0 f1 : Nat → Int64} {buf : Nat → Int32} {c : Nat → Nat} {n : Nat} {r : UInt64} {bits H : Int64} (h : TX buf c n) (hr : mX10_leading s = some r) (hb : mX10_bitsOf r 52 1023 = some bits) : mX10_digest_360 kn buf (nI n) s as_ th laid m t many f0 f1 dice H = some (tf c 0 n (mx (mx H bits) (t_I n)), s, as_, th, laid, m, t, many, f0, f1, dice, tf c 0 n (mx (mx H bits) (t_I n))) := by
  have hn := h.1
  unfold mX10_digest_360
  rw [k_bd_some hr, k_bd_some hb, k_bd_some (d_mx _ _).1, k_bd_some (d_mx _ _).1]
  have e := y_387 (s := s) (as_ := as_) (laid := laid) (dice := dice) (kn := kn) (th := th) (many := many) (m := m) (t := t) (f0 := f0) (f1 := f1) h n 0 k_F (mx (mx H bits) (Int32.toInt64 (nI n))) (by omega) (by generalize hk : k_F = F; have : F = 4096 := hk.symm; omega)
  rw [nI_0] at e
  exact e
theorem y_293 {s as_ dice : Nat → Int32} {kn th many : Int32} {m t f0 f1 : Nat → Int64} {buf : Nat → Int32} {c : Nat → Nat} {n : Nat} {r : UInt64} {bits : Int64} {F : Nat → Nat → Nat} {st : Bool} {sp : Int32} (h : TX buf c n) (h0 : RH s 0 (F 0)) (h1 : RH s 1 (F 1)) (ho : g_ok (F 0, F 1)) (ho' : g_ok (F 1, F 0)) (h49 : s 49 = if st = true then nI 1 else nI 0) (h50 : st = true → s 50 = sp) (hr : mX10_leading s = some r) (hb : mX10_bitsOf r 52 1023 = some bits) : ∀ (k x M : Nat) (laid : Nat → Int32) (H : Int64), x + k = 16 → k < M → ∃ laid', k_fix dz12 (mX10_digest_293 kn buf (nI n)) M (nI x) s as_ th laid m t many f0 f1 dice H = some (en_ st sp bits c n (sf F x k H), s, as_, th, laid', m, t, many, f0, f1, dice, en_ st sp bits c n (sf F x k H)) := by
  intro k
  induction k with
  | zero =>
    intro x M laid H hx hM
    obtain rfl : x = 16 := by omega
    refine ⟨laid, ?_⟩
    rw [k_fix1 hM, mX10_digest_293, if_pos (show (16 : Int32) ≤ nI 16 by decide), k_bd_some (d_mx _ _).1, h49]
    cases st
    · rw [if_neg (show ¬ false = true by decide), if_neg (show ¬ nI 0 = (1 : Int32) by decide), y_360 h hr hb]
      rfl
    · rw [if_pos rfl, if_pos (show nI 1 = (1 : Int32) from rfl), k_bd_some (d_mx _ _).1, h50 rfl, y_360 h hr hb]
      rfl
  | succ k ih =>
    intro x M laid H hx hM
    obtain ⟨l1, e1⟩ := r_shotsAt (laid := laid) (x := x) (by omega) h0 h1 ho ho'
    obtain ⟨l2, e2⟩ := r_shotsAt (laid := l1) (x := x) (by omega) h0 h1 ho ho'
    obtain ⟨l3, e3⟩ := ih (x + 1) (M - 1) l2 (mx (mx H (t_I (g_sh F x))) (t_I (g_sh F x))) (by omega) (by omega)
    refine ⟨l3, ?_⟩
    rw [k_fix1 (by omega), mX10_digest_293, if_neg (show ¬ (16 : Int32) ≤ nI x from nI_ge (a := x) (b := 16) (by omega) (by omega)), k_bd3_some e1, k_bd_some (d_mx _ _).1, k_bd3_some e2, k_bd_some (d_mx _ _).1, nI_1]
    exact e3
theorem y_262 {s as_ laid dice : Nat → Int32} {kn th many ln : Int32} {m t f0 f1 : Nat → Int64} {buf : Nat → Int32} {F : Nat → Nat → Nat} {q : Nat} {k164 : Int32 → (Nat → Int32) → (Nat → Int32) → Int32 → (Nat → Int32) → (Nat → Int64) → (Nat → Int64) → Int32 → (Nat → Int64) → (Nat → Int64) → (Nat → Int32) → Int64 → Option DR} (hq : q < 2) (hr : RH s q (F q)) : ∀ (k x M : Nat) (H : Int64), x + k = 16 → k < M → k_fix dz13 (mX10_digest_262 kn buf ln k164) M (nI q) (nI x) s as_ th laid m t many f0 f1 dice H = k164 (nI q + 1) s as_ th laid m t many f0 f1 dice (pf F q x k H) := by
  intro k
  induction k with
  | zero =>
    intro x M H hx hM
    obtain rfl : x = 16 := by omega
    rw [k_fix1 hM, mX10_digest_262, if_pos (show (16 : Int32) ≤ nI 16 by decide)]
    rfl
  | succ k ih =>
    intro x M H hx hM
    rw [k_fix1 (by omega), mX10_digest_262, if_neg (show ¬ (16 : Int32) ≤ nI x from nI_ge (a := x) (b := 16) (by omega) (by omega)), k_bd_some (r_atp hq (by omega) hr), k_bd_some (d_mx _ _).1, nI_1, ih (x + 1) (M - 1) _ (by omega) (by omega)]
    rfl
theorem y_164 {s as_ laid dice : Nat → Int32} {kn th many ln : Int32} {m t f0 f1 : Nat → Int64} {buf : Nat → Int32} {F : Nat → Nat → Nat} {q w : Nat} {H : Int64} {k164 : Int32 → (Nat → Int32) → (Nat → Int32) → Int32 → (Nat → Int32) → (Nat → Int64) → (Nat → Int64) → Int32 → (Nat → Int64) → (Nat → Int64) → (Nat → Int32) → Int64 → Option DR} (hq : q < 2) (h0 : RH s 0 (F 0)) (h1 : RH s 1 (F 1)) (ho : g_ok (F 0, F 1)) (ho' : g_ok (F 1, F 0)) (hw : mX10_wall s (nI q) = some (nI w)) : mX10_digest_164 kn buf ln k164 (nI q) s as_ th laid m t many f0 f1 dice H = k164 (nI q + 1) s as_ th laid m t many f0 f1 dice (ph_ F q w (s (45 + q)) (s (47 + q)) H) := by
  have hok := ok_q hq ho ho'
  have hr := RH_q hq h0 h1
  have hr1 := RH_q (show 1 - q < 2 by omega) h0 h1
  have e17 : mX10_at s (nI q) (-1) = some (nI (F q 17)) := by rw [show (-1 : Int32) = pl q 17 from pl_bar q hq, r_at hq (by omega), hr _ (by omega)]
  have e0 : mX10_at s (nI q) 16 = some (nI (F q 0)) := r_at0 hq hr
  have ep := r_pip hq hr
  have eb := r_blot hq hok.1 hr
  have ee := r_enters hq hok.2.1 hr1
  unfold mX10_digest_164
  rw [if_neg (show ¬ (2 : Int32) ≤ nI q from nI_ge (a := q) (b := 2) hq (by omega)), k_bd_some e17, k_bd_some (d_mx _ _).1, k_bd_some e0, k_bd_some (d_mx _ _).1, k_bd_some ep, k_bd_some (d_mx _ _).1, k_bd_some eb, k_bd_some (d_mx _ _).1, k_bd_some hw, k_bd_some (d_mx _ _).1, show (45 : Int32) + nI q = nI (45 + q) from nI_add 45 q, k_g_in (by omega) (by omega), nI_clamp (by omega), k_bd_some (d_mx _ _).1, show (47 : Int32) + nI q = nI (47 + q) from nI_add 47 q, k_g_in (by omega) (by omega), nI_clamp (by omega), k_bd_some (d_mx _ _).1, k_bd_some ee, k_bd_some (d_mx _ _).1]
  have e := y_262 (s := s) (as_ := as_) (laid := laid) (dice := dice) (kn := kn) (th := th) (many := many) (ln := ln) (m := m) (t := t) (f0 := f0) (f1 := f1) (buf := buf) (k164 := k164) hq hr 16 0 k_F (mx (mx (mx (mx (mx (mx (mx (mx H (t_I (F q 17))) (t_I (F q 0))) (t_I (g_pip (F q)))) (t_I (g_blot (F q)))) (t_I w)) (Int32.toInt64 (s (45 + q)))) (Int32.toInt64 (s (47 + q)))) (t_I (36 - g_bar (F (1 - q)) * g_bar (F (1 - q))))) (by omega) (by decide)
  rw [nI_0] at e
  exact e
theorem y_50 {s as_ laid dice : Nat → Int32} {kn th many ln : Int32} {m t f0 f1 : Nat → Int64} {buf : Nat → Int32} {ds : List Nat} (hl : ds.length ≤ 4) (hD : RD s ds) : ∀ (n i M : Nat) (H : Int64), i + n = ds.length → n < M → ∃ k50, k_fix dz12 (mX10_digest_50 kn buf ln) M (nI i) s as_ th laid m t many f0 f1 dice H = mX10_digest_50 kn buf ln k50 (nI ds.length) s as_ th laid m t many f0 f1 dice (df ds i n H) := by
  intro n
  induction n with
  | zero =>
    intro i M H hi hM
    obtain rfl : i = ds.length := by omega
    refine ⟨k_fix dz12 (mX10_digest_50 kn buf ln) (M - 1), ?_⟩
    rw [k_fix1 hM]
    rfl
  | succ n ih =>
    intro i M H hi hM
    have e1 : k_fix dz12 (mX10_digest_50 kn buf ln) M (nI i) s as_ th laid m t many f0 f1 dice H = k_fix dz12 (mX10_digest_50 kn buf ln) (M - 1) (nI (i + 1)) s as_ th laid m t many f0 f1 dice (mx H (t_I (ds.getD i 0))) := by
      rw [k_fix1 (by omega), mX10_digest_50, hD.1, if_neg (nI_ge (by omega) (by omega)), show (39 : Int32) + nI i = nI (39 + i) from nI_add 39 i, k_g_in (by omega) (by omega), nI_clamp (by omega), hD.2 i (by omega), k_bd_some (d_mx _ _).1, nI_1]
      rfl
    obtain ⟨k50, e2⟩ := ih (i + 1) (M - 1) (mx H (t_I (ds.getD i 0))) (by omega) (by omega)
    exact ⟨k50, e1.trans e2⟩
theorem y_digest {p : Nat} {F : Nat → Nat → Nat} {ds : List Nat} {ph : Nat} {g : GT} {s as_ laid dice : Nat → Int32} {kn th0 many : Int32} {m t f0 f1 : Nat → Int64} {buf : Nat → Int32} {c : Nat → Nat} {n : Nat} {H0 : Int64} (h : RGw p F ds ph g s) (hb : TX buf c n) {w0 w1 : Nat} (hw0 : mX10_wall s 0 = some (nI w0)) (hw1 : mX10_wall s 1 = some (nI w1)) {r : UInt64} {bits : Int64} (hr : mX10_leading s = some r) (hbi : mX10_bitsOf r 52 1023 = some bits) :
    ∃ (N N2 : Nat) (as' laid' : Nat → Int32) (m' t' f0' f1' : Nat → Int64) (many' : Int32) (dice' : Nat → Int32) (D : Int64), mX10_digest s kn as_ buf (nI n) th0 laid m t many f0 f1 dice H0 = some (D, s, as', 0, laid', m', t', many', f0', f1', dice', D) ∧ (∀ a6, pE (b_L (F p)) (b_L (F (1 - p))) (d_I ds) a6 = some (nI N)) ∧ (∀ a6, pE (b_L (F p)) (b_L (F (1 - p))) (d_I (d_rol 6 5)) a6 = some (nI N2)) ∧ D = en_ g.2.2.2.2.2.2.2.2.2.2.2.1 g.2.2.2.2.2.2.2.2.2.2.2.2 bits c n (sf F 0 16 (ph_ F 1 w1 (s 46) (s 48) (ph_ F 0 w0 (s 45) (s 47) (mx (mx (mx (mx (mx (mx (tu_ ds (s 36) (s 37) (s 43) (s 44) 4517) (t_I (g_poss ds (F p, F (1 - p))))) (t_I (g_R ds (F p, F (1 - p))))) (t_I N)) (t_I N)) (t_I N2)) (Int32.toInt64 kn))))) := by
  obtain ⟨hB, hP⟩ := RG_B h
  have h' := h
  obtain ⟨⟨hp, -, hds, -⟩, ⟨ho, ho'⟩, ⟨r0, r1⟩, hD, ⟨h36, h37, -⟩, -, -, -, ⟨h49, h50⟩, -⟩ := h'
  have hl := d_len ds hds
  obtain ⟨k50, y1⟩ := y_50 (s := s) (as_ := as_) (laid := laid) (dice := dice) (kn := kn) (th := 0) (many := many) (ln := nI n) (m := m) (t := t) (f0 := f0) (f1 := f1) (buf := buf) (by omega) hD ds.length 0 k_F (mx (mx (mx 4517 (Int32.toInt64 (s 36))) (Int32.toInt64 (s 37))) (Int32.toInt64 (s 38))) (by omega) (by generalize hk : k_F = F; have : F = 4096 := hk.symm; omega)
  obtain ⟨l1, e1⟩ := r_possible (laid := laid) hp hP hB hds hD h36
  obtain ⟨l2, e2⟩ := r_reaches (laid := l1) hp hP hB hds hD h36
  obtain ⟨N, a3, l3, m3, t3, f30, f31, many3, e3, c3⟩ := r_allPlays (aside := as_) (laid := l2) (m := m) (t := t) (many := many) (f0 := f0) (f1 := f1) hp hP hB hds hD h36
  obtain ⟨N', a4, l4, m4, t4, f40, f41, many4, e4, c4⟩ := r_allPlays (aside := a3) (laid := l3) (m := m3) (t := t3) (many := many3) (f0 := f30) (f1 := f31) hp hP hB hds hD h36
  have hNN : (nI N' : Int32) = nI N := by
    have q1 := c3 false
    have q2 := c4 false
    rw [q1] at q2
    exact (Option.some.inj q2).symm
  rw [hNN] at e4
  obtain ⟨N2, a5, l5, m5, t5, f50, f51, many5, d5, e5, c5⟩ := r_would (aside := a4) (laid := l4) (dice := dice) (m := m4) (t := t4) (many := many4) (f0 := f40) (f1 := f41) (a := 6) (b := 5) hp hP hB h36 (by omega) (by omega) (by omega) (by omega)
  have e5' : mX10_wouldPlay s a4 l4 m4 t4 many4 f40 f41 dice 6 5 = some (nI N2, s, a5, l5, m5, t5, many5, f50, f51, d5) := e5
  obtain ⟨l6, e6⟩ := y_293 (s := s) (as_ := a5) (dice := d5) (kn := kn) (th := 0) (many := many5) (m := m5) (t := t5) (f0 := f50) (f1 := f51) hb r0 r1 ho ho' h49 h50 hr hbi 16 0 k_F l5 (ph_ F 1 w1 (s 46) (s 48) (ph_ F 0 w0 (s 45) (s 47) (mx (mx (mx (mx (mx (mx (tu_ ds (s 36) (s 37) (s 43) (s 44) 4517) (t_I (g_poss ds (F p, F (1 - p))))) (t_I (g_R ds (F p, F (1 - p))))) (t_I N)) (t_I N)) (t_I N2)) (Int32.toInt64 kn)))) (by omega) (by decide)
  refine ⟨N, N2, a5, l6, m5, t5, f50, f51, many5, d5, _, ?_, c3, c5, rfl⟩
  rw [nI_0] at y1
  unfold mX10_digest
  rw [k_bd_some (d_mx _ _).1, k_bd_some (d_mx _ _).1, k_bd_some (d_mx _ _).1]
  refine y1.trans ?_
  unfold mX10_digest_50
  rw [hD.1, if_pos (nI_le (Nat.le_refl _) (by omega)), k_bd_some (d_mx _ _).1, k_bd_some (d_mx _ _).1, k_bd3_some e1, k_bd_some (d_mx _ _).1, k_bd3_some e2, k_bd_some (d_mx _ _).1, k_bd9_some e3, k_bd_some (d_mx _ _).1, k_bd9_some e4, k_bd_some (d_mx _ _).1, k_bd10_some e5', k_bd_some (d_mx _ _).1, k_bd_some (d_mx _ _).1]
  have hw0' : mX10_wall s (nI 0) = some (nI w0) := by rw [nI_0]; exact hw0
  have z0 := fun (k164 : Int32 → (Nat → Int32) → (Nat → Int32) → Int32 → (Nat → Int32) → (Nat → Int64) → (Nat → Int64) → Int32 → (Nat → Int64) → (Nat → Int64) → (Nat → Int32) → Int64 → Option DR) (H : Int64) => y_164 (s := s) (as_ := a5) (laid := l5) (dice := d5) (kn := kn) (th := 0) (many := many5) (ln := nI n) (m := m5) (t := t5) (f0 := f50) (f1 := f51) (buf := buf) (q := 0) (H := H) (k164 := k164) (by omega) r0 r1 ho ho' hw0'
  have z1 := fun (k164 : Int32 → (Nat → Int32) → (Nat → Int32) → Int32 → (Nat → Int32) → (Nat → Int64) → (Nat → Int64) → Int32 → (Nat → Int64) → (Nat → Int64) → (Nat → Int32) → Int64 → Option DR) (H : Int64) => y_164 (s := s) (as_ := a5) (laid := l5) (dice := d5) (kn := kn) (th := 0) (many := many5) (ln := nI n) (m := m5) (t := t5) (f0 := f50) (f1 := f51) (buf := buf) (q := 1) (H := H) (k164 := k164) (by omega) r0 r1 ho ho' hw1
  have step0 : ∀ H, k_fix dz12 (mX10_digest_164 kn buf (nI n)) k_F 0 s a5 0 l5 m5 t5 many5 f50 f51 d5 H = k_fix dz12 (mX10_digest_164 kn buf (nI n)) (k_F - 1) (nI 1) s a5 0 l5 m5 t5 many5 f50 f51 d5 (ph_ F 0 w0 (s 45) (s 47) H) := fun H => by
    have z := z0 (k_fix dz12 (mX10_digest_164 kn buf (nI n)) (k_F - 1)) H
    rw [nI_1, nI_0] at z
    rw [k_fix1 (by decide)]
    exact z
  have step1 : ∀ H, k_fix dz12 (mX10_digest_164 kn buf (nI n)) (k_F - 1) (nI 1) s a5 0 l5 m5 t5 many5 f50 f51 d5 H = k_fix dz12 (mX10_digest_164 kn buf (nI n)) (k_F - 1 - 1) (nI 2) s a5 0 l5 m5 t5 many5 f50 f51 d5 (ph_ F 1 w1 (s 46) (s 48) H) := fun H => by
    rw [k_fix1 (by decide), z1, nI_1]
  have step2 : ∀ H, k_fix dz12 (mX10_digest_164 kn buf (nI n)) (k_F - 1 - 1) (nI 2) s a5 0 l5 m5 t5 many5 f50 f51 d5 H = k_fix dz12 (mX10_digest_293 kn buf (nI n)) k_F 0 s a5 0 l5 m5 t5 many5 f50 f51 d5 H := fun H => by
    rw [k_fix1 (by decide), mX10_digest_164, if_pos (show (2 : Int32) ≤ nI 2 by decide)]
  rw [nI_0] at e6
  exact ((step0 _).trans ((step1 _).trans (step2 _))).trans e6
