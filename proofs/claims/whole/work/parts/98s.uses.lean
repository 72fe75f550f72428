/-! a die is used, a piece is moved: the reference and the class -/
theorem r_us1 {a : Int32} : ∀ (n i F : Nat) (s : Nat → Int32), i + n = 3 → n < F → ∃ s', k_fix (fun _ _ => none) (mX10_uses_34 a) F (nI i) s = some s' ∧ (∀ k, i ≤ k → k < 3 → s' (39 + k) = s (39 + k + 1)) ∧ s' 42 = nI 0 ∧ ∀ k, (k < 39 + i ∨ 43 ≤ k) → s' k = s k := by
  intro n
  induction n with
  | zero =>
    intro i F s h hF
    obtain rfl : i = 3 := by omega
    refine ⟨upd s 42 0, ?_, fun k h1 h2 => by omega, pk_us.trans nI_0.symm, fun k hk => pk_un (by omega)⟩
    rw [k_fix1 hF, mX10_uses_34, if_pos (by decide)]
  | succ n ih =>
    intro i F s h hF
    obtain ⟨s', e, h1, h2, h3⟩ := ih (i + 1) (F - 1) (upd s (39 + i) (s (39 + i + 1))) (by omega) (by omega)
    refine ⟨s', ?_, fun k h4 h5 => ?_, h2, fun k hk => ?_⟩
    · rw [k_fix1 (by omega), mX10_uses_34, if_neg (show ¬ (3 : Int32) ≤ nI i from nI_ge (a := i) (b := 3) (by omega) (by omega)), show (39 : Int32) + nI i = nI (39 + i) from nI_add 39 i, nI_1 (39 + i), k_g_in (by omega) (by omega), k_g_in (by omega) (by omega), nI_clamp (by omega), nI_clamp (by omega), nI_1]
      exact e
    · by_cases h6 : k = i
      · subst h6; rw [h3 _ (by omega), pk_us]
      · rw [h1 k (by omega) h5, pk_un (by omega)]
    · rw [h3 k (by omega), pk_un (by omega)]
theorem r_us2 {a : Int32} {s : Nat → Int32} {i0 : Nat} (hi0 : i0 < 4) (h1 : ∀ j, j < i0 → s (39 + j) ≠ a) (h2 : s (39 + i0) = a) : ∀ (n i F : Nat), i + n = i0 → n < F → k_fix (fun _ _ => none) (mX10_uses_2 a) F (nI i) s = k_fix (fun _ _ => none) (mX10_uses_34 a) k_F (nI i0) (upd s 38 (s 38 - 1)) := by
  intro n
  induction n with
  | zero =>
    intro i F h hF
    obtain rfl : i = i0 := by omega
    rw [k_fix1 hF, mX10_uses_2, show (39 : Int32) + nI i = nI (39 + i) from nI_add 39 i, k_g_in (by omega) (by omega), nI_clamp (by omega), if_pos h2]
  | succ n ih =>
    intro i F h hF
    rw [k_fix1 (by omega), mX10_uses_2, show (39 : Int32) + nI i = nI (39 + i) from nI_add 39 i, k_g_in (by omega) (by omega), nI_clamp (by omega), if_neg (h1 i (by omega)), nI_1]
    exact ih (i + 1) (F - 1) (by omega) (by omega)
theorem d_pos : ∀ ds ∈ d_all, ∀ d ∈ ds, ((List.range 4).any (fun i => decide (ds.getD i 0 = d ∧ i < ds.length) && (List.range i).all (fun j => decide (ds.getD j 0 ≠ d)) && (List.range 4).all (fun k => decide ((ds.erase d).getD k 0 = if k < i then ds.getD k 0 else if k < 3 then ds.getD (k + 1) 0 else 0)))) = true := by decide +kernel
theorem d_erl : ∀ ds ∈ d_all, ∀ d ∈ ds, (ds.erase d).length + 1 = ds.length := by decide +kernel
theorem d_lt7 : ∀ ds ∈ d_all, ∀ i, i < 4 → ds.getD i 0 < 7 := by decide +kernel
theorem r_uses {s : Nat → Int32} {ds : List Nat} {d : Nat} (hds : ds ∈ d_all) (hd : d ∈ ds) (hD : RD s ds) : ∃ s', mX10_uses s (nI d) = some s' ∧ RD s' (ds.erase d) ∧ ∀ k, (k < 38 ∨ 43 ≤ k) → s' k = s k := by
  have hp := d_pos ds hds d hd
  rw [List.any_eq_true] at hp
  obtain ⟨i, hi, hp⟩ := hp
  rw [List.mem_range] at hi
  rw [Bool.and_eq_true, Bool.and_eq_true, decide_eq_true_eq, List.all_eq_true, List.all_eq_true] at hp
  obtain ⟨⟨⟨p1, p1'⟩, p2⟩, p3⟩ := hp
  have hlen := d_erl ds hds d hd
  have hr := d_range ds hds d hd
  obtain ⟨s', e, h1, h2, h3⟩ := r_us1 (a := nI d) (3 - i) i k_F (upd s 38 (s 38 - 1)) (by omega) (by generalize hk : k_F = K; have : K = 4096 := hk.symm; omega)
  have e2 := r_us2 (a := nI d) (s := s) (i0 := i) hi (fun j hj he => by
    have h6 := p2 j (List.mem_range.mpr hj)
    rw [decide_eq_true_eq] at h6
    rw [hD.2 j (by omega)] at he
    exact h6 ((nI_eq (by have := d_lt7 ds hds j (by omega); omega) (by omega)).mp he)) (by rw [hD.2 i hi, p1]) i 0 k_F (by omega) (by generalize hk : k_F = K; have : K = 4096 := hk.symm; omega)
  refine ⟨s', ?_, ⟨?_, fun k hk => ?_⟩, fun k hk => ?_⟩
  · unfold mX10_uses
    rw [nI_0] at e2
    rw [e2]; exact e
  · rw [h3 38 (by omega), pk_us, hD.1]
    rw [show ds.length = (ds.erase d).length + 1 from hlen.symm]
    exact nI_pred _
  · have h6 := p3 k (List.mem_range.mpr hk)
    rw [decide_eq_true_eq] at h6
    rw [h6]
    by_cases c1 : k < i
    · rw [if_pos c1, h3 (39 + k) (by omega), pk_un (by omega), hD.2 k hk]
    · rw [if_neg c1]
      by_cases c2 : k < 3
      · rw [if_pos c2, h1 k (by omega) c2, pk_un (by omega), show 39 + k + 1 = 39 + (k + 1) from rfl, hD.2 (k + 1) (by omega)]
      · rw [if_neg c2]
        obtain rfl : k = 3 := by omega
        exact h2
  · rw [h3 k (by omega), pk_un (by omega)]
theorem c_hit {P : GP} {d w : Nat} (hP : g_ok P) (hw1 : 1 ≤ w) (hw : w ≤ 17) (hd1 : 1 ≤ d) : lg_cmp (b_L (g_th P.2 d w)) (b_L P.2) = 0 ↔ g_hit P d w = false := by
  obtain ⟨f, g⟩ := P
  have h2 : b_ok g := hP.2.1
  show lg_cmp (b_L (g_th g d w)) (b_L g) = 0 ↔ g_hit (f, g) d w = false
  by_cases c : d < w ∧ g (17 - (w - d)) = 1
  · have e1 : g_th g d w = b_mv g (17 - (w - d)) 17 := if_pos c
    have e2 : g_hit (f, g) d w = true := decide_eq_true c
    rw [e1, e2]
    have h3 : b_ok (b_mv g (17 - (w - d)) 17) := b_ok_mv h2 (by omega) (by omega) (by omega)
    have l1 := b_pk_lt54 h3
    have l2 := b_pk_lt54 h2
    have e3 := b_pk_mv (f := g) (a := 17 - (w - d)) (b := 17) (n := 18) (by omega) (by omega) (by omega)
    have e4 : (8 : Nat) ^ (17 - (w - d)) < 8 ^ 17 := Nat.pow_lt_pow_right (by decide) (by omega)
    constructor
    · intro h
      exfalso
      unfold lg_cmp b_L at h
      by_cases q1 : lN (b_pk (b_mv g (17 - (w - d)) 17) 18) > lN (b_pk g 18)
      · rw [if_pos q1] at h; exact absurd h (by decide)
      · rw [if_neg q1] at h
        by_cases q2 : lN (b_pk (b_mv g (17 - (w - d)) 17) 18) = lN (b_pk g 18)
        · have := (pk_lEQ (by omega) (by omega)).mp q2
          omega
        · rw [if_neg q2] at h; exact absurd h (by decide)
    · intro h; cases h
  · have e1 : g_th g d w = g := if_neg c
    have e2 : g_hit (f, g) d w = false := decide_eq_false c
    rw [e1, e2]
    constructor
    · intro _; rfl
    · intro _
      unfold lg_cmp
      rw [if_neg (fun q => absurd q (Int64.lt_irrefl)), if_pos rfl]
