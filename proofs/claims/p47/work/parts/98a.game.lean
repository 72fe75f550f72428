/-! the game in numbers, small helps (rows of the proof of whole that speak of the class alone) -/
abbrev GP := (Nat → Nat) × (Nat → Nat)
def g_ban (f g : Nat → Nat) (d w : Nat) : Nat :=
  if f w = 0 then 2 else if w ≠ 17 ∧ 0 < f 17 then 3 else if d < w then (if 2 ≤ g (17 - (w - d)) then 4 else 0)
  else if b_ab f 4 = true ∨ (w < d ∧ b_ab f w = true) then 5 else 0
def g_mv (f : Nat → Nat) (d w : Nat) : Nat → Nat := b_mv f w (w - d)
def g_th (g : Nat → Nat) (d w : Nat) : Nat → Nat := if d < w ∧ g (17 - (w - d)) = 1 then b_mv g (17 - (w - d)) 17 else g
abbrev g_A (P : GP) (d w : Nat) : Prop := 1 ≤ w ∧ w ≤ 17 ∧ g_ban P.1 P.2 d w = 0
def g_st (P : GP) (d w : Nat) : GP := (g_mv P.1 d w, g_th P.2 d w)
def g_ok (P : GP) : Prop := b_ok P.1 ∧ b_ok P.2 ∧ ∀ i, 18 ≤ i → P.1 i = 0 ∧ P.2 i = 0
theorem b_mv_at (f : Nat → Nat) (a b i : Nat) : b_mv f a b i = f i - (if i = a then 1 else 0) + (if i = b then 1 else 0) := rfl
theorem b_ab_true {f : Nat → Nat} {w : Nat} : b_ab f w = true ↔ ∃ i, w < i ∧ i < 18 ∧ 0 < f i := by
  constructor
  · intro h
    unfold b_ab at h
    obtain ⟨i, hi, h2⟩ := List.any_eq_true.mp h
    simp only [Bool.and_eq_true, decide_eq_true_eq] at h2
    exact ⟨i, h2.1, List.mem_range.mp hi, h2.2⟩
  · intro ⟨i, h1, h2, h3⟩
    unfold b_ab
    refine List.any_eq_true.mpr ⟨i, List.mem_range.mpr h2, ?_⟩
    simp only [Bool.and_eq_true, decide_eq_true_eq]
    exact ⟨h1, h3⟩
theorem g_ban0 {f g : Nat → Nat} {d w : Nat} : g_ban f g d w = 0 ↔ 0 < f w ∧ (w = 17 ∨ f 17 = 0) ∧ (d < w → g (17 - (w - d)) ≤ 1) ∧ (w ≤ d → (∀ i, 5 ≤ i → i < 18 → f i = 0) ∧ (w < d → ∀ i, w < i → i < 18 → f i = 0)) := by
  unfold g_ban
  by_cases h1 : f w = 0
  · simp only [h1, if_true]; constructor
    · intro h; omega
    · intro h; omega
  rw [if_neg h1]
  by_cases h2 : w ≠ 17 ∧ 0 < f 17
  · rw [if_pos h2]; constructor
    · intro h; omega
    · intro h; omega
  rw [if_neg h2]
  by_cases h3 : d < w
  · rw [if_pos h3]
    by_cases h4 : 2 ≤ g (17 - (w - d))
    · rw [if_pos h4]; constructor
      · intro h; omega
      · intro h; have := h.2.2.1 h3; omega
    · rw [if_neg h4]; constructor
      · intro _; exact ⟨by omega, by omega, fun _ => by omega, fun h => by omega⟩
      · intro _; rfl
  · rw [if_neg h3]
    by_cases h4 : b_ab f 4 = true ∨ (w < d ∧ b_ab f w = true)
    · rw [if_pos h4]; constructor
      · intro h; omega
      · intro h
        obtain ⟨ha, hb⟩ := h.2.2.2 (by omega)
        rcases h4 with q | ⟨q1, q⟩
        · obtain ⟨i, i1, i2, i3⟩ := b_ab_true.mp q; have := ha i (by omega) i2; omega
        · obtain ⟨i, i1, i2, i3⟩ := b_ab_true.mp q; have := hb q1 i i1 i2; omega
    · rw [if_neg h4]; constructor
      · intro _
        refine ⟨by omega, by omega, fun h => by omega, fun _ => ⟨fun i a b => ?_, fun c i a b => ?_⟩⟩
        · rcases Nat.eq_zero_or_pos (f i) with z | z
          · exact z
          · exact absurd (Or.inl (b_ab_true.mpr ⟨i, by omega, b, z⟩)) h4
        · rcases Nat.eq_zero_or_pos (f i) with z | z
          · exact z
          · exact absurd (Or.inr ⟨c, b_ab_true.mpr ⟨i, a, b, z⟩⟩) h4
      · intro _; rfl
theorem g_mv_at (f : Nat → Nat) (d w i : Nat) : g_mv f d w i = f i - (if i = w then 1 else 0) + (if i = w - d then 1 else 0) := rfl
theorem g_th_le {g : Nat → Nat} {d w i : Nat} (hi : i ≠ 17) : g_th g d w i ≤ g i ∧ (g_th g d w i = g i ∨ g i = 1) := by
  unfold g_th
  by_cases h : d < w ∧ g (17 - (w - d)) = 1
  · rw [if_pos h, b_mv_at, if_neg hi]
    by_cases c : i = 17 - (w - d)
    · rw [if_pos c, c, h.2]; omega
    · rw [if_neg c]; omega
  · rw [if_neg h]; omega
theorem g_comm {P : GP} {d v w : Nat} (hd : 1 ≤ d) (hv : g_A P d v) (hw : g_A P d w) (hne : v ≠ w) : g_A (g_st P d v) d w ∧ g_st (g_st P d v) d w = g_st (g_st P d w) d v := by
  obtain ⟨f, g⟩ := P
  obtain ⟨v1, v2, v3⟩ := hv
  obtain ⟨w1, w2, w3⟩ := hw
  obtain ⟨a1, a2, a3, a4⟩ := g_ban0.mp v3
  obtain ⟨c1, c2, c3, c4⟩ := g_ban0.mp w3
  dsimp only at a1 a2 a3 a4 c1 c2 c3 c4
  refine ⟨⟨w1, w2, g_ban0.mpr ⟨?_, ?_, ?_, ?_⟩⟩, ?_⟩
  · show 0 < g_mv f d v w
    rw [g_mv_at, if_neg (fun h => hne h.symm)]; omega
  · show w = 17 ∨ g_mv f d v 17 = 0
    rcases c2 with c2 | c2
    · exact Or.inl c2
    · right
      rw [g_mv_at]
      have : v ≠ 17 := fun h => by subst h; omega
      rw [if_neg (by omega), if_neg (by omega)]; omega
  · intro h
    show g_th g d v (17 - (w - d)) ≤ 1
    exact Nat.le_trans (g_th_le (by omega)).1 (c3 h)
  · intro h
    obtain ⟨e1, e2⟩ := c4 h
    refine ⟨fun i i1 i2 => ?_, fun h5 i i1 i2 => ?_⟩
    · show g_mv f d v i = 0
      have q1 := e1 i i1 i2
      have q2 : v ≤ 4 := by
        rcases Nat.lt_or_ge 4 v with q | q
        · have := e1 v q (by omega); omega
        · exact q
      rw [g_mv_at, if_neg (c := i = v - d) (by omega)]; omega
    · show g_mv f d v i = 0
      have q1 := e2 h5 i i1 i2
      have q2 : v ≤ w := by
        rcases Nat.lt_or_ge w v with q | q
        · have := e2 h5 v q (by omega); omega
        · exact q
      rw [g_mv_at, if_neg (c := i = v - d) (by omega)]; omega
  · refine Prod.ext ?_ ?_
    · show g_mv (g_mv f d v) d w = g_mv (g_mv f d w) d v
      funext i
      simp only [g_mv_at]
      by_cases i1 : i = v
      · subst i1
        have n1 : ¬ i = i - d := by omega
        rw [if_pos rfl, if_neg hne, if_neg n1]
        by_cases i2 : i = w - d
        · rw [if_pos i2]; omega
        · rw [if_neg i2]; omega
      · rw [if_neg i1]
        by_cases i2 : i = w
        · subst i2
          have n1 : ¬ i = i - d := by omega
          rw [if_pos rfl, if_neg n1]
          by_cases i3 : i = v - d
          · rw [if_pos i3]; omega
          · rw [if_neg i3]; omega
        · rw [if_neg i2]; omega
    · show g_th (g_th g d v) d w = g_th (g_th g d w) d v
      by_cases hv2 : d < v ∧ g (17 - (v - d)) = 1
      · by_cases hw2 : d < w ∧ g (17 - (w - d)) = 1
        · have t1 : 17 - (v - d) ≠ 17 - (w - d) := by omega
          have e1 : g_th g d v = b_mv g (17 - (v - d)) 17 := if_pos hv2
          have e2 : g_th g d w = b_mv g (17 - (w - d)) 17 := if_pos hw2
          rw [e1, e2]
          have x1 : b_mv g (17 - (v - d)) 17 (17 - (w - d)) = 1 := by
            rw [b_mv_at, if_neg (fun h => t1 h.symm), if_neg (by omega)]; omega
          have x2 : b_mv g (17 - (w - d)) 17 (17 - (v - d)) = 1 := by
            rw [b_mv_at, if_neg t1, if_neg (by omega)]; omega
          have e3 : g_th (b_mv g (17 - (v - d)) 17) d w = b_mv (b_mv g (17 - (v - d)) 17) (17 - (w - d)) 17 := if_pos ⟨hw2.1, x1⟩
          have e4 : g_th (b_mv g (17 - (w - d)) 17) d v = b_mv (b_mv g (17 - (w - d)) 17) (17 - (v - d)) 17 := if_pos ⟨hv2.1, x2⟩
          rw [e3, e4]
          funext i
          simp only [b_mv_at]
          by_cases i1 : i = 17 - (v - d)
          · rw [if_pos i1, if_neg (c := i = 17) (by omega), if_neg (c := i = 17 - (w - d)) (by omega)]; omega
          · rw [if_neg i1]
            by_cases i2 : i = 17 - (w - d)
            · rw [if_pos i2, if_neg (c := i = 17) (by omega)]; omega
            · rw [if_neg i2]
        · have e2 : g_th g d w = g := if_neg hw2
          rw [e2]
          have e1 : g_th g d v = b_mv g (17 - (v - d)) 17 := if_pos hv2
          rw [e1]
          refine if_neg ?_
          intro ⟨q1, q2⟩
          rw [b_mv_at, if_neg (c := 17 - (w - d) = 17) (by omega), if_neg (by omega)] at q2
          exact hw2 ⟨q1, by omega⟩
      · have e1 : g_th g d v = g := if_neg hv2
        rw [e1]
        by_cases hw2 : d < w ∧ g (17 - (w - d)) = 1
        · have e2 : g_th g d w = b_mv g (17 - (w - d)) 17 := if_pos hw2
          rw [e2]
          refine (if_neg ?_).symm
          intro ⟨q1, q2⟩
          rw [b_mv_at, if_neg (c := 17 - (v - d) = 17) (by omega), if_neg (by omega)] at q2
          exact hv2 ⟨q1, by omega⟩
        · have e2 : g_th g d w = g := if_neg hw2
          rw [e2, e1]
theorem g_back {P : GP} {d v w : Nat} (hd : 1 ≤ d) (hlt : w < v) (hw : g_A P d w) (hv : g_A (g_st P d w) d v) : g_A P d v := by
  obtain ⟨f, g⟩ := P
  obtain ⟨v1, v2, v3⟩ := hv
  obtain ⟨w1, w2, w3⟩ := hw
  obtain ⟨a1, a2, a3, a4⟩ := g_ban0.mp v3
  obtain ⟨c1, c2, c3, c4⟩ := g_ban0.mp w3
  dsimp only [g_st] at a1 a2 a3 a4 c1 c2 c3 c4
  have e1 : g_mv f d w v = f v := by rw [g_mv_at, if_neg (by omega), if_neg (by omega)]; omega
  rw [e1] at a1
  refine ⟨v1, v2, g_ban0.mpr ⟨a1, ?_, ?_, ?_⟩⟩
  · show v = 17 ∨ f 17 = 0
    omega
  · intro h
    show g (17 - (v - d)) ≤ 1
    have q := a3 h
    rcases (g_th_le (g := g) (d := d) (w := w) (i := 17 - (v - d)) (by omega)).2 with z | z
    · omega
    · omega
  · intro h
    exfalso
    have := (c4 (by omega)).2 (by omega) v hlt (by omega)
    omega
theorem g_ok_st {P : GP} {d w : Nat} (h : g_ok P) (hw : g_A P d w) : g_ok (g_st P d w) := by
  obtain ⟨f, g⟩ := P
  obtain ⟨h1, h2, h3⟩ := h
  obtain ⟨w1, w2, w3⟩ := hw
  obtain ⟨c1, c2, c3, c4⟩ := g_ban0.mp w3
  refine ⟨b_ok_mv h1 (by omega) (by omega) c1, ?_, fun i hi => ⟨?_, ?_⟩⟩
  · show b_ok (g_th g d w)
    unfold g_th
    by_cases c : d < w ∧ g (17 - (w - d)) = 1
    · rw [if_pos c]; exact b_ok_mv h2 (by omega) (by omega) (by omega)
    · rw [if_neg c]; exact h2
  · show g_mv f d w i = 0
    have := (h3 i hi).1
    dsimp only at this
    rw [g_mv_at, if_neg (by omega), if_neg (by omega)]; omega
  · show g_th g d w i = 0
    have := (h3 i hi).2
    dsimp only at this
    have q := (g_th_le (g := g) (d := d) (w := w) (i := i) (by omega)).1
    omega
def g_lm : List Nat → Nat
  | [] => 0
  | a :: l => Nat.max a (g_lm l)
theorem g_lm_ge : ∀ {l : List Nat} {a : Nat}, a ∈ l → a ≤ g_lm l
  | b :: l, a, h => by
    rcases List.mem_cons.mp h with h | h
    · subst h; exact Nat.le_max_left _ _
    · exact Nat.le_trans (g_lm_ge h) (Nat.le_max_right _ _)
theorem g_lm_le : ∀ {l : List Nat} {m : Nat}, (∀ a ∈ l, a ≤ m) → g_lm l ≤ m
  | [], m, _ => Nat.zero_le _
  | b :: l, m, h => Nat.max_le.mpr ⟨h b List.mem_cons_self, g_lm_le (fun a ha => h a (List.mem_cons_of_mem _ ha))⟩
def g_rc : Nat → List Nat → GP → Nat
  | 0, _, _ => 0
  | n + 1, ds, P => g_lm ((List.range 18).flatMap (fun w => (d_ks ds).map (fun d => if g_A P d w then 1 + g_rc n (ds.erase d) (g_st P d w) else 0)))
theorem g_rc_ge {n : Nat} {ds : List Nat} {P : GP} {d w : Nat} (hd : d ∈ d_ks ds) (hw : g_A P d w) : 1 + g_rc n (ds.erase d) (g_st P d w) ≤ g_rc (n + 1) ds P := by
  refine g_lm_ge (List.mem_flatMap.mpr ⟨w, List.mem_range.mpr (by have := hw.2.1; omega), List.mem_map.mpr ⟨d, hd, ?_⟩⟩)
  rw [if_pos hw]
theorem g_rc_le {n m : Nat} {ds : List Nat} {P : GP} (h : ∀ d ∈ d_ks ds, ∀ w, g_A P d w → 1 + g_rc n (ds.erase d) (g_st P d w) ≤ m) : g_rc (n + 1) ds P ≤ m := by
  refine g_lm_le (fun a ha => ?_)
  obtain ⟨w, -, h2⟩ := List.mem_flatMap.mp ha
  obtain ⟨d, h3, h4⟩ := List.mem_map.mp h2
  by_cases c : g_A P d w
  · rw [if_pos c] at h4; rw [← h4]; exact h d h3 w c
  · rw [if_neg c] at h4; omega
theorem g_rc_nil : ∀ (n : Nat) (P : GP), g_rc n [] P = 0
  | 0, _ => rfl
  | n + 1, P => Nat.le_zero.mp (g_rc_le (fun d hd => nomatch hd))
def g_rl (d : Nat) : Nat → GP → Nat
  | 0, _ => 0
  | n + 1, P => g_lm ((List.range 18).map (fun w => if g_A P d w then 1 + g_rl d n (g_st P d w) else 0))
theorem g_rl_ge {n d w : Nat} {P : GP} (hw : g_A P d w) : 1 + g_rl d n (g_st P d w) ≤ g_rl d (n + 1) P := by
  refine g_lm_ge (List.mem_map.mpr ⟨w, List.mem_range.mpr (by have := hw.2.1; omega), ?_⟩)
  rw [if_pos hw]
theorem g_rl_le {n d m : Nat} {P : GP} (h : ∀ w, g_A P d w → 1 + g_rl d n (g_st P d w) ≤ m) : g_rl d (n + 1) P ≤ m := by
  refine g_lm_le (fun a ha => ?_)
  obtain ⟨w, -, h4⟩ := List.mem_map.mp ha
  by_cases c : g_A P d w
  · rw [if_pos c] at h4; rw [← h4]; exact h w c
  · rw [if_neg c] at h4; omega
theorem g_rl_eqv {d : Nat} (hd : 1 ≤ d) : ∀ (n : Nat) (P : GP) (v w : Nat), g_A P d v → g_A P d w → g_rl d n (g_st P d v) = g_rl d n (g_st P d w)
  | 0, _, _, _, _, _ => rfl
  | n + 1, P, v, w, hv, hw => by
    by_cases c : v = w
    · rw [c]
    have ih := g_rl_eqv hd n
    have one : ∀ (P : GP) (v : Nat), g_A P d v → g_rl d (n + 1) P = 1 + g_rl d n (g_st P d v) := fun P v h =>
      Nat.le_antisymm (g_rl_le (fun u hu => by rw [ih P u v hu h]; exact Nat.le_refl _)) (g_rl_ge h)
    obtain ⟨q1, q2⟩ := g_comm hd hv hw c
    obtain ⟨q3, -⟩ := g_comm hd hw hv (fun h => c h.symm)
    rw [one _ w q1, one _ v q3, q2]
theorem g_rl_step {d n w : Nat} {P : GP} (hd : 1 ≤ d) (hw : g_A P d w) : g_rl d (n + 1) P = 1 + g_rl d n (g_st P d w) :=
  Nat.le_antisymm (g_rl_le (fun u hu => by rw [g_rl_eqv hd n P u w hu hw]; exact Nat.le_refl _)) (g_rl_ge hw)
theorem g_rl_none {d n : Nat} {P : GP} (h : ∀ w, ¬ g_A P d w) : g_rl d n P = 0 := by
  cases n with
  | zero => rfl
  | succ n => exact Nat.le_zero.mp (g_rl_le (fun w hw => absurd hw (h w)))
theorem g_rl_leN {d : Nat} : ∀ {n : Nat} {P : GP}, g_rl d n P ≤ n
  | 0, _ => Nat.le_refl _
  | n + 1, P => g_rl_le (fun w _ => by have := g_rl_leN (d := d) (n := n) (P := g_st P d w); omega)
theorem g_rl_pos {d n : Nat} {P : GP} (h : 0 < g_rl d n P) : ∃ w, g_A P d w := by
  rcases Classical.em (∃ w, g_A P d w) with q | q
  · exact q
  · have := g_rl_none (d := d) (n := n) (P := P) (fun w hw => q ⟨w, hw⟩); omega
theorem d_ks_rep (d : Nat) : ∀ k, d_ks (List.replicate (k + 1) d) = [d]
  | 0 => rfl
  | k + 1 => by
    show (if d = d then [d] else [d, d]) = [d]
    rw [if_pos rfl]
theorem g_er_rep (d k : Nat) : (List.replicate (k + 1) d).erase d = List.replicate k d := by
  rw [List.replicate_succ, List.erase_cons_head]
theorem g_rc_rep {d : Nat} : ∀ (n k : Nat) (P : GP), k ≤ n → g_rc n (List.replicate k d) P = g_rl d k P
  | n, 0, P, _ => g_rc_nil n P
  | n + 1, k + 1, P, h => by
    have ih := fun P => g_rc_rep (d := d) n k P (by omega)
    apply Nat.le_antisymm
    · refine g_rc_le (fun e he w hw => ?_)
      rw [d_ks_rep, List.mem_singleton] at he
      subst he
      rw [g_er_rep, ih]
      exact g_rl_ge hw
    · refine g_rl_le (fun w hw => ?_)
      rw [← ih, ← g_er_rep]
      exact g_rc_ge (by rw [d_ks_rep]; exact List.mem_singleton.mpr rfl) hw
def g_any (P : GP) (d : Nat) : Bool := (List.range 18).any (fun w => decide (g_A P d w))
def g_two (P : GP) (a b : Nat) : Bool := (List.range 18).any (fun w => decide (g_A P a w) && g_any (g_st P a w) b)
theorem g_any_iff {P : GP} {d : Nat} : g_any P d = true ↔ ∃ w, g_A P d w := by
  unfold g_any
  constructor
  · intro h
    obtain ⟨w, -, h2⟩ := List.any_eq_true.mp h
    exact ⟨w, of_decide_eq_true h2⟩
  · intro ⟨w, h⟩
    exact List.any_eq_true.mpr ⟨w, List.mem_range.mpr (by have := h.2.1; omega), decide_eq_true h⟩
theorem g_any_not {P : GP} {d : Nat} : g_any P d = false ↔ ∀ w, ¬ g_A P d w := by
  constructor
  · intro h w hw
    rw [g_any_iff.mpr ⟨w, hw⟩] at h; cases h
  · intro h
    cases q : g_any P d
    · rfl
    · obtain ⟨w, hw⟩ := g_any_iff.mp q; exact absurd hw (h w)
theorem g_two_iff {P : GP} {a b : Nat} : g_two P a b = true ↔ ∃ w, g_A P a w ∧ g_any (g_st P a w) b = true := by
  unfold g_two
  constructor
  · intro h
    obtain ⟨w, -, h2⟩ := List.any_eq_true.mp h
    rw [Bool.and_eq_true, decide_eq_true_eq] at h2
    exact ⟨w, h2⟩
  · intro ⟨w, h⟩
    refine List.any_eq_true.mpr ⟨w, List.mem_range.mpr (by have := h.1.2.1; omega), ?_⟩
    rw [Bool.and_eq_true, decide_eq_true_eq]
    exact h
theorem g_rl_one {d : Nat} {P : GP} : g_rl d 1 P = if g_any P d = true then 1 else 0 := by
  by_cases c : g_any P d = true
  · rw [if_pos c]
    obtain ⟨w, hw⟩ := g_any_iff.mp c
    have h1 : 1 + 0 ≤ g_rl d 1 P := g_rl_ge (n := 0) hw
    have h2 := g_rl_leN (d := d) (n := 1) (P := P)
    omega
  · rw [if_neg c]
    exact g_rl_none (fun w hw => c (g_any_iff.mpr ⟨w, hw⟩))
theorem g_rc_one {n d : Nat} {P : GP} : g_rc (n + 1) [d] P = if g_any P d = true then 1 else 0 := by
  rw [show [d] = List.replicate 1 d from rfl, g_rc_rep (n + 1) 1 P (by omega), g_rl_one]
theorem d_ks_two {a b : Nat} (h : a ≠ b) : d_ks [a, b] = [a, b] := if_neg h
theorem g_er1 (a b : Nat) : [a, b].erase a = [b] := List.erase_cons_head ..
theorem g_er2 {a b : Nat} (h : a ≠ b) : [a, b].erase b = [a] := by
  rw [List.erase_cons_tail (by simpa using h)]
  rw [List.erase_cons_head]
theorem g_rc_two {n a b : Nat} {P : GP} (h : a ≠ b) : g_rc (n + 2) [a, b] P = if (g_two P a b || g_two P b a) = true then 2 else if (g_any P a || g_any P b) = true then 1 else 0 := by
  have up : ∀ {x y w : Nat}, g_A P x w → g_rc (n + 1) [y] (g_st P x w) = if g_any (g_st P x w) y = true then 1 else 0 := fun _ => g_rc_one
  have ga : ∀ {w : Nat}, g_A P a w → 1 + (if g_any (g_st P a w) b = true then 1 else 0) ≤ g_rc (n + 2) [a, b] P := fun {w} hw => by
    have := g_rc_ge (n := n + 1) (ds := [a, b]) (d := a) (by rw [d_ks_two h]; exact List.mem_cons_self) hw
    rwa [g_er1, g_rc_one] at this
  have gb : ∀ {w : Nat}, g_A P b w → 1 + (if g_any (g_st P b w) a = true then 1 else 0) ≤ g_rc (n + 2) [a, b] P := fun {w} hw => by
    have := g_rc_ge (n := n + 1) (ds := [a, b]) (d := b) (by rw [d_ks_two h]; exact List.mem_cons_of_mem _ List.mem_cons_self) hw
    rwa [g_er2 h, g_rc_one] at this
  have le : ∀ m, (∀ w, g_A P a w → 1 + (if g_any (g_st P a w) b = true then 1 else 0) ≤ m) → (∀ w, g_A P b w → 1 + (if g_any (g_st P b w) a = true then 1 else 0) ≤ m) → g_rc (n + 2) [a, b] P ≤ m := fun m ha hb => g_rc_le (fun d hd w hw => by
    rw [d_ks_two h] at hd
    rcases List.mem_cons.mp hd with e | e
    · subst e; rw [g_er1, g_rc_one]; exact ha w hw
    · rw [List.mem_singleton] at e; subst e; rw [g_er2 h, g_rc_one]; exact hb w hw)
  have le2 : g_rc (n + 2) [a, b] P ≤ 2 := le 2 (fun w _ => by split <;> omega) (fun w _ => by split <;> omega)
  by_cases c : (g_two P a b || g_two P b a) = true
  · rw [if_pos c]
    rcases Bool.or_eq_true _ _ ▸ c with c | c
    · obtain ⟨w, h1, h2⟩ := g_two_iff.mp c
      have := ga h1; rw [if_pos h2] at this; omega
    · obtain ⟨w, h1, h2⟩ := g_two_iff.mp c
      have := gb h1; rw [if_pos h2] at this; omega
  · rw [if_neg c]
    have na : ∀ w, g_A P a w → ¬ g_any (g_st P a w) b = true := fun w hw q => c (by rw [g_two_iff.mpr ⟨w, hw, q⟩]; rfl)
    have nb : ∀ w, g_A P b w → ¬ g_any (g_st P b w) a = true := fun w hw q => c (by rw [g_two_iff.mpr ⟨w, hw, q⟩]; exact Bool.or_true _)
    have le1 : g_rc (n + 2) [a, b] P ≤ 1 := le 1 (fun w hw => by rw [if_neg (na w hw)]; exact Nat.le_refl _) (fun w hw => by rw [if_neg (nb w hw)]; exact Nat.le_refl _)
    by_cases e : (g_any P a || g_any P b) = true
    · rw [if_pos e]
      rcases Bool.or_eq_true _ _ ▸ e with e | e
      · obtain ⟨w, hw⟩ := g_any_iff.mp e; have := ga hw; omega
      · obtain ⟨w, hw⟩ := g_any_iff.mp e; have := gb hw; omega
    · rw [if_neg e]
      refine Nat.le_zero.mp (le 0 (fun w hw => ?_) (fun w hw => ?_))
      · exact absurd (by rw [g_any_iff.mpr ⟨w, hw⟩]; rfl) e
      · exact absurd (by rw [g_any_iff.mpr ⟨w, hw⟩]; exact Bool.or_true _) e
theorem d_ks_sub {ds : List Nat} {d : Nat} (h : d ∈ d_ks ds) : d ∈ ds := by
  match ds with
  | [] => exact h
  | [a] => exact h
  | a :: b :: l =>
    have h : d ∈ (if a = b then [a] else [a, b]) := h
    by_cases c : a = b
    · rw [if_pos c, List.mem_singleton] at h; rw [h]; exact List.mem_cons_self
    · rw [if_neg c] at h
      rcases List.mem_cons.mp h with e | e
      · rw [e]; exact List.mem_cons_self
      · rw [List.mem_singleton] at e; rw [e]; exact List.mem_cons_of_mem _ List.mem_cons_self
theorem g_rc_len : ∀ {n : Nat} {ds : List Nat} {P : GP}, g_rc n ds P ≤ ds.length
  | 0, _, _ => Nat.zero_le _
  | n + 1, ds, P => g_rc_le (fun d hd w hw => by
    have h1 := g_rc_len (n := n) (ds := ds.erase d) (P := g_st P d w)
    have h2 := List.length_erase_of_mem (d_ks_sub hd)
    have h3 : 0 < ds.length := List.length_pos_of_mem (d_ks_sub hd)
    omega)
theorem g_rc_fuel : ∀ {n m : Nat} {ds : List Nat} {P : GP}, ds.length ≤ n → ds.length ≤ m → g_rc n ds P = g_rc m ds P
  | 0, m, ds, P, h, _ => by
    have : ds = [] := List.length_eq_zero_iff.mp (by omega)
    subst this; rw [g_rc_nil, g_rc_nil]
  | n + 1, 0, ds, P, _, h => by
    have : ds = [] := List.length_eq_zero_iff.mp (by omega)
    subst this; rw [g_rc_nil, g_rc_nil]
  | n + 1, m + 1, ds, P, h1, h2 => by
    have ih : ∀ d ∈ d_ks ds, ∀ w, g_rc n (ds.erase d) (g_st P d w) = g_rc m (ds.erase d) (g_st P d w) := fun d hd w => by
      have h4 := List.length_erase_of_mem (d_ks_sub hd)
      have h3 : 0 < ds.length := List.length_pos_of_mem (d_ks_sub hd)
      exact g_rc_fuel (by omega) (by omega)
    apply Nat.le_antisymm
    · exact g_rc_le (fun d hd w hw => by rw [ih d hd w]; exact g_rc_ge hd hw)
    · exact g_rc_le (fun d hd w hw => by rw [← ih d hd w]; exact g_rc_ge hd hw)
def g_R (ds : List Nat) (P : GP) : Nat := g_rc 4 ds P
def g_un (ds : List Nat) : Bool := match ds with
  | [a, b] => decide (a ≠ b)
  | _ => false
def g_ot (ds : List Nat) (d : Nat) : Nat := ds.getD 0 0 + ds.getD 1 0 - d
def g_re (ds : List Nat) (P : GP) (d w : Nat) : Nat :=
  if d ∈ ds then (if g_ban P.1 P.2 d w = 0 then (if g_un ds = true then (if g_R ds P = 2 then (if g_any (g_st P d w) (g_ot ds d) = true then 0 else 6) else if d < g_ot ds d ∧ g_any P (g_ot ds d) = true then 6 else 0) else 0) else g_ban P.1 P.2 d w) else 1
theorem kn_0 : (0 : Int32) = nI 0 := Int32.toBitVec_inj.mp rfl
theorem kn_1 : (1 : Int32) = nI 1 := Int32.toBitVec_inj.mp rfl
theorem kn_2 : (2 : Int32) = nI 2 := Int32.toBitVec_inj.mp rfl
theorem kn_3 : (3 : Int32) = nI 3 := Int32.toBitVec_inj.mp rfl
theorem kn_4 : (4 : Int32) = nI 4 := Int32.toBitVec_inj.mp rfl
theorem kn_5 : (5 : Int32) = nI 5 := Int32.toBitVec_inj.mp rfl
theorem kn_6 : (6 : Int32) = nI 6 := Int32.toBitVec_inj.mp rfl
theorem kn_7 : (7 : Int32) = nI 7 := Int32.toBitVec_inj.mp rfl
theorem kn_8 : (8 : Int32) = nI 8 := Int32.toBitVec_inj.mp rfl
theorem kn_9 : (9 : Int32) = nI 9 := Int32.toBitVec_inj.mp rfl
theorem kn_10 : (10 : Int32) = nI 10 := Int32.toBitVec_inj.mp rfl
theorem kn_11 : (11 : Int32) = nI 11 := Int32.toBitVec_inj.mp rfl
theorem kn_12 : (12 : Int32) = nI 12 := Int32.toBitVec_inj.mp rfl
theorem kn_13 : (13 : Int32) = nI 13 := Int32.toBitVec_inj.mp rfl
theorem kn_14 : (14 : Int32) = nI 14 := Int32.toBitVec_inj.mp rfl
theorem kn_15 : (15 : Int32) = nI 15 := Int32.toBitVec_inj.mp rfl
theorem kn_16 : (16 : Int32) = nI 16 := Int32.toBitVec_inj.mp rfl
theorem kn_17 : (17 : Int32) = nI 17 := Int32.toBitVec_inj.mp rfl
theorem kn_18 : (18 : Int32) = nI 18 := Int32.toBitVec_inj.mp rfl
theorem kn_19 : (19 : Int32) = nI 19 := Int32.toBitVec_inj.mp rfl
theorem kn_20 : (20 : Int32) = nI 20 := Int32.toBitVec_inj.mp rfl
theorem kn_21 : (21 : Int32) = nI 21 := Int32.toBitVec_inj.mp rfl
theorem kn_22 : (22 : Int32) = nI 22 := Int32.toBitVec_inj.mp rfl
theorem kn_23 : (23 : Int32) = nI 23 := Int32.toBitVec_inj.mp rfl
theorem kn_24 : (24 : Int32) = nI 24 := Int32.toBitVec_inj.mp rfl
theorem kn_25 : (25 : Int32) = nI 25 := Int32.toBitVec_inj.mp rfl
theorem kn_26 : (26 : Int32) = nI 26 := Int32.toBitVec_inj.mp rfl
theorem kn_27 : (27 : Int32) = nI 27 := Int32.toBitVec_inj.mp rfl
theorem kn_28 : (28 : Int32) = nI 28 := Int32.toBitVec_inj.mp rfl
theorem kn_29 : (29 : Int32) = nI 29 := Int32.toBitVec_inj.mp rfl
theorem kn_30 : (30 : Int32) = nI 30 := Int32.toBitVec_inj.mp rfl
theorem kn_31 : (31 : Int32) = nI 31 := Int32.toBitVec_inj.mp rfl
theorem kn_32 : (32 : Int32) = nI 32 := Int32.toBitVec_inj.mp rfl
theorem kn_33 : (33 : Int32) = nI 33 := Int32.toBitVec_inj.mp rfl
theorem kn_34 : (34 : Int32) = nI 34 := Int32.toBitVec_inj.mp rfl
theorem kn_35 : (35 : Int32) = nI 35 := Int32.toBitVec_inj.mp rfl
theorem kn_36 : (36 : Int32) = nI 36 := Int32.toBitVec_inj.mp rfl
theorem kn_37 : (37 : Int32) = nI 37 := Int32.toBitVec_inj.mp rfl
theorem kn_38 : (38 : Int32) = nI 38 := Int32.toBitVec_inj.mp rfl
theorem kn_39 : (39 : Int32) = nI 39 := Int32.toBitVec_inj.mp rfl
theorem kn_40 : (40 : Int32) = nI 40 := Int32.toBitVec_inj.mp rfl
theorem kn_41 : (41 : Int32) = nI 41 := Int32.toBitVec_inj.mp rfl
theorem kn_42 : (42 : Int32) = nI 42 := Int32.toBitVec_inj.mp rfl
theorem kn_43 : (43 : Int32) = nI 43 := Int32.toBitVec_inj.mp rfl
theorem kn_44 : (44 : Int32) = nI 44 := Int32.toBitVec_inj.mp rfl
theorem kn_45 : (45 : Int32) = nI 45 := Int32.toBitVec_inj.mp rfl
theorem kn_46 : (46 : Int32) = nI 46 := Int32.toBitVec_inj.mp rfl
theorem kn_47 : (47 : Int32) = nI 47 := Int32.toBitVec_inj.mp rfl
theorem kn_48 : (48 : Int32) = nI 48 := Int32.toBitVec_inj.mp rfl
theorem kn_49 : (49 : Int32) = nI 49 := Int32.toBitVec_inj.mp rfl
theorem kn_50 : (50 : Int32) = nI 50 := Int32.toBitVec_inj.mp rfl
theorem kn_51 : (51 : Int32) = nI 51 := Int32.toBitVec_inj.mp rfl
theorem kn_52 : (52 : Int32) = nI 52 := Int32.toBitVec_inj.mp rfl
theorem kn_53 : (53 : Int32) = nI 53 := Int32.toBitVec_inj.mp rfl
theorem kn_54 : (54 : Int32) = nI 54 := Int32.toBitVec_inj.mp rfl
theorem kn_55 : (55 : Int32) = nI 55 := Int32.toBitVec_inj.mp rfl
theorem kn_56 : (56 : Int32) = nI 56 := Int32.toBitVec_inj.mp rfl
theorem kn_57 : (57 : Int32) = nI 57 := Int32.toBitVec_inj.mp rfl
theorem kn_58 : (58 : Int32) = nI 58 := Int32.toBitVec_inj.mp rfl
theorem kn_59 : (59 : Int32) = nI 59 := Int32.toBitVec_inj.mp rfl
theorem kn_60 : (60 : Int32) = nI 60 := Int32.toBitVec_inj.mp rfl
theorem kn_61 : (61 : Int32) = nI 61 := Int32.toBitVec_inj.mp rfl
theorem kn_62 : (62 : Int32) = nI 62 := Int32.toBitVec_inj.mp rfl
theorem kn_63 : (63 : Int32) = nI 63 := Int32.toBitVec_inj.mp rfl
theorem kn_64 : (64 : Int32) = nI 64 := Int32.toBitVec_inj.mp rfl
theorem kn_65 : (65 : Int32) = nI 65 := Int32.toBitVec_inj.mp rfl
theorem kn_66 : (66 : Int32) = nI 66 := Int32.toBitVec_inj.mp rfl
theorem kn_67 : (67 : Int32) = nI 67 := Int32.toBitVec_inj.mp rfl
theorem kn_68 : (68 : Int32) = nI 68 := Int32.toBitVec_inj.mp rfl
theorem kn_69 : (69 : Int32) = nI 69 := Int32.toBitVec_inj.mp rfl
theorem kn_70 : (70 : Int32) = nI 70 := Int32.toBitVec_inj.mp rfl
theorem kn_71 : (71 : Int32) = nI 71 := Int32.toBitVec_inj.mp rfl
theorem kn_72 : (72 : Int32) = nI 72 := Int32.toBitVec_inj.mp rfl
theorem kn_73 : (73 : Int32) = nI 73 := Int32.toBitVec_inj.mp rfl
theorem kn_74 : (74 : Int32) = nI 74 := Int32.toBitVec_inj.mp rfl
theorem kn_75 : (75 : Int32) = nI 75 := Int32.toBitVec_inj.mp rfl
theorem kn_76 : (76 : Int32) = nI 76 := Int32.toBitVec_inj.mp rfl
theorem kn_77 : (77 : Int32) = nI 77 := Int32.toBitVec_inj.mp rfl
theorem kn_78 : (78 : Int32) = nI 78 := Int32.toBitVec_inj.mp rfl
theorem kn_79 : (79 : Int32) = nI 79 := Int32.toBitVec_inj.mp rfl
theorem kn_80 : (80 : Int32) = nI 80 := Int32.toBitVec_inj.mp rfl
theorem kn_81 : (81 : Int32) = nI 81 := Int32.toBitVec_inj.mp rfl
theorem kn_82 : (82 : Int32) = nI 82 := Int32.toBitVec_inj.mp rfl
theorem kn_83 : (83 : Int32) = nI 83 := Int32.toBitVec_inj.mp rfl
theorem kn_84 : (84 : Int32) = nI 84 := Int32.toBitVec_inj.mp rfl
theorem kn_85 : (85 : Int32) = nI 85 := Int32.toBitVec_inj.mp rfl
theorem kn_86 : (86 : Int32) = nI 86 := Int32.toBitVec_inj.mp rfl
theorem kn_87 : (87 : Int32) = nI 87 := Int32.toBitVec_inj.mp rfl
theorem kn_88 : (88 : Int32) = nI 88 := Int32.toBitVec_inj.mp rfl
theorem kn_89 : (89 : Int32) = nI 89 := Int32.toBitVec_inj.mp rfl
theorem kn_90 : (90 : Int32) = nI 90 := Int32.toBitVec_inj.mp rfl
theorem kn_91 : (91 : Int32) = nI 91 := Int32.toBitVec_inj.mp rfl
theorem kn_92 : (92 : Int32) = nI 92 := Int32.toBitVec_inj.mp rfl
theorem kn_93 : (93 : Int32) = nI 93 := Int32.toBitVec_inj.mp rfl
theorem kn_94 : (94 : Int32) = nI 94 := Int32.toBitVec_inj.mp rfl
theorem kn_95 : (95 : Int32) = nI 95 := Int32.toBitVec_inj.mp rfl
theorem kn_96 : (96 : Int32) = nI 96 := Int32.toBitVec_inj.mp rfl
theorem kn_97 : (97 : Int32) = nI 97 := Int32.toBitVec_inj.mp rfl
theorem kn_98 : (98 : Int32) = nI 98 := Int32.toBitVec_inj.mp rfl
theorem kn_99 : (99 : Int32) = nI 99 := Int32.toBitVec_inj.mp rfl
theorem kn_100 : (100 : Int32) = nI 100 := Int32.toBitVec_inj.mp rfl
theorem kn_101 : (101 : Int32) = nI 101 := Int32.toBitVec_inj.mp rfl
theorem kn_102 : (102 : Int32) = nI 102 := Int32.toBitVec_inj.mp rfl
theorem kn_103 : (103 : Int32) = nI 103 := Int32.toBitVec_inj.mp rfl
theorem kn_104 : (104 : Int32) = nI 104 := Int32.toBitVec_inj.mp rfl
theorem kn_105 : (105 : Int32) = nI 105 := Int32.toBitVec_inj.mp rfl
theorem kn_106 : (106 : Int32) = nI 106 := Int32.toBitVec_inj.mp rfl
theorem kn_107 : (107 : Int32) = nI 107 := Int32.toBitVec_inj.mp rfl
theorem kn_108 : (108 : Int32) = nI 108 := Int32.toBitVec_inj.mp rfl
theorem kn_109 : (109 : Int32) = nI 109 := Int32.toBitVec_inj.mp rfl
theorem kn_110 : (110 : Int32) = nI 110 := Int32.toBitVec_inj.mp rfl
theorem kn_111 : (111 : Int32) = nI 111 := Int32.toBitVec_inj.mp rfl
theorem kn_112 : (112 : Int32) = nI 112 := Int32.toBitVec_inj.mp rfl
theorem kn_113 : (113 : Int32) = nI 113 := Int32.toBitVec_inj.mp rfl
theorem kn_114 : (114 : Int32) = nI 114 := Int32.toBitVec_inj.mp rfl
theorem kn_115 : (115 : Int32) = nI 115 := Int32.toBitVec_inj.mp rfl
theorem kn_116 : (116 : Int32) = nI 116 := Int32.toBitVec_inj.mp rfl
theorem kn_117 : (117 : Int32) = nI 117 := Int32.toBitVec_inj.mp rfl
theorem kn_118 : (118 : Int32) = nI 118 := Int32.toBitVec_inj.mp rfl
theorem kn_119 : (119 : Int32) = nI 119 := Int32.toBitVec_inj.mp rfl
theorem kn_120 : (120 : Int32) = nI 120 := Int32.toBitVec_inj.mp rfl
theorem kn_121 : (121 : Int32) = nI 121 := Int32.toBitVec_inj.mp rfl
theorem kn_122 : (122 : Int32) = nI 122 := Int32.toBitVec_inj.mp rfl
theorem kn_123 : (123 : Int32) = nI 123 := Int32.toBitVec_inj.mp rfl
theorem kn_124 : (124 : Int32) = nI 124 := Int32.toBitVec_inj.mp rfl
theorem kn_125 : (125 : Int32) = nI 125 := Int32.toBitVec_inj.mp rfl
theorem kn_126 : (126 : Int32) = nI 126 := Int32.toBitVec_inj.mp rfl
theorem kn_127 : (127 : Int32) = nI 127 := Int32.toBitVec_inj.mp rfl
theorem kn_204 : (204 : Int32) = nI 204 := Int32.toBitVec_inj.mp rfl
theorem kn_255 : (255 : Int32) = nI 255 := Int32.toBitVec_inj.mp rfl
theorem k_b0 (b : Bool) : (k_b b = 0) = (b = false) := by cases b <;> simp [k_b]
theorem k_b1 (b : Bool) : (k_b b = nI 0) = (b = false) := k_b0 b
theorem k_bs {α γ : Type} (a : α) (f : α → Option γ) : k_bd (some a) f = f a := rfl
theorem kn_m {p : Nat} (h : 0 < p) : nI p + -nI 1 = nI (p - 1) := sb_m1 h
theorem kn_m' {p : Nat} (h : 0 < p) : nI p + (-1) = nI (p - 1) := sb_m1 h
theorem k_mx {a b : Nat} (ha : a < 2 ^ 31) (hb : b < 2 ^ 31) : k_max (nI a) (nI b) = nI (Nat.max a b) := by
  unfold k_max
  by_cases c : a < b
  · rw [if_pos ((nI_ltI ha hb).mpr c), show Nat.max a b = b from Nat.max_eq_right (by omega)]
  · rw [if_neg (fun h => c ((nI_ltI ha hb).mp h)), show Nat.max a b = a from Nat.max_eq_left (by omega)]
theorem k_mx0 {w d : Nat} (hw : w < 100) (hd : d < 100) : k_max (nI 0) (nI w - nI d) = nI (w - d) := by
  by_cases c : d ≤ w
  · rw [pk_sub c, k_mx (by omega) (by omega)]
    congr 1
  · unfold k_max
    have h1 : nI w - nI d < 0 := pk_sneg (by omega) (by omega)
    have h2 : ¬ nI 0 < nI w - nI d := fun h => absurd (Int32.lt_trans h h1) (Int32.lt_irrefl)
    rw [if_neg h2, show w - d = 0 by omega]
theorem b_ok_le' {f : Nat → Nat} (h : b_ok f) {i : Nat} (hi : i < 18) : f i ≤ 6 := b_ok_le h hi
theorem k_fix1 {F : Type} {z : F} {st : F → F} {n : Nat} (h : 0 < n) : k_fix z st n = st (k_fix z st (n - 1)) := by
  cases n with
  | zero => omega
  | succ n => rfl
theorem k_F1 {F : Type} {z : F} {st : F → F} : k_fix z st k_F = st (k_fix z st 4095) := rfl
theorem k_g_in {α : Type} {n N : Nat} {k : Option α} (h : n < N) (hN : N < 2 ^ 31) : k_g (nI n) N k = k := by
  unfold k_g
  exact if_neg (nI_in h hN)
theorem kI_ne0 {n : Nat} (h0 : 0 < n) (h : n < 2 ^ 31) : ¬ nI n = nI 0 := nI_ne0 h0 h
theorem kI_nle {n : Nat} (h0 : 0 < n) (h : n < 2 ^ 31) : ¬ nI n ≤ nI 0 := nI_nle h0 h
theorem kI_neq {a b : Nat} (h : a ≠ b) (ha : a < 2 ^ 31) (hb : b < 2 ^ 31) : ¬ nI a = nI b := fun q => h ((nI_eq ha hb).mp q)
