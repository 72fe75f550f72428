/-! shots, as the reference finds them -/
theorem pl_tgt {p w d t : Nat} (hp : p < 2) (hw : w ≤ 17) (ht1 : 1 ≤ t) (ht : t ≤ 16) : (pl p (w - d) = pl p t) ↔ w = t + d := by
  rw [pl_eq p hp (w - d) (by omega) t (by omega)]
  omega
theorem tr_w {p w : Nat} (hp : p < 2) (h1 : 1 ≤ w) (hw : w ≤ 17) : tr p w < 17 ∧ tr p (tr p w) = w := by
  have h17 := tr_17 p hp w (by omega)
  have hl := tr_lt p hp w (by omega)
  exact ⟨by omega, tr_tr p hp w (by omega)⟩
theorem tr_q {p q : Nat} (hp : p < 2) (hq : q < 17) : 1 ≤ tr p q ∧ tr p q ≤ 17 := by
  have ht := tr_lt p hp q (by omega)
  have h0 : tr p q ≠ 0 := fun z => by have := tr_tr p hp q (by omega); rw [z] at this; have := (tr_17 p hp 0 (by omega)).mpr rfl; omega
  omega
def g_hb2 (P : GP) (t o : Nat) : Prop := g_A P o (t + o)
theorem r_hits65 {s laid : Nat → Int32} {p d o t : Nat} (hp : p < 2) (ho1 : 1 ≤ o) (ho : o < 7) (ht1 : 1 ≤ t) (ht : t ≤ 16) (hl : ∀ k, k < 36 → laid k = s k)
    {k6 : Bool → Int32 → (Nat → Int32) → (Nat → Int32) → Option (Bool × (Nat → Int32) × (Nat → Int32))} {l6 : Int32} {P' : GP} (hP' : g_ok P') {s' : Nat → Int32} (hB : RB s' p P') (hhi : ∀ k, 36 ≤ k → s' k = s k) :
    ∀ (j q m : Nat) (b : Bool), q + j = 17 → j < m → ∃ b', k_fix (fun _ _ _ _ _ => none) (mX10_hitsBy_65 (nI p) (pl p t) (nI d) (nI o) k6) m b l6 (qm q) s' laid = k6 b' (l6 + nI 1) s laid ∧ (b' = true ↔ (b = true ∨ ∃ x, q ≤ x ∧ x < 17 ∧ tr p x = t + o ∧ g_hb2 P' t o)) := by
  have hend : ∀ b, mX10_hitsBy_114 (nI p) (pl p t) (nI d) (nI o) k6 b l6 s' laid = k6 b (l6 + nI 1) s laid := fun b => by
    unfold mX10_hitsBy_114
    simp only [kn_0, kn_1]
    rw [r_takes (s0 := s) (by omega) (fun k hk => by rw [Nat.mul_zero, Nat.zero_add]; exact hl k hk) hhi, k_bs]
  intro j
  induction j with
  | zero =>
    intro q m b hq hm
    refine ⟨b, ?_, ⟨Or.inl, fun z => z.elim id (fun ⟨x, a, c, _⟩ => by omega)⟩⟩
    rw [k_fix1 hm, mX10_hitsBy_65, show q = 17 by omega]
    simp only [kn_16]
    rw [if_pos ((qm_end 17 (by omega)).mpr rfl), hend]
  | succ j ih =>
    intro q m b hq hm
    obtain ⟨t1, t2⟩ := tr_q hp (q := q) (by omega)
    have hbl := g_ban_lt (f := P'.1) (g := P'.2) (d := o) (w := tr p q)
    have hne : ¬ nI 16 ≤ qm q := fun z => by have := (qm_end q (by omega)).mp z; omega
    rw [k_fix1 (by omega), mX10_hitsBy_65]
    simp only [kn_16, kn_0, kn_1, k_b1]
    rw [if_neg hne, hend]
    cases b
    · rw [if_pos rfl, qm_s, qm_pl hp (by omega), r_refused hp hP' hB t1 t2 ho1 ho, k_bs, r_target p hp _ (by omega) t1 o ho ho1, k_bs]
      have grow : ∀ {b' : Bool} {b1 : Bool}, (b' = true ↔ (b1 = true ∨ ∃ x, q + 1 ≤ x ∧ x < 17 ∧ tr p x = t + o ∧ g_hb2 P' t o)) → (b1 = true ↔ (tr p q = t + o ∧ g_hb2 P' t o)) → (b' = true ↔ (false = true ∨ ∃ x, q ≤ x ∧ x < 17 ∧ tr p x = t + o ∧ g_hb2 P' t o)) := fun {b' b1} h1 h2 => by
        rw [h1, h2]
        constructor
        · rintro (h | ⟨x, x1, x2, x3⟩)
          · exact Or.inr ⟨q, Nat.le_refl _, by omega, h⟩
          · exact Or.inr ⟨x, by omega, x2, x3⟩
        · rintro (h | ⟨x, x1, x2, x3⟩)
          · exact (nomatch h)
          · by_cases c : x = q
            · subst c; exact Or.inl x3
            · exact Or.inr ⟨x, by omega, x2, x3⟩
      by_cases c : g_ban P'.1 P'.2 o (tr p q) = 0
      · rw [if_pos (by rw [c])]
        by_cases c2 : tr p q = t + o
        · rw [if_pos ((pl_tgt hp t2 ht1 ht).mpr c2)]
          obtain ⟨b', e1, e2⟩ := ih (q + 1) (m - 1) true (by omega) (by omega)
          exact ⟨b', e1, grow e2 ⟨fun _ => ⟨c2, by unfold g_hb2; rw [← c2]; exact ⟨t1, t2, c⟩⟩, fun _ => rfl⟩⟩
        · rw [if_neg (fun z => c2 ((pl_tgt hp t2 ht1 ht).mp z))]
          obtain ⟨b', e1, e2⟩ := ih (q + 1) (m - 1) false (by omega) (by omega)
          exact ⟨b', e1, grow e2 ⟨fun z => (nomatch z), fun z => absurd z.1 c2⟩⟩
      · rw [if_neg (kI_ne0 (by omega) (by omega))]
        obtain ⟨b', e1, e2⟩ := ih (q + 1) (m - 1) false (by omega) (by omega)
        refine ⟨b', e1, grow e2 ⟨fun z => (nomatch z), fun z => ?_⟩⟩
        have := z.2
        unfold g_hb2 at this
        rw [← z.1] at this
        exact absurd this.2.2 c
    · rw [if_neg (fun z => (nomatch z))]
      exact ⟨true, rfl, ⟨fun _ => Or.inl rfl, fun _ => rfl⟩⟩
def g_hbP (P : GP) (t d o : Nat) : Prop := ∃ w, g_A P d w ∧ (w = t + d ∨ g_A (g_st P d w) o (t + o))
theorem r_hitsBy {s laid : Nat → Int32} {p d o t : Nat} {P : GP} (hp : p < 2) (hP : g_ok P) (h : RB s p P) (hd1 : 1 ≤ d) (hd : d < 7) (ho1 : 1 ≤ o) (ho : o < 7) (ht1 : 1 ≤ t) (ht : t ≤ 16) :
    ∃ b laid', mX10_hitsBy s laid (nI p) (pl p t) (nI d) (nI o) = some (b, s, laid') ∧ (b = true ↔ g_hbP P t d o) := by
  have key : ∀ (j q m : Nat) (b : Bool) (laid : Nat → Int32), q + j = 17 → j < m → ∃ b' laid', k_fix (fun _ _ _ _ => none) (mX10_hitsBy_6 (nI p) (pl p t) (nI d) (nI o)) m b (qm q) s laid = some (b', s, laid') ∧ (b' = true ↔ (b = true ∨ ∃ x, q ≤ x ∧ x < 17 ∧ g_A P d (tr p x) ∧ (tr p x = t + d ∨ g_A (g_st P d (tr p x)) o (t + o)))) := by
    intro j
    induction j with
    | zero =>
      intro q m b laid hq hm
      refine ⟨b, laid, ?_, ⟨Or.inl, fun z => z.elim id (fun ⟨x, a, c, _⟩ => by omega)⟩⟩
      rw [k_fix1 hm, mX10_hitsBy_6, show q = 17 by omega]
      simp only [kn_16]
      rw [if_pos ((qm_end 17 (by omega)).mpr rfl)]
    | succ j ih =>
      intro q m b laid hq hm
      obtain ⟨t1, t2⟩ := tr_q hp (q := q) (by omega)
      have hbl := g_ban_lt (f := P.1) (g := P.2) (d := d) (w := tr p q)
      have hne : ¬ nI 16 ≤ qm q := fun z => by have := (qm_end q (by omega)).mp z; omega
      rw [k_fix1 (by omega), mX10_hitsBy_6]
      simp only [kn_16, kn_0, kn_1, k_b1]
      rw [if_neg hne]
      cases b
      rotate_left
      · rw [if_neg (fun z => (nomatch z))]
        exact ⟨true, laid, rfl, ⟨fun _ => Or.inl rfl, fun _ => rfl⟩⟩
      rw [if_pos rfl, qm_pl hp (by omega), r_refused hp hP h t1 t2 hd1 hd, k_bs, r_target p hp _ (by omega) t1 d hd hd1, k_bs]
      by_cases c : g_ban P.1 P.2 d (tr p q) = 0
      · have hA : g_A P d (tr p q) := ⟨t1, t2, c⟩
        obtain ⟨l1, a1, a2, -⟩ := r_lays (s := s) (laid := laid) (lv := 0) (by omega)
        obtain ⟨s', b1, b2, b3⟩ := r_moves hp hP h t1 t2 hd1 hd (g_ban0.mp c).1
        have e45 : ∀ b0 : Bool, ∃ b' laid', mX10_hitsBy_45 (nI p) (pl p t) (nI d) (nI o) (k_fix (fun _ _ _ _ => none) (mX10_hitsBy_6 (nI p) (pl p t) (nI d) (nI o)) (m - 1)) b0 (pl p (tr p q)) s laid = some (b', s, laid') ∧ (b' = true ↔ ((b0 = true ∨ g_A (g_st P d (tr p q)) o (t + o)) ∨ ∃ x, q + 1 ≤ x ∧ x < 17 ∧ g_A P d (tr p x) ∧ (tr p x = t + d ∨ g_A (g_st P d (tr p x)) o (t + o)))) := by
          intro b0
          unfold mX10_hitsBy_45
          simp only [kn_0, kn_1]
          rw [a1, k_bs, k_bd2_some b1, ← qm_0]
          obtain ⟨b', e1, e2⟩ := r_hits65 (laid := l1) (d := d) (l6 := pl p (tr p q)) (k6 := k_fix (fun _ _ _ _ => none) (mX10_hitsBy_6 (nI p) (pl p t) (nI d) (nI o)) (m - 1)) hp ho1 ho ht1 ht (fun k hk => by have := a2 k hk; rwa [Nat.mul_zero, Nat.zero_add] at this) (g_ok_st hP hA) b2 b3 17 0 k_F b0 (by omega) (by unfold k_F; omega)
          rw [e1, ← qm_pl hp (by omega), qm_s]
          obtain ⟨b'', l2, e3, e4⟩ := ih (q + 1) (m - 1) b' l1 (by omega) (by omega)
          refine ⟨b'', l2, e3, e4.trans ?_⟩
          rw [e2]
          have : (∃ x, 0 ≤ x ∧ x < 17 ∧ tr p x = t + o ∧ g_hb2 (g_st P d (tr p q)) t o) ↔ g_A (g_st P d (tr p q)) o (t + o) := by
            constructor
            · intro ⟨x, _, _, _, z⟩; exact z
            · intro z
              obtain ⟨y1, y2⟩ := tr_w hp (w := t + o) (by omega) z.2.1
              exact ⟨tr p (t + o), Nat.zero_le _, y1, y2, z⟩
          rw [this]
        rw [if_pos (by rw [c])]
        by_cases c2 : tr p q = t + d
        · rw [if_pos ((pl_tgt hp t2 ht1 ht).mpr c2)]
          obtain ⟨b', l2, e1, e2⟩ := e45 true
          refine ⟨b', l2, e1, e2.trans ⟨fun _ => Or.inr ⟨q, Nat.le_refl _, by omega, hA, Or.inl c2⟩, fun _ => Or.inl (Or.inl rfl)⟩⟩
        · rw [if_neg (fun z => c2 ((pl_tgt hp t2 ht1 ht).mp z))]
          obtain ⟨b', l2, e1, e2⟩ := e45 false
          refine ⟨b', l2, e1, e2.trans ?_⟩
          constructor
          · rintro ((z | z) | ⟨x, x1, x2, x3⟩)
            · exact (nomatch z)
            · exact Or.inr ⟨q, Nat.le_refl _, by omega, hA, Or.inr z⟩
            · exact Or.inr ⟨x, by omega, x2, x3⟩
          · rintro (z | ⟨x, x1, x2, x3⟩)
            · exact (nomatch z)
            · by_cases cx : x = q
              · subst cx; exact Or.inl (Or.inr (x3.2.elim (fun y => absurd y c2) id))
              · exact Or.inr ⟨x, by omega, x2, x3⟩
      · rw [if_neg (kI_ne0 (by omega) (by omega)), ← qm_pl hp (by omega), qm_s]
        obtain ⟨b', l2, e1, e2⟩ := ih (q + 1) (m - 1) false laid (by omega) (by omega)
        refine ⟨b', l2, e1, e2.trans ?_⟩
        constructor
        · rintro (z | ⟨x, x1, x2, x3⟩)
          · exact (nomatch z)
          · exact Or.inr ⟨x, by omega, x2, x3⟩
        · rintro (z | ⟨x, x1, x2, x3⟩)
          · exact (nomatch z)
          · by_cases cx : x = q
            · subst cx; exact absurd x3.1.2.2 c
            · exact Or.inr ⟨x, by omega, x2, x3⟩
  obtain ⟨b, l1, e1, e2⟩ := key 17 0 k_F false laid (by omega) (by unfold k_F; omega)
  refine ⟨b, l1, ?_, e2.trans ?_⟩
  · unfold mX10_hitsBy
    simp only [kn_1]
    rw [← qm_0, e1]
  · constructor
    · rintro (z | ⟨x, _, _, x3⟩)
      · exact (nomatch z)
      · exact ⟨_, x3⟩
    · intro ⟨w, hw, hw2⟩
      obtain ⟨y1, y2⟩ := tr_w hp hw.1 hw.2.1
      exact Or.inr ⟨tr p w, Nat.zero_le _, y1, by rw [y2]; exact ⟨hw, hw2⟩⟩
theorem g_thv {g : Nat → Nat} {d w i : Nat} (hi : i ≠ 17) : (2 ≤ g_th g d w i ↔ 2 ≤ g i) := by
  have := g_th_le (g := g) (d := d) (w := w) hi
  omega
/-- two unlike dice: both ways of looking find the same -/
theorem g_hb_eq {P : GP} {t a b : Nat} (hP : g_ok P) (ht1 : 1 ≤ t) (ht : t ≤ 16) (hb : P.2 (17 - t) = 1) (ha1 : 1 ≤ a) (ha : a < 7) (hb1 : 1 ≤ b) (hb7 : b < 7) :
    (c_ho P.2 t [a, b] P.1 = true → g_hbP P t a b ∨ g_hbP P t b a) ∧ (g_hbP P t a b → c_ho P.2 t [a, b] P.1 = true ∨ c_ho P.2 t [b, a] P.1 = true) := by
  obtain ⟨f, g⟩ := P
  dsimp only at hb ⊢
  have hwk1 : ∀ (w : Nat), c_wk g t [b] w = true ↔ w = t + b := fun w => by
    show (if w = t + b then true else if w < t + b then false else if 2 ≤ g (17 - (w - b)) then false else false) = true ↔ _
    by_cases c : w = t + b
    · rw [if_pos c]; exact ⟨fun _ => c, fun _ => rfl⟩
    · rw [if_neg c, ite_self, ite_self]; exact ⟨fun z => (nomatch z), fun z => absurd z c⟩
  have hwk2 : ∀ (w : Nat), c_wk g t [a, b] w = true ↔ (w = t + a ∨ (t + a < w ∧ ¬ 2 ≤ g (17 - (w - a)) ∧ w - a = t + b)) := fun w => by
    show (if w = t + a then true else if w < t + a then false else if 2 ≤ g (17 - (w - a)) then false else c_wk g t [b] (w - a)) = true ↔ _
    by_cases c : w = t + a
    · rw [if_pos c]; exact ⟨fun _ => Or.inl c, fun _ => rfl⟩
    · rw [if_neg c]
      by_cases c2 : w < t + a
      · rw [if_pos c2]; exact ⟨fun z => (nomatch z), fun z => by omega⟩
      · rw [if_neg c2]
        by_cases c3 : 2 ≤ g (17 - (w - a))
        · rw [if_pos c3]; exact ⟨fun z => (nomatch z), fun z => z.elim (fun y => absurd y c) (fun y => absurd c3 y.2.1)⟩
        · rw [if_neg c3, hwk1]; exact ⟨fun z => Or.inr ⟨by omega, c3, z⟩, fun z => z.elim (fun y => absurd y c) (fun y => y.2.2)⟩
  have hn : f 18 = 0 := (hP.2.2 18 (by omega)).1
  constructor
  · intro h
    have h : (if 0 < f 17 then (if 17 - a = t then true else if 2 ≤ g a then false else c_ho g t [b] (b_mv f 17 (17 - a))) else c_aw f g t [a, b] (t + 1) (16 - t)) = true := h
    by_cases c17 : 0 < f 17
    · rw [if_pos c17] at h
      have hA : ¬ 2 ≤ g a → g_A (f, g) a 17 := fun c => ⟨by omega, by omega, g_ban0.mpr ⟨c17, Or.inl rfl, fun _ => by
        show g (17 - (17 - a)) ≤ 1
        rw [show 17 - (17 - a) = a by omega]; omega, fun z => by omega⟩⟩
      by_cases c1 : 17 - a = t
      · have ga : g a = 1 := by rw [show a = 17 - t by omega]; exact hb
        exact Or.inl ⟨17, hA (by omega), Or.inl (by omega)⟩
      · rw [if_neg c1] at h
        by_cases c2 : 2 ≤ g a
        · rw [if_pos c2] at h; exact (nomatch h)
        · rw [if_neg c2] at h
          have h : (if 0 < b_mv f 17 (17 - a) 17 then (if 17 - b = t then true else if 2 ≤ g b then false else c_ho g t [] (b_mv (b_mv f 17 (17 - a)) 17 (17 - b))) else c_aw (b_mv f 17 (17 - a)) g t [b] (t + 1) (16 - t)) = true := h
          have e17 : b_mv f 17 (17 - a) 17 = f 17 - 1 := by rw [b_mv_at, if_pos rfl, if_neg (by omega)]; omega
          refine Or.inl ⟨17, hA c2, Or.inr ?_⟩
          have hgt : g_th g a 17 (17 - t) ≤ 1 := Nat.le_trans (g_th_le (by omega)).1 (by omega)
          by_cases c3 : 0 < b_mv f 17 (17 - a) 17
          · rw [if_pos c3] at h
            have h17 : t + b = 17 := by
              by_cases c4 : 17 - b = t
              · omega
              · rw [if_neg c4] at h
                by_cases c5 : 2 ≤ g b
                · rw [if_pos c5] at h; exact (nomatch h)
                · rw [if_neg c5] at h
                  obtain ⟨v, _, _, _, hv⟩ := c_aw_iff.mp h
                  exact (nomatch hv)
            rw [h17]
            refine ⟨by omega, by omega, g_ban0.mpr ⟨c3, Or.inl rfl, fun _ => ?_, fun z => by omega⟩⟩
            show g_th g a 17 (17 - (17 - b)) ≤ 1
            rw [show 17 - (17 - b) = 17 - t by omega]; exact hgt
          · rw [if_neg c3] at h
            obtain ⟨v, v1, v2, v3, hv⟩ := c_aw_iff.mp h
            have hv := (hwk1 v).mp hv
            subst hv
            refine ⟨by omega, by omega, g_ban0.mpr ⟨v3, Or.inr (by show b_mv f 17 (17 - a) 17 = 0; omega), fun _ => ?_, fun z => by omega⟩⟩
            show g_th g a 17 (17 - (t + b - b)) ≤ 1
            rw [show t + b - b = t by omega]; exact hgt
    · rw [if_neg c17] at h
      obtain ⟨w, w1, w2, w3, hw⟩ := c_aw_iff.mp h
      rcases (hwk2 w).mp hw with e | ⟨e1, e2, e3⟩
      · refine Or.inl ⟨w, ⟨by omega, by omega, g_ban0.mpr ⟨w3, Or.inr (by show f 17 = 0; omega), fun _ => ?_, fun z => by omega⟩⟩, Or.inl e⟩
        show g (17 - (w - a)) ≤ 1
        rw [show w - a = t by omega]; omega
      · refine Or.inl ⟨w, ⟨by omega, by omega, g_ban0.mpr ⟨w3, Or.inr (by show f 17 = 0; omega), fun _ => by show g (17 - (w - a)) ≤ 1; omega, fun z => by omega⟩⟩, Or.inr ?_⟩
        rw [← e3]
        refine ⟨by omega, by omega, g_ban0.mpr ⟨?_, Or.inr ?_, fun _ => ?_, fun z => by omega⟩⟩
        · show 0 < g_mv f a w (w - a)
          rw [g_mv_at, if_pos (c := w - a = w - a) rfl]; omega
        · show g_mv f a w 17 = 0
          rw [g_mv_at, if_neg (c := 17 = w - a) (by omega)]; omega
        · show g_th g a w (17 - (w - a - b)) ≤ 1
          rw [show w - a - b = t by omega]
          exact Nat.le_trans (g_th_le (by omega)).1 (by omega)
  · rintro ⟨w, hA, h⟩
    obtain ⟨a1, a2, a3, a4⟩ := g_ban0.mp hA.2.2
    dsimp only at a1 a2 a3 a4
    have hw2 := hA.2.1
    by_cases c17 : 0 < f 17
    · have hw : w = 17 := by omega
      subst hw
      have ga : g a ≤ 1 := by have := a3 (by omega); rwa [show 17 - (17 - a) = a by omega] at this
      left
      show (if 0 < f 17 then (if 17 - a = t then true else if 2 ≤ g a then false else c_ho g t [b] (b_mv f 17 (17 - a))) else c_aw f g t [a, b] (t + 1) (16 - t)) = true
      rw [if_pos c17]
      rcases h with h | h
      · rw [if_pos (by omega)]
      · by_cases c1 : 17 - a = t
        · rw [if_pos c1]
        · rw [if_neg c1, if_neg (by omega)]
          obtain ⟨b1, b2, b3, b4⟩ := g_ban0.mp h.2.2
          have b1 : 0 < b_mv f 17 (17 - a) (t + b) := b1
          have b2 : t + b = 17 ∨ b_mv f 17 (17 - a) 17 = 0 := b2
          show (if 0 < b_mv f 17 (17 - a) 17 then (if 17 - b = t then true else if 2 ≤ g b then false else c_ho g t [] (b_mv (b_mv f 17 (17 - a)) 17 (17 - b))) else c_aw (b_mv f 17 (17 - a)) g t [b] (t + 1) (16 - t)) = true
          by_cases c3 : 0 < b_mv f 17 (17 - a) 17
          · rw [if_pos c3, if_pos (by omega)]
          · rw [if_neg c3]
            have h17 := h.2.1
            have hne : t + b ≠ 17 := fun z => by rw [z] at b1; exact c3 b1
            exact c_aw_iff.mpr ⟨t + b, by omega, by omega, b1, (hwk1 _).mpr rfl⟩
    · have f17 : f 17 = 0 := by omega
      have hw17 : w ≠ 17 := fun z => by subst z; omega
      have aw : ∀ x y, c_ho g t [x, y] f = c_aw f g t [x, y] (t + 1) (16 - t) := fun x y => if_neg c17
      rw [aw, aw]
      rcases h with h | h
      · left
        exact c_aw_iff.mpr ⟨w, by omega, by omega, a1, (hwk2 w).mpr (Or.inl h)⟩
      · obtain ⟨b1, b2, b3, b4⟩ := g_ban0.mp h.2.2
        have b1 : 0 < g_mv f a w (t + b) := b1
        rw [g_mv_at] at b1
        by_cases c1 : t + b = w - a
        · left
          have hg := a3 (by omega)
          exact c_aw_iff.mpr ⟨w, by omega, by omega, a1, (hwk2 w).mpr (Or.inr ⟨by omega, by omega, c1.symm⟩)⟩
        · right
          rw [if_neg c1] at b1
          have h17 := h.2.1
          have hne : t + b ≠ 17 := fun z => by rw [z] at b1; omega
          refine c_aw_iff.mpr ⟨t + b, by omega, by omega, by omega, ?_⟩
          show (if t + b = t + b then true else _) = true
          rw [if_pos rfl]
