/-! shots with like dice, all shots, as the reference finds them -/
def r_wl (g : Nat → Nat) (t d : Nat) : Nat → Nat → Bool
  | 0, _ => false
  | n + 1, x => if x ≤ d then false else if 2 ≤ g (17 - (x - d)) then false else (decide (x - d = t) || r_wl g t d n (x - d))
theorem r_wl_eq {g : Nat → Nat} {t d : Nat} (hd : 1 ≤ d) (ht : 1 ≤ t) (hb : g (17 - t) = 1) : ∀ (n x : Nat), r_wl g t d n x = c_wk g t (List.replicate n d) x
  | 0, _ => rfl
  | n + 1, x => by
    have ih := r_wl_eq (g := g) hd ht hb n
    show (if x ≤ d then false else if 2 ≤ g (17 - (x - d)) then false else (decide (x - d = t) || r_wl g t d n (x - d))) = (if x = t + d then true else if x < t + d then false else if 2 ≤ g (17 - (x - d)) then false else c_wk g t (List.replicate n d) (x - d))
    rw [ih]
    by_cases c1 : x = t + d
    · rw [if_neg (c := x ≤ d) (by omega), if_pos c1, if_neg (by rw [show x - d = t by omega, hb]; omega), decide_eq_true (by omega)]; rfl
    · rw [if_neg c1, decide_eq_false (p := x - d = t) (by omega), Bool.false_or]
      by_cases c2 : x < t + d
      · rw [if_pos c2]
        have hf : c_wk g t (List.replicate n d) (x - d) = false := by
          cases n with
          | zero => rfl
          | succ n =>
            show (if x - d = t + d then true else if x - d < t + d then false else _) = false
            rw [if_neg (by omega), if_pos (by omega)]
        rw [hf, ite_self, ite_self]
      · rw [if_neg c2, if_neg (c := x ≤ d) (by omega)]
theorem r_like120 {s' laid : Nat → Int32} {p d t : Nat} {g g' : Nat → Nat} (hp : p < 2) (hd1 : 1 ≤ d) (hd : d < 7) (ht1 : 1 ≤ t) (ht : t ≤ 16) (hg' : b_ok g') (hB : RH s' (1 - p) g') (hgg : ∀ i, i ≠ 17 → (2 ≤ g' i ↔ 2 ≤ g i))
    {k89 : Bool → Int32 → Int32 → (Nat → Int32) → (Nat → Int32) → Option (Bool × (Nat → Int32) × (Nat → Int32))} {l6 : Int32} {left : Nat} (hleft : left < 5) :
    ∀ (j k m x : Nat) (is goes : Bool), k + j = left → j < m → 1 ≤ x → x ≤ 16 → k_fix (fun _ _ _ _ _ _ _ _ => none) (mX10_hitsByLike_120 (nI p) (pl p t) (nI d) k89) m is (nI left) l6 (pl p x) goes (nI k) s' laid = k89 (is || (goes && r_wl g t d j x)) (nI left) (l6 + nI 1) s' laid := by
  intro j
  induction j with
  | zero =>
    intro k m x is goes hk hm hx1 hx
    rw [k_fix1 hm, mX10_hitsByLike_120]
    simp only [kn_1]
    rw [if_pos (nI_le (by omega) (by omega))]
    show _ = k89 (is || (goes && false)) _ _ _ _
    rw [Bool.and_false, Bool.or_false]
  | succ j ih =>
    intro k m x is goes hk hm hx1 hx
    rw [k_fix1 (by omega), mX10_hitsByLike_120]
    unfold mX10_hitsByLike_164 mX10_hitsByLike_165
    simp only [kn_0, kn_1, kn_16, k_b1]
    rw [if_neg (nI_ge (by omega) (by omega))]
    cases goes
    · rw [if_pos (by trivial), Bool.false_and, Bool.or_false]
    · rw [if_neg (fun z => (nomatch z)), r_target p hp x (by omega) hx1 d hd hd1, k_bs, r_1p hp, r_isBlock hp (by omega) hg' hB, k_bs, pl_off p hp, nI_add, Bool.true_and]
      show _ = k89 (is || (if x ≤ d then false else if 2 ≤ g (17 - (x - d)) then false else (decide (x - d = t) || r_wl g t d j (x - d)))) _ _ _ _
      have dead : ∀ (is : Bool) (y : Nat), 1 ≤ y ∨ y = 0 → y ≤ 16 → k_fix (fun _ _ _ _ _ _ _ _ => none) (mX10_hitsByLike_120 (nI p) (pl p t) (nI d) k89) (m - 1) is (nI left) l6 (pl p y) false (nI (k + 1)) s' laid = k89 is (nI left) (l6 + nI 1) s' laid := by
        intro is y _ _
        rw [k_fix1 (by omega), mX10_hitsByLike_120]
        simp only [kn_0, kn_1, k_b1]
        by_cases c : left ≤ k + 1
        · rw [if_pos (nI_le c (by omega))]
        · rw [if_neg (nI_ge (by omega) (by omega)), if_pos (by trivial)]
      by_cases c1 : x ≤ d
      · rw [if_pos ((pl_eq p hp (x - d) (by omega) 0 (by omega)).mpr (by omega)), if_pos c1, Bool.or_false]
        cases is
        · rw [if_pos (by trivial), if_pos (by trivial), dead false (x - d) (by omega) (by omega)]
        · rw [if_neg (fun z => (nomatch z)), dead true (x - d) (by omega) (by omega)]
      · rw [if_neg (fun z => by have := (pl_eq p hp (x - d) (by omega) 0 (by omega)).mp z; omega), if_neg c1]
        by_cases c2 : 2 ≤ g (17 - (x - d))
        · rw [decide_eq_true ⟨by omega, (hgg _ (by omega)).mpr c2⟩, if_neg (c := true = false) (fun z => (nomatch z)), if_pos c2, Bool.or_false]
          cases is
          · rw [if_pos (by trivial), if_pos (by trivial), dead false (x - d) (by omega) (by omega)]
          · rw [if_neg (fun z => (nomatch z)), dead true (x - d) (by omega) (by omega)]
        · rw [decide_eq_false (fun z => c2 ((hgg _ (by omega)).mp z.2)), if_pos (c := false = false) rfl, if_neg c2]
          cases is
          · rw [if_pos (by trivial), if_neg (fun z => (nomatch z)), Bool.false_or]
            by_cases c3 : x - d = t
            · rw [if_pos (by rw [c3]), ih (k + 1) (m - 1) (x - d) true true (by omega) (by omega) (by omega) (by omega), decide_eq_true c3, Bool.true_or, Bool.true_or]
            · rw [if_neg (fun z => c3 ((pl_eq p hp (x - d) (by omega) t (by omega)).mp z)), ih (k + 1) (m - 1) (x - d) false true (by omega) (by omega) (by omega) (by omega), decide_eq_false c3, Bool.false_or, Bool.false_or, Bool.true_and]
          · rw [if_neg (fun z => (nomatch z)), ih (k + 1) (m - 1) (x - d) true true (by omega) (by omega) (by omega) (by omega), Bool.true_or, Bool.true_or]
theorem r_like89 {s s' laid : Nat → Int32} {p d t : Nat} {f g g' : Nat → Nat} (hp : p < 2) (hd1 : 1 ≤ d) (hd : d < 7) (ht1 : 1 ≤ t) (ht : t ≤ 16) (hf : b_ok f) (hB0 : RH s' p f) (hg' : b_ok g') (hB : RH s' (1 - p) g') (hgg : ∀ i, i ≠ 17 → (2 ≤ g' i ↔ 2 ≤ g i))
    (hl : ∀ k, k < 36 → laid k = s k) (hhi : ∀ k, 36 ≤ k → s' k = s k) {left : Nat} (hleft : left < 5) :
    ∀ (j q m : Nat) (is : Bool), q + j = 17 → j < m → 1 ≤ q → ∃ b', k_fix (fun _ _ _ _ _ => none) (mX10_hitsByLike_89 (nI p) (pl p t) (nI d)) m is (nI left) (qm q) s' laid = some (b', s, laid) ∧ (b' = true ↔ (is = true ∨ ∃ x, q ≤ x ∧ x < 17 ∧ 0 < f (tr p x) ∧ r_wl g t d left (tr p x) = true)) := by
  intro j
  induction j with
  | zero =>
    intro q m is hq hm hq1
    refine ⟨is, ?_, ⟨Or.inl, fun z => z.elim id (fun ⟨x, a, c, _⟩ => by omega)⟩⟩
    rw [k_fix1 hm, mX10_hitsByLike_89, show q = 17 by omega]
    unfold mX10_hitsByLike_202
    simp only [kn_16, kn_0]
    rw [if_pos ((qm_end 17 (by omega)).mpr rfl), r_takes (s0 := s) (by omega) (fun k hk => by rw [Nat.mul_zero, Nat.zero_add]; exact hl k hk) hhi, k_bs]
  | succ j ih =>
    intro q m is hq hm hq1
    obtain ⟨t1, t2⟩ := tr_q hp (q := q) (by omega)
    have t3 : tr p q ≤ 16 := by
      unfold tr
      rcases (by omega : p = 0 ∨ p = 1) with e | e
      · subst e; rw [if_pos rfl]; omega
      · subst e; rw [if_neg (by omega), if_neg (by omega), if_neg (by omega)]; omega
    have hfl := b_ok_le hf (i := tr p q) (by omega)
    have hne : ¬ nI 16 ≤ qm q := fun z => by have := (qm_end q (by omega)).mp z; omega
    have e115 : ∀ goes : Bool, mX10_hitsByLike_115 (nI p) (pl p t) (nI d) (k_fix (fun _ _ _ _ _ => none) (mX10_hitsByLike_89 (nI p) (pl p t) (nI d)) (m - 1)) goes is (nI left) (pl p (tr p q)) (pl p (tr p q)) s' laid = k_fix (fun _ _ _ _ _ => none) (mX10_hitsByLike_89 (nI p) (pl p t) (nI d)) (m - 1) (is || (goes && r_wl g t d left (tr p q))) (nI left) (qm (q + 1)) s' laid := fun goes => by
      unfold mX10_hitsByLike_115
      simp only [kn_0]
      rw [r_like120 (g := g) hp hd1 hd ht1 ht hg' hB hgg hleft left 0 k_F (tr p q) is goes (by omega) (by unfold k_F; omega) t1 t3, ← qm_pl hp (by omega), qm_s]
    rw [k_fix1 (by omega), mX10_hitsByLike_89]
    simp only [kn_16, kn_0]
    rw [if_neg hne, qm_pl hp (by omega), r_at hp (by omega), k_bs, hB0 _ (by omega), e115, e115]
    obtain ⟨b1, e1, e2⟩ := ih (q + 1) (m - 1) (is || (true && r_wl g t d left (tr p q))) (by omega) (by omega) (by omega)
    obtain ⟨b2, e3, e4⟩ := ih (q + 1) (m - 1) (is || (false && r_wl g t d left (tr p q))) (by omega) (by omega) (by omega)
    by_cases c : 0 < f (tr p q)
    · rw [if_neg (kI_nle c (by omega))]
      refine ⟨b1, e1, e2.trans ?_⟩
      rw [Bool.true_and, Bool.or_eq_true]
      constructor
      · rintro ((z | z) | ⟨x, x1, x2, x3⟩)
        · exact Or.inl z
        · exact Or.inr ⟨q, Nat.le_refl _, by omega, c, z⟩
        · exact Or.inr ⟨x, by omega, x2, x3⟩
      · rintro (z | ⟨x, x1, x2, x3⟩)
        · exact Or.inl (Or.inl z)
        · by_cases cx : x = q
          · subst cx; exact Or.inl (Or.inr x3.2)
          · exact Or.inr ⟨x, by omega, x2, x3⟩
    · rw [if_pos (by rw [show f (tr p q) = 0 by omega]; exact Int32.le_refl _)]
      refine ⟨b2, e3, e4.trans ?_⟩
      rw [Bool.false_and, Bool.or_false]
      constructor
      · rintro (z | ⟨x, x1, x2, x3⟩)
        · exact Or.inl z
        · exact Or.inr ⟨x, by omega, x2, x3⟩
      · rintro (z | ⟨x, x1, x2, x3⟩)
        · exact Or.inl z
        · by_cases cx : x = q
          · subst cx; exact absurd x3.1 c
          · exact Or.inr ⟨x, by omega, x2, x3⟩
theorem r_hl0 {s l1 : Nat → Int32} {p d t : Nat} {P : GP} (hp : p < 2) (hd1 : 1 ≤ d) (hd : d < 7) (ht1 : 1 ≤ t) (ht : t ≤ 16) (hb : P.2 (17 - t) = 1) (a2 : ∀ k, k < 36 → l1 (36 * 0 + k) = s k) (hl : ∀ k, k < 36 → l1 k = s k) : ∀ (m : Nat) (s' : Nat → Int32) (P' : GP), 0 < 5 → 0 + 1 < m → g_ok P' → RB s' p P' → (∀ k, 36 ≤ k → s' k = s k) → (∀ i, i ≠ 17 → (2 ≤ P'.2 i ↔ 2 ≤ P.2 i)) →
      k_fix (fun _ _ _ _ => none) (mX10_hitsByLike_11 (nI p) (pl p t) (nI d)) m false (nI 0) s' l1 = some (c_ho P.2 t (List.replicate 0 d) P'.1, s, l1) := by
  intro m s' P' hleft hm hP' hB hhi hgg
  rw [k_fix1 (by omega), mX10_hitsByLike_11]
  unfold mX10_hitsByLike_72 mX10_hitsByLike_202
  simp only [kn_0, kn_1, k_b1]
  have hfl := b_ok_le hP'.1 (i := 17) (by omega)
  have hz : c_ho P.2 t (List.replicate 0 d) P'.1 = false := by
    cases q : c_ho P.2 t (List.replicate 0 d) P'.1
    · rfl
    · obtain ⟨v, _, _, _, hv⟩ := c_aw_iff.mp (show c_aw P'.1 P.2 t [] (t + 1) (16 - t) = true from q)
      exact (nomatch hv)
  rw [if_pos (by trivial), if_pos (Int32.le_refl _), if_pos (by trivial), pl_bar p hp, r_at hp (by omega), k_bs, hB.1 17 (by omega), hz]
  by_cases c : P'.1 17 = 0
  · rw [if_pos (by rw [c])]
    obtain ⟨b', e1, e2⟩ := r_like89 (g := P.2) (left := 0) hp hd1 hd ht1 ht hP'.1 hB.1 hP'.2.1 hB.2 hgg hl hhi (by omega) 16 1 k_F false (by omega) (by unfold k_F; omega) (by omega)
    rw [show nI 0 = qm 1 by decide +kernel] at e1 ⊢
    rw [e1]
    have : b' = false := by
      cases b'
      · rfl
      · rcases e2.mp rfl with z | ⟨x, _, _, _, z⟩
        · exact (nomatch z)
        · exact (nomatch z)
    rw [this]
  · rw [if_neg (kI_ne0 (by omega) (by omega)), r_takes (s0 := s) (by omega) a2 hhi, k_bs]

theorem r_hlS {s l1 : Nat → Int32} {p d t : Nat} {P : GP} (hp : p < 2) (hd1 : 1 ≤ d) (hd : d < 7) (ht1 : 1 ≤ t) (ht : t ≤ 16) (hb : P.2 (17 - t) = 1) (a2 : ∀ k, k < 36 → l1 (36 * 0 + k) = s k) (hl : ∀ k, k < 36 → l1 k = s k) {left : Nat} (ih : ∀ (m : Nat) (s' : Nat → Int32) (P' : GP), left < 5 → left + 1 < m → g_ok P' → RB s' p P' → (∀ k, 36 ≤ k → s' k = s k) → (∀ i, i ≠ 17 → (2 ≤ P'.2 i ↔ 2 ≤ P.2 i)) →
      k_fix (fun _ _ _ _ => none) (mX10_hitsByLike_11 (nI p) (pl p t) (nI d)) m false (nI left) s' l1 = some (c_ho P.2 t (List.replicate left d) P'.1, s, l1)) : ∀ (m : Nat) (s' : Nat → Int32) (P' : GP), (left + 1) < 5 → (left + 1) + 1 < m → g_ok P' → RB s' p P' → (∀ k, 36 ≤ k → s' k = s k) → (∀ i, i ≠ 17 → (2 ≤ P'.2 i ↔ 2 ≤ P.2 i)) →
      k_fix (fun _ _ _ _ => none) (mX10_hitsByLike_11 (nI p) (pl p t) (nI d)) m false (nI (left + 1)) s' l1 = some (c_ho P.2 t (List.replicate (left + 1) d) P'.1, s, l1) := by
  intro m s' P' hleft hm hP' hB hhi hgg
  have hfl := b_ok_le hP'.1 (i := 17) (by omega)
  have hbl := g_ban_lt (f := P'.1) (g := P'.2) (d := d) (w := 17)
  rw [k_fix1 (by omega), mX10_hitsByLike_11]
  unfold mX10_hitsByLike_72 mX10_hitsByLike_202
  simp only [kn_0, kn_1, k_b1]
  rw [if_pos (c := True) trivial, if_neg (kI_nle (by omega) (by omega)), pl_bar p hp, r_at hp (by omega), k_bs, hB.1 17 (by omega), k_bs, r_refused hp hP' hB (by omega) (by omega) hd1 hd, k_bs, r_target p hp 17 (by omega) (by omega) d hd hd1, k_bs, if_pos (c := True) trivial]
  show _ = some ((if 0 < P'.1 17 then (if 17 - d = t then true else if 2 ≤ P.2 d then false else c_ho P.2 t (List.replicate left d) (b_mv P'.1 17 (17 - d))) else c_aw P'.1 P.2 t (List.replicate (left + 1) d) (t + 1) (16 - t)), s, l1)
  by_cases c17 : 0 < P'.1 17
  · rw [if_neg (kI_nle c17 (by omega)), if_pos c17]
    have hban : g_ban P'.1 P'.2 d 17 = 0 ↔ ¬ 2 ≤ P.2 d := by
      rw [g_ban0]
      have hq := hgg d (by omega)
      constructor
      · intro z
        have := z.2.2.1 (by omega)
        rw [show 17 - (17 - d) = d by omega] at this
        omega
      · intro z
        exact ⟨c17, Or.inl rfl, fun _ => by rw [show 17 - (17 - d) = d by omega]; omega, fun y => by omega⟩
    by_cases c : 2 ≤ P.2 d
    · rw [if_neg (kI_ne0 (by have : ¬ g_ban P'.1 P'.2 d 17 = 0 := fun z => hban.mp z c; omega) (by omega)), if_neg (kI_ne0 c17 (by omega)), r_takes (s0 := s) (by omega) a2 hhi, k_bs]
      have : 17 - d ≠ t := fun z => by rw [show d = 17 - t by omega, hb] at c; omega
      rw [if_neg this, if_pos c]
    · have hb0 := hban.mpr c
      obtain ⟨s'', b1, b2, b3⟩ := r_moves hp hP' hB (w := 17) (by omega) (by omega) hd1 hd c17
      have hA : g_A P' d 17 := ⟨by omega, by omega, hb0⟩
      have e55 : ∀ b, mX10_hitsByLike_55 (nI p) (pl p t) (nI d) (k_fix (fun _ _ _ _ => none) (mX10_hitsByLike_11 (nI p) (pl p t) (nI d)) (m - 1)) b (nI (left + 1)) s' l1 = k_fix (fun _ _ _ _ => none) (mX10_hitsByLike_11 (nI p) (pl p t) (nI d)) (m - 1) b (nI left) s'' l1 := fun b => by
        unfold mX10_hitsByLike_55
        simp only [kn_1]
        rw [kn_m (p := left + 1) (by omega), show mX10_moves s' (nI p) (-nI 1) (nI d) = some (g_hit P' d 17, s'') by rw [pl_bar p hp]; exact b1, k_bd2_some rfl, Nat.add_sub_cancel]
      rw [if_pos (by rw [hb0]), e55, e55]
      by_cases c2 : 17 - d = t
      · rw [if_pos (by rw [c2]), if_pos c2, k_fix1 (by omega), mX10_hitsByLike_11]
        unfold mX10_hitsByLike_72 mX10_hitsByLike_202
        simp only [kn_0, k_b1]
        rw [if_neg (fun z => (nomatch z)), if_neg (fun z => (nomatch z)), r_takes (s0 := s) (by omega) a2 (fun k hk => by rw [b3 k hk, hhi k hk]), k_bs]
      · rw [if_neg (fun z => c2 ((pl_eq p hp (17 - d) (by omega) t (by omega)).mp z)), if_neg c2, if_neg c, ih (m - 1) s'' (g_st P' d 17) (by omega) (by omega) (g_ok_st hP' hA) b2 (fun k hk => by rw [b3 k hk, hhi k hk]) (fun i hi => (g_thv hi).trans (hgg i hi))]
        rfl
  · have f0 : P'.1 17 = 0 := by omega
    rw [f0, if_pos (Int32.le_refl _), if_pos (c := nI 0 = nI 0) rfl, if_neg (by omega)]
    obtain ⟨b', e1, e2⟩ := r_like89 (g := P.2) (left := left + 1) hp hd1 hd ht1 ht hP'.1 hB.1 hP'.2.1 hB.2 hgg hl hhi (by omega) 16 1 k_F false (by omega) (by unfold k_F; omega) (by omega)
    rw [show nI 0 = qm 1 by decide +kernel, e1]
    refine congrArg some (congrArg (fun b => (b, s, l1)) ?_)
    rw [Bool.eq_iff_iff, e2, c_aw_iff]
    constructor
    · rintro (z | ⟨x, x1, x2, x3, x4⟩)
      · exact (nomatch z)
      · obtain ⟨t1, t2⟩ := tr_q hp (q := x) x2
        rw [r_wl_eq hd1 ht1 hb] at x4
        have hge : t + d ≤ tr p x := by
          rcases Nat.lt_or_ge (tr p x) (t + d) with z | z
          · have x4 : (if tr p x = t + d then true else if tr p x < t + d then false else _) = true := x4
            rw [if_neg (by omega), if_pos z] at x4
            exact (nomatch x4)
          · exact z
        have h17 : tr p x ≠ 17 := fun z => by rw [z] at x3; omega
        exact ⟨tr p x, by omega, by omega, x3, x4⟩
    · intro ⟨v, v1, v2, v3, v4⟩
      obtain ⟨y1, y2⟩ := tr_w hp (w := v) (by omega) (by omega)
      refine Or.inr ⟨tr p v, ?_, y1, by rw [y2]; exact v3, by rw [y2, r_wl_eq hd1 ht1 hb]; exact v4⟩
      rcases Nat.eq_zero_or_pos (tr p v) with z | z
      · exfalso
        have h17 : v = 17 := by
          have := y2
          rw [z] at this
          rw [← this]
          unfold tr
          split <;> rfl
        omega
      · exact z

theorem r_hl {s l1 : Nat → Int32} {p d t : Nat} {P : GP} (hp : p < 2) (hd1 : 1 ≤ d) (hd : d < 7) (ht1 : 1 ≤ t) (ht : t ≤ 16) (hb : P.2 (17 - t) = 1) (a2 : ∀ k, k < 36 → l1 (36 * 0 + k) = s k) (hl : ∀ k, k < 36 → l1 k = s k) : ∀ (left : Nat), ∀ (m : Nat) (s' : Nat → Int32) (P' : GP), left < 5 → left + 1 < m → g_ok P' → RB s' p P' → (∀ k, 36 ≤ k → s' k = s k) → (∀ i, i ≠ 17 → (2 ≤ P'.2 i ↔ 2 ≤ P.2 i)) →
      k_fix (fun _ _ _ _ => none) (mX10_hitsByLike_11 (nI p) (pl p t) (nI d)) m false (nI left) s' l1 = some (c_ho P.2 t (List.replicate left d) P'.1, s, l1)
  | 0 => r_hl0 hp hd1 hd ht1 ht hb a2 hl
  | left + 1 => r_hlS hp hd1 hd ht1 ht hb a2 hl (r_hl hp hd1 hd ht1 ht hb a2 hl left)
theorem r_hl4 {s l1 : Nat → Int32} {p d t : Nat} {P : GP} (hp : p < 2) (hd1 : 1 ≤ d) (hd : d < 7) (ht1 : 1 ≤ t) (ht : t ≤ 16) (hb : P.2 (17 - t) = 1) (a2 : ∀ k, k < 36 → l1 (36 * 0 + k) = s k) (hl : ∀ k, k < 36 → l1 k = s k) (hP : g_ok P) (h : RB s p P) (n F : Nat) (hn : n < 5) (hF : n + 1 < F) :
    k_fix (fun _ _ _ _ => none) (mX10_hitsByLike_11 (nI p) (pl p t) (nI d)) F false (nI n) s l1 = some (c_ho P.2 t (List.replicate n d) P.1, s, l1) :=
  r_hl hp hd1 hd ht1 ht hb a2 hl n F s P hn hF hP h (fun k _ => rfl) (fun i _ => Iff.rfl)
theorem r_rep4 (d : Nat) : [d, d, d, d] = List.replicate 4 d := rfl
theorem r_hlu {s laid l1 : Nat → Int32} {a1 a2 a3 : Int32} {r : Option (Bool × (Nat → Int32) × (Nat → Int32))} (h : mX10_lays s laid (nI 0) = some l1) (h2 : ∀ n F, n = 4 → F = k_F → k_fix (fun _ _ _ _ => none) (mX10_hitsByLike_11 a1 a2 a3) F false (nI n) s l1 = r) : mX10_hitsByLike s laid a1 a2 a3 = r := by
  have h5 : mX10_lays s laid 0 = some l1 := h
  have h6 : k_F = 4096 := rfl
  unfold mX10_hitsByLike
  generalize k_F = F at h2 h6 ⊢
  rw [h5, k_bs, kn_4]
  exact h2 4 F rfl rfl
theorem r_hitsByLike {s laid : Nat → Int32} {p d t : Nat} {P : GP} (hp : p < 2) (hP : g_ok P) (h : RB s p P) (hd1 : 1 ≤ d) (hd : d < 7) (ht1 : 1 ≤ t) (ht : t ≤ 16) (hb : P.2 (17 - t) = 1) :
    ∃ laid', mX10_hitsByLike s laid (nI p) (pl p t) (nI d) = some (c_ho P.2 t [d, d, d, d] P.1, s, laid') := by
  obtain ⟨l1, a1, a2, -⟩ := r_lays (s := s) (laid := laid) (lv := 0) (by omega)
  have hl : ∀ k, k < 36 → l1 k = s k := fun k hk => by have := a2 k hk; rwa [Nat.mul_zero, Nat.zero_add] at this
  refine ⟨l1, r_hlu a1 (fun n F hn hF => ?_)⟩
  rw [r_rep4, ← hn]
  exact r_hl4 hp hd1 hd ht1 ht hb a2 hl hP h n F (by omega) (by rw [hF]; unfold k_F; omega)
/-- a point's way for a player -/
def pw (p x : Nat) : Nat := if p = 0 then 16 - x else x + 1
theorem pl_pt : ∀ p, p < 2 → ∀ x, x < 16 → nI x = pl p (pw p x) := by decide +kernel
theorem pw_r : ∀ p, p < 2 → ∀ x, x < 16 → 1 ≤ pw p x ∧ pw p x ≤ 16 ∧ 17 - pw p x = pw (1 - p) x := by decide +kernel
/-- the shots at the blot of a player's opponent, p the one who shoots -/
def g_sh (F : Nat → Nat → Nat) (x : Nat) : Nat := if F 0 (pw 0 x) = 1 then g_shots (F 1, F 0) (pw 1 x) else if F 1 (pw 1 x) = 1 then g_shots (F 0, F 1) (pw 0 x) else 0
theorem r_shots35 {s : Nat → Int32} {p t : Nat} {P : GP} (hp : p < 2) (hP : g_ok P) (h : RB s p P) (ht1 : 1 ≤ t) (ht : t ≤ 16) (hb : P.2 (17 - t) = 1) :
    ∀ (j a c m : Nat) (laid : Nat → Int32), 1 ≤ a → a + j = 7 → j < m → ∃ laid', k_fix (fun _ _ _ _ _ => none) (mX10_shotsAt_35 (pl p t)) m (nI (1 - p)) (nI c) (nI a) s laid = some (nI (c + g_sum (fun a => c_h1 P t a a + g_sum (fun b => 2 * c_h1 P t a b) 1 (a - 1)) a j), s, laid') := by
  have e1p : nI 1 - nI (1 - p) = nI p := by rw [pk_sub (by omega)]; congr 1; omega
  have inn : ∀ (k35 : Int32 → Int32 → Int32 → (Nat → Int32) → (Nat → Int32) → Option (Int32 × (Nat → Int32) × (Nat → Int32))) (a : Nat), 1 ≤ a → a < 7 → ∀ (j b c m : Nat) (laid : Nat → Int32), 1 ≤ b → b + j = a → j < m →
      ∃ laid', k_fix (fun _ _ _ _ _ _ => none) (mX10_shotsAt_71 (pl p t) k35) m (nI (1 - p)) (nI c) (nI a) (nI b) s laid = k35 (nI (1 - p)) (nI (c + g_sum (fun b => 2 * c_h1 P t a b) b j)) (nI (a + 1)) s laid' := by
    intro k35 a ha ha2 j
    induction j with
    | zero =>
      intro b c m laid hb1 hb2 hm
      refine ⟨laid, ?_⟩
      rw [k_fix1 hm, mX10_shotsAt_71]
      simp only [kn_1]
      rw [if_pos (nI_le (by omega) (by omega)), nI_add]
      rfl
    | succ j ih =>
      intro b c m laid hb1 hb2 hm
      rw [k_fix1 (by omega), mX10_shotsAt_71]
      simp only [kn_0, kn_1, kn_2, k_b1]
      rw [if_neg (nI_ge (by omega) (by omega)), e1p]
      obtain ⟨x1, l1, f1, f2⟩ := r_hitsBy (laid := laid) hp hP h ha ha2 hb1 (by omega) ht1 ht
      obtain ⟨x2, l2, f3, f4⟩ := r_hitsBy (laid := l1) hp hP h hb1 (by omega) ha ha2 ht1 ht
      rw [k_bd3_some f1, k_bd3_some f3, nI_add, nI_add, nI_add]
      have q1 := g_hb_eq hP ht1 ht hb ha ha2 hb1 (by omega : b < 7)
      have q2 := g_hb_eq hP ht1 ht hb hb1 (by omega : b < 7) ha ha2
      have hh : c_ch P t a b = true ↔ (x1 = true ∨ x2 = true) := by
        unfold c_ch
        rw [if_neg (by omega), Bool.or_eq_true, f2, f4]
        constructor
        · rintro (z | z)
          · exact q1.1 z
          · exact (q2.1 z).symm
        · rintro (z | z)
          · exact q1.2 z
          · exact (q2.2 z).symm
      show ∃ laid', _ = k35 (nI (1 - p)) (nI (c + (2 * c_h1 P t a b + g_sum (fun b => 2 * c_h1 P t a b) (b + 1) j))) (nI (a + 1)) s laid'
      unfold c_h1
      cases x1
      · rw [if_pos (by trivial)]
        cases x2
        · have hf : ¬ c_ch P t a b = true := fun z => (hh.mp z).elim (fun y => (nomatch y)) (fun y => (nomatch y))
          rw [if_pos (by trivial), if_neg hf]
          obtain ⟨l3, e⟩ := ih (b + 1) (c + 0) (m - 1) l2 (by omega) (by omega) (by omega)
          exact ⟨l3, by rw [e, Nat.mul_zero, Nat.add_assoc]; rfl⟩
        · rw [if_neg (fun z => (nomatch z)), if_pos (hh.mpr (Or.inr rfl))]
          obtain ⟨l3, e⟩ := ih (b + 1) (c + 2) (m - 1) l2 (by omega) (by omega) (by omega)
          exact ⟨l3, by rw [e, Nat.mul_one, Nat.add_assoc]; rfl⟩
      · rw [if_neg (fun z => (nomatch z)), if_pos (hh.mpr (Or.inl rfl))]
        obtain ⟨l3, e⟩ := ih (b + 1) (c + 2) (m - 1) l1 (by omega) (by omega) (by omega)
        exact ⟨l3, by rw [e, Nat.mul_one, Nat.add_assoc]; rfl⟩
  intro j
  induction j with
  | zero =>
    intro a c m laid ha1 ha hm
    refine ⟨laid, ?_⟩
    rw [k_fix1 hm, mX10_shotsAt_35]
    simp only [kn_6]
    rw [if_pos (nI_lt (by omega) (by omega))]
    rfl
  | succ j ih =>
    intro a c m laid ha1 ha hm
    rw [k_fix1 (by omega), mX10_shotsAt_35]
    unfold mX10_shotsAt_66
    simp only [kn_6, kn_1, kn_0, k_b1]
    have hno : ¬ nI (1 - p) = -nI 1 := by
      rcases (by omega : p = 0 ∨ p = 1) with e | e <;> subst e <;> decide
    obtain ⟨l1, f1⟩ := r_hitsByLike (laid := laid) hp hP h ha1 (by omega : a < 7) ht1 ht hb
    rw [if_neg (nI_nlt (by omega) (by omega)), if_neg hno, e1p, k_bd3_some f1]
    have hh : c_ch P t a a = c_ho P.2 t [a, a, a, a] P.1 := if_pos rfl
    show ∃ laid', _ = some (nI (c + ((c_h1 P t a a + g_sum (fun b => 2 * c_h1 P t a b) 1 (a - 1)) + g_sum _ (a + 1) j)), s, laid')
    have fin : ∀ c', c' = c + c_h1 P t a a → ∃ laid', k_fix (fun _ _ _ _ _ _ => none) (mX10_shotsAt_71 (pl p t) (k_fix (fun _ _ _ _ _ => none) (mX10_shotsAt_35 (pl p t)) (m - 1))) k_F (nI (1 - p)) (nI c') (nI a) (nI 1) s l1 = some (nI (c + ((c_h1 P t a a + g_sum (fun b => 2 * c_h1 P t a b) 1 (a - 1)) + g_sum (fun a => c_h1 P t a a + g_sum (fun b => 2 * c_h1 P t a b) 1 (a - 1)) (a + 1) j)), s, laid') := by
      intro c' hc
      obtain ⟨l2, e⟩ := inn (k_fix (fun _ _ _ _ _ => none) (mX10_shotsAt_35 (pl p t)) (m - 1)) a ha1 (by omega) (a - 1) 1 c' k_F l1 (by omega) (by omega) (by unfold k_F; omega)
      obtain ⟨l3, e2⟩ := ih (a + 1) (c' + g_sum (fun b => 2 * c_h1 P t a b) 1 (a - 1)) (m - 1) l2 (by omega) (by omega) (by omega)
      refine ⟨l3, ?_⟩
      rw [e, e2, hc]
      refine congrArg some (congrArg (fun n => (nI n, s, l3)) ?_)
      omega
    unfold c_h1 at fin ⊢
    rw [hh] at fin ⊢
    cases q : c_ho P.2 t [a, a, a, a] P.1
    · rw [if_pos (by trivial), show k_b false = nI 0 from rfl, nI_add]
      rw [q] at fin
      exact fin (c + 0) (by rw [if_neg (fun z => (nomatch z))])
    · rw [if_neg (fun z => (nomatch z)), show k_b true = nI 1 from rfl, nI_add]
      rw [q] at fin
      exact fin (c + 1) (by rw [if_pos rfl])
theorem r_shotsAt {s laid : Nat → Int32} {F : Nat → Nat → Nat} {x : Nat} (hx : x < 16) (h0 : RH s 0 (F 0)) (h1 : RH s 1 (F 1)) (hP : g_ok (F 0, F 1)) (hP' : g_ok (F 1, F 0)) :
    ∃ laid', mX10_shotsAt s laid (nI x) = some (nI (g_sh F x), s, laid') := by
  obtain ⟨a1, a2, a3⟩ := pw_r 0 (by omega) x hx
  obtain ⟨b1, b2, b3⟩ := pw_r 1 (by omega) x hx
  have hf0 : F 0 (pw 0 x) ≤ 6 := b_ok_le hP.1 (i := pw 0 x) (by omega)
  have hf1 : F 1 (pw 1 x) ≤ 6 := b_ok_le hP'.1 (i := pw 1 x) (by omega)
  have r0 : mX10_at s (nI 0) (nI x) = some (nI (F 0 (pw 0 x))) := by rw [pl_pt 0 (by omega) x hx, r_at (by omega) (by omega), h0 _ (by omega)]
  have r1 : mX10_at s (nI 1) (nI x) = some (nI (F 1 (pw 1 x))) := by rw [pl_pt 1 (by omega) x hx, r_at (by omega) (by omega), h1 _ (by omega)]
  unfold mX10_shotsAt mX10_shotsAt_29 g_sh
  simp only [kn_0, kn_1]
  rw [r0, k_bs, r1, k_bs]
  by_cases c0 : F 0 (pw 0 x) = 1
  · rw [if_pos (by rw [c0]), if_pos c0]
    obtain ⟨l, e⟩ := r_shots35 (P := (F 1, F 0)) (t := pw 1 x) (p := 1) (by omega) hP' ⟨h1, h0⟩ b1 b2 (by rw [b3]; exact c0) 6 1 0 k_F laid (by omega) (by omega) (by unfold k_F; omega)
    refine ⟨l, ?_⟩
    rw [← pl_pt 1 (by omega) x hx, Nat.zero_add] at e
    exact e
  · rw [if_neg (kI_neq c0 (by omega) (by omega)), if_neg c0]
    by_cases c1 : F 1 (pw 1 x) = 1
    · rw [if_pos (by rw [c1]), if_pos c1]
      obtain ⟨l, e⟩ := r_shots35 (P := (F 0, F 1)) (t := pw 0 x) (p := 0) (by omega) hP ⟨h0, h1⟩ a1 a2 (by rw [a3]; exact c1) 6 1 0 k_F laid (by omega) (by omega) (by unfold k_F; omega)
      refine ⟨l, ?_⟩
      rw [← pl_pt 0 (by omega) x hx, Nat.zero_add] at e
      exact e
    · rw [if_neg (kI_neq c1 (by omega) (by omega)), if_neg c1]
      refine ⟨laid, ?_⟩
      rw [k_fix1 (by unfold k_F; omega), mX10_shotsAt_35]
      simp only [kn_6, kn_1]
      rw [if_neg (nI_nlt (by omega) (by omega)), if_pos (by trivial)]
