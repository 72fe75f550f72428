/-! the reference counts plays of like dice -/
abbrev K9 := Int32 → (Nat → Int32) → (Nat → Int32) → (Nat → Int32) → (Nat → Int64) → (Nat → Int64) → Int32 → (Nat → Int64) → (Nat → Int64) → Option (Int32 × (Nat → Int32) × (Nat → Int32) × (Nat → Int32) × (Nat → Int64) × (Nat → Int64) × Int32 × (Nat → Int64) × (Nat → Int64))
def r_fl (p d : Nat) : List KP → List GP → List KP
  | K, [] => K
  | K, Q :: X => r_fl p d (l_ads K (r_ol p Q d 17 0)) X
theorem r_fl_mem {p d : Nat} : ∀ {X : List GP} {K : List KP} {y : KP}, y ∈ r_fl p d K X ↔ y ∈ K ∨ ∃ Q ∈ X, y ∈ r_ol p Q d 17 0 := by
  intro X
  induction X with
  | nil => intro K y; show y ∈ K ↔ _; simp
  | cons x X ih =>
    intro K y
    show y ∈ r_fl p d (l_ads K (r_ol p x d 17 0)) X ↔ _
    rw [ih, l_ads_mem]
    constructor
    · rintro ((h | h) | ⟨z, h1, h2⟩)
      · exact Or.inl h
      · exact Or.inr ⟨x, List.mem_cons_self .., h⟩
      · exact Or.inr ⟨z, List.mem_cons_of_mem _ h1, h2⟩
    · rintro (h | ⟨z, h1, h2⟩)
      · exact Or.inl (Or.inl h)
      · rcases List.mem_cons.mp h1 with rfl | h1
        · exact Or.inl (Or.inr h2)
        · exact Or.inr ⟨z, h1, h2⟩
theorem RB_stand {s : Nat → Int32} {p : Nat} {Q : GP} (hp : p < 2) (hQ : g_ok Q) : ∃ s1 s2, mX10_stands s 0 (r_of p Q).1 = some s1 ∧ mX10_stands s1 1 (r_of p Q).2 = some s2 ∧ RB s2 p Q ∧ ∀ k, 36 ≤ k → s2 k = s k := by
  obtain ⟨f, g⟩ := Q
  obtain ⟨q1, q2, -⟩ := hQ
  have q1' : b_ok f := q1
  have q2' : b_ok g := q2
  have mk : ∀ (f0 f1 : Nat → Nat), b_ok f0 → b_ok f1 → ∃ s1 s2, mX10_stands s 0 (b_L (p_at 0 f0)) = some s1 ∧ mX10_stands s1 1 (b_L (p_at 1 f1)) = some s2 ∧ (RH s2 0 f0 ∧ RH s2 1 f1) ∧ ∀ k, 36 ≤ k → s2 k = s k := by
    intro f0 f1 h0 h1
    obtain ⟨s1, e1, a1, a2⟩ := r_stands (s := s) (q := 0) (by omega) h0
    obtain ⟨s2, e2, b1, b2⟩ := r_stands (s := s1) (q := 1) (by omega) h1
    rw [nI_0] at e1
    refine ⟨s1, s2, e1, e2, ⟨fun w hw => ?_, b1⟩, fun k hk => ?_⟩
    · have hlt : ix 0 w < 18 := by
        unfold ix
        have := tr_lt 0 (by omega) w hw
        omega
      rw [b2 _ (by omega)]; exact a1 w hw
    · rw [b2 k (by omega), a2 k (by omega)]
  unfold r_of
  rcases (show p = 0 ∨ p = 1 by omega) with rfl | rfl
  · rw [if_pos rfl]
    obtain ⟨s1, s2, e1, e2, e3, e4⟩ := mk f g q1' q2'
    exact ⟨s1, s2, e1, e2, ⟨e3.1, e3.2⟩, e4⟩
  · rw [if_neg (by omega)]
    obtain ⟨s1, s2, e1, e2, e3, e4⟩ := mk g f q2' q1'
    exact ⟨s1, s2, e1, e2, ⟨e3.2, e3.1⟩, e4⟩
theorem l_map_getD {p i : Nat} {X : List GP} (hi : i < X.length) : (X.map (r_of p)).getD i (0, 0) = r_of p (X.getD i (fun _ => 0, fun _ => 0)) := by
  rw [List.getD_eq_getElem?_getD, List.getD_eq_getElem?_getD, List.getElem?_map, List.getElem?_eq_getElem hi]
  rfl
theorem r_93 {s : Nat → Int32} {p d : Nat} {k32 : K9} {a1 l2 : Int32} {aside : Nat → Int32} {f0 f1 : Nat → Int64} {X : List GP} {C : List KP} (hp : p < 2) (h36 : s 36 = nI p) (h39 : s 39 = nI d) (hX : ∀ Q ∈ X, g_ok Q) (hl : X.length ≤ 128) (hd1 : 1 ≤ d) (hd : d < 7) (hC : C.length ≤ 128) (hf : ∀ i, i < X.length → (f0 i, f1 i) = (X.map (r_of p)).getD i (0, 0)) (hC2 : ∀ Q ∈ X, ∀ y ∈ r_ol p Q d 17 0, y ∈ C) : ∀ (n i F : Nat) (s1 laid : Nat → Int32) (m t : Nat → Int64) (many : Int32) (K : List KP), i + n = X.length → n < F → (∀ k, 36 ≤ k → s1 k = s k) → RK m t many C K →
    ∃ s2 laid' m' t' many', k_fix (fun _ _ _ _ _ _ _ _ _ _ _ => none) (mX10_likePlays_93 a1 k32) F l2 (nI X.length) (nI i) s1 aside laid m t many f0 f1 = k32 (l2 + 1) s2 aside laid' m' t' many' f0 f1 ∧ (∀ k, 36 ≤ k → s2 k = s k) ∧ RK m' t' many' C (r_fl p d K (X.drop i)) := by
  intro n
  induction n with
  | zero =>
    intro i F s1 laid m t many K hi hF hs hK
    obtain rfl : i = X.length := by omega
    rw [List.drop_length]
    refine ⟨s1, laid, m, t, many, ?_, hs, hK⟩
    rw [k_fix1 hF, mX10_likePlays_93, if_pos (nI_le (Nat.le_refl _) (by omega))]
  | succ n ih =>
    intro i F s1 laid m t many K hi hF hs hK
    have hil : i < X.length := by omega
    have e3 := hf i hil
    rw [l_map_getD hil] at e3
    have hdrop := l_drop_cons (z := ((fun _ => 0, fun _ => 0) : GP)) hil
    have hmem : X.getD i (fun _ => 0, fun _ => 0) ∈ X := l_getD_mem hil
    generalize X.getD i (fun _ => 0, fun _ => 0) = Q at e3 hdrop hmem
    have hQ := hX Q hmem
    have e0 : f0 i = (r_of p Q).1 := congrArg Prod.fst e3
    have e1 : f1 i = (r_of p Q).2 := congrArg Prod.snd e3
    obtain ⟨s2, s3, y1, y2, y3, y4⟩ := RB_stand (s := s1) hp hQ
    have h36' : s3 36 = nI p := by rw [y4 36 (by omega), hs 36 (by omega), h36]
    have h39' : s3 39 = nI d := by rw [y4 39 (by omega), hs 39 (by omega), h39]
    obtain ⟨l1, m1, t1, many1, z1, z2⟩ := r_addsOne (laid := laid) hp hQ y3 h36' hd1 hd hC hK (hC2 Q hmem)
    obtain ⟨s4, l4, m4, t4, many4, w1, w2, w3⟩ := ih (i + 1) (F - 1) s3 l1 m1 t1 many1 _ (by omega) (by omega) (fun k hk => by rw [y4 k hk, hs k hk]) z2
    rw [hdrop]
    refine ⟨s4, l4, m4, t4, many4, ?_, w2, w3⟩
    rw [k_fix1 (by omega), mX10_likePlays_93, if_neg (nI_ge hil (by omega)), k_g_in (by omega) (by omega), nI_clamp (by omega), e0, k_bd_some y1, k_g_in (by omega) (by omega), e1, k_bd_some y2, h39', k_bd5_some z1, nI_1, w1]
theorem r_45 {s aside laid : Nat → Int32} {k32 : K9} {a1 l2 many : Int32} {m t : Nat → Int64} {N : Nat} (hN : N ≤ 128) : ∀ (n i F : Nat) (f0 f1 : Nat → Int64), i + n = N → n < F → (∀ j, j < i → (f0 j, f1 j) = (m j, t j)) → ∃ f0' f1', k_fix (fun _ _ _ _ _ _ _ _ _ _ _ => none) (mX10_likePlays_45 a1 k32) F l2 (nI N) (nI i) s aside laid m t many f0 f1 = k_fix (fun _ _ _ _ _ _ _ _ _ _ _ => none) (mX10_likePlays_93 a1 k32) k_F l2 (nI N) 0 s aside laid m t 0 f0' f1' ∧ ∀ j, j < N → (f0' j, f1' j) = (m j, t j) := by
  intro n
  induction n with
  | zero =>
    intro i F f0 f1 hi hF hj
    obtain rfl : i = N := by omega
    refine ⟨f0, f1, ?_, hj⟩
    rw [k_fix1 hF, mX10_likePlays_45, if_pos (nI_le (Nat.le_refl _) (by omega))]
  | succ n ih =>
    intro i F f0 f1 hi hF hj
    obtain ⟨f0', f1', e, h⟩ := ih (i + 1) (F - 1) (vp_updL f0 i (m i)) (vp_updL f1 i (t i)) (by omega) (by omega) (fun j hj1 => by
      unfold vp_updL
      by_cases c : j = i
      · rw [if_pos c, if_pos c, c]
      · rw [if_neg c, if_neg c]; exact hj j (by omega))
    refine ⟨f0', f1', ?_, h⟩
    rw [k_fix1 (by omega), mX10_likePlays_45, if_neg (nI_ge (by omega) (by omega)), k_g_in (by omega) (by omega), k_g_in (by omega) (by omega), k_g_in (by omega) (by omega), k_g_in (by omega) (by omega), nI_clamp (by omega), nI_1, e]
theorem r_148 {s0 aside laid : Nat → Int32} {a1 many : Int32} {m t f0 f1 : Nat → Int64} (ha : ∀ k, k < 36 → aside k = s0 k) : ∀ (n i F : Nat) (s : Nat → Int32), i + n = 36 → n < F → (∀ k, k < i → s k = s0 k) → (∀ k, 36 ≤ k → s k = s0 k) → k_fix (fun _ _ _ _ _ _ _ _ _ => none) (mX10_likePlays_148 a1) F (nI i) s aside laid m t many f0 f1 = some (many, s0, aside, laid, m, t, many, f0, f1) := by
  intro n
  induction n with
  | zero =>
    intro i F s hi hF h1 h2
    obtain rfl : i = 36 := by omega
    have hs : s = s0 := funext fun k => by
      by_cases c : k < 36
      · exact h1 k c
      · exact h2 k (by omega)
    rw [k_fix1 hF, mX10_likePlays_148, if_pos (show (36 : Int32) ≤ nI 36 by decide), hs]
  | succ n ih =>
    intro i F s hi hF h1 h2
    rw [k_fix1 (by omega), mX10_likePlays_148, if_neg (show ¬ (36 : Int32) ≤ nI i from nI_ge (a := i) (b := 36) (by omega) (by omega)), k_g_in (by omega) (by omega), k_g_in (by omega) (by omega), nI_clamp (by omega), nI_1]
    exact ih (i + 1) (F - 1) _ (by omega) (by omega) (fun k hk => by
      by_cases c : k = i
      · rw [c, pk_us]; exact ha i (by omega)
      · rw [pk_un c]; exact h1 k (by omega)) (fun k hk => by rw [pk_un (by omega)]; exact h2 k hk)
theorem r_32 {s aside : Nat → Int32} {p d r : Nat} {P : GP} (hp : p < 2) (hP : g_ok P) (h36 : s 36 = nI p) (h39 : s 39 = nI d) (hd1 : 1 ≤ d) (hd : d < 7) (hr : r ≤ 4) (ha : ∀ k, k < 36 → aside k = s k) : ∀ (n j F : Nat) (s1 laid : Nat → Int32) (m t : Nat → Int64) (many : Int32) (f0 f1 : Nat → Int64) (X : List GP) (C : List KP), j + n = r → n < F → (∀ k, 36 ≤ k → s1 k = s k) → (∀ Q, Q ∈ X ↔ Q ∈ g_lv d j P) → RK m t many C (X.map (r_of p)) →
    ∃ (M : List KP) (laid' : Nat → Int32) (m' t' f0' f1' : Nat → Int64), k_fix (fun _ _ _ _ _ _ _ _ _ => none) (mX10_likePlays_32 (nI r)) F (nI j) s1 aside laid m t many f0 f1 = some (nI M.length, s, aside, laid', m', t', nI M.length, f0', f1') ∧ M.Nodup ∧ ∀ y, y ∈ M ↔ ∃ Q, Q ∈ g_lv d r P ∧ y = r_of p Q := by
  intro n
  induction n with
  | zero =>
    intro j F s1 laid m t many f0 f1 X C hj hF hs hX hK
    obtain rfl : j = r := by omega
    refine ⟨X.map (r_of p), laid, m, t, f0, f1, ?_, hK.2.1, fun y => ?_⟩
    · have e := r_148 (s0 := s) (laid := laid) (a1 := nI j) (many := many) (m := m) (t := t) (f0 := f0) (f1 := f1) ha 36 0 k_F s1 (by omega) (by decide) (fun k hk => by omega) hs
      rw [nI_0] at e
      rw [k_fix1 hF, mX10_likePlays_32, if_pos (nI_le (Nat.le_refl _) (by omega)), e, hK.1.1]
    · rw [List.mem_map]
      constructor
      · rintro ⟨Q, q1, q2⟩; exact ⟨Q, (hX Q).mp q1, q2.symm⟩
      · rintro ⟨Q, q1, q2⟩; exact ⟨Q, (hX Q).mpr q1, q2.symm⟩
  | succ n ih =>
    intro j F s1 laid m t many f0 f1 X C hj hF hs hX hK
    have hlen : X.length ≤ 128 := by have := hK.1.2.1; rw [List.length_map] at this; exact this
    have hmany : many = nI X.length := by have := hK.1.1; rw [List.length_map] at this; exact this
    have hok : ∀ Q ∈ X, g_ok Q := fun Q hQ => g_lv_ok j P Q hP ((hX Q).mp hQ)
    have hcl : ((g_cn d (j + 1) 17 P).map (r_of p)).length ≤ 128 := by
      have h1 := g_cn_126 (j := j + 1) hd1 (by omega) hP
      have h2 := c_N_6 (j + 1) (by omega)
      rw [List.length_map]; omega
    have hol : ∀ Q ∈ X, ∀ y ∈ r_ol p Q d 17 0, ∃ R, R ∈ g_lv d (j + 1) P ∧ y = r_of p R := fun Q hQ y hy => by
      obtain ⟨w, w1, w2⟩ := (r_ol_all hp).mp hy
      exact ⟨g_st Q d w, (g_lv_last j P _).mpr ⟨Q, (hX Q).mp hQ, w, w1, rfl⟩, w2⟩
    obtain ⟨f0', f1', e1, k1⟩ := r_45 (s := s1) (aside := aside) (laid := laid) (k32 := k_fix (fun _ _ _ _ _ _ _ _ _ => none) (mX10_likePlays_32 (nI r)) (F - 1)) (a1 := nI r) (l2 := nI j) (many := many) (m := m) (t := t) hlen X.length 0 k_F f0 f1 (by omega) (by generalize hk : k_F = F; have : F = 4096 := hk.symm; omega) (fun j hj => by omega)
    obtain ⟨s2, l2, m2, t2, many2, e2, b1, b2⟩ := r_93 (s := s) (k32 := k_fix (fun _ _ _ _ _ _ _ _ _ => none) (mX10_likePlays_32 (nI r)) (F - 1)) (a1 := nI r) (l2 := nI j) (aside := aside) (f0 := f0') (f1 := f1') (C := (g_cn d (j + 1) 17 P).map (r_of p)) hp h36 h39 hok hlen hd1 hd hcl (fun i hi => by
      have h3 := hK.1.2.2 i (by rw [List.length_map]; exact hi)
      rw [k1 i hi, h3]) (fun Q hQ y hy => by
      obtain ⟨R, r1, r2⟩ := hol Q hQ y hy
      rw [r2]
      exact List.mem_map.mpr ⟨R, g_lv_cn hd1 (j + 1) P R r1, rfl⟩) X.length 0 k_F s1 laid m t 0 [] (by omega) (by generalize hk : k_F = F; have : F = 4096 := hk.symm; omega) hs ⟨⟨nI_0.symm, Nat.zero_le _, fun i hi => by cases hi⟩, List.nodup_nil, fun x hx => by cases hx⟩
    rw [List.drop_zero] at b2
    have hpre : ∀ y ∈ r_fl p d [] X, ∃ R, R ∈ g_lv d (j + 1) P ∧ y = r_of p R := fun y hy => by
      rcases r_fl_mem.mp hy with q | ⟨Q, q1, q2⟩
      · cases q
      · exact hol Q q1 y q2
    obtain ⟨X', x1, x2⟩ := l_pre (f := r_of p) (p := fun R => R ∈ g_lv d (j + 1) P) hpre
    have hX' : ∀ Q, Q ∈ X' ↔ Q ∈ g_lv d (j + 1) P := fun Q => by
      refine ⟨x2 Q, fun hQ => ?_⟩
      obtain ⟨Q0, z1, w, z2, z3⟩ := (g_lv_last j P Q).mp hQ
      have h5 : r_of p Q ∈ r_fl p d [] X := r_fl_mem.mpr (Or.inr ⟨Q0, (hX Q0).mpr z1, (r_ol_all hp).mpr ⟨w, z2, by rw [z3]⟩⟩)
      rw [← x1, List.mem_map] at h5
      obtain ⟨Q', q1, q2⟩ := h5
      rw [← r_inj (g_lv_ok (j + 1) P Q' hP (x2 Q' q1)) (g_lv_ok (j + 1) P Q hP hQ) q2]; exact q1
    rw [← x1] at b2
    obtain ⟨M, l3, m3, t3, f03, f13, e3, c1, c2⟩ := ih (j + 1) (F - 1) s2 l2 m2 t2 many2 f0' f1' X' _ (by omega) (by omega) b1 hX' b2
    refine ⟨M, l3, m3, t3, f03, f13, ?_, c1, c2⟩
    rw [k_fix1 (by omega), mX10_likePlays_32, if_neg (nI_ge (by omega) (by omega))]
    rw [nI_0, ← hmany] at e1
    rw [nI_0, ← hmany, nI_1] at e2
    rw [e1, e2, e3]
theorem r_2 {s : Nat → Int32} {a1 : Int32} {laid : Nat → Int32} {m t f0 f1 : Nat → Int64} {many : Int32} {R : Option (Int32 × (Nat → Int32) × (Nat → Int32) × (Nat → Int32) × (Nat → Int64) × (Nat → Int64) × Int32 × (Nat → Int64) × (Nat → Int64))} {aside' : (Nat → Int32) → Prop} : ∀ (n i F : Nat) (aside : Nat → Int32), i + n = 36 → n < F → (∀ k, k < i → aside k = s k) → ∃ as', (∀ k, k < 36 → as' k = s k) ∧ k_fix (fun _ _ _ _ _ _ _ _ _ => none) (mX10_likePlays_2 a1) F (nI i) s aside laid m t many f0 f1 = k_bd3 (mX10_adds s m t many) (fun w8 w9 w10 => k_fix (fun _ _ _ _ _ _ _ _ _ => none) (mX10_likePlays_32 a1) k_F 0 s as' laid w8 w9 w10 f0 f1) := by
  intro n
  induction n with
  | zero =>
    intro i F aside hi hF h1
    obtain rfl : i = 36 := by omega
    refine ⟨aside, h1, ?_⟩
    rw [k_fix1 hF, mX10_likePlays_2, if_pos (show (36 : Int32) ≤ nI 36 by decide)]
  | succ n ih =>
    intro i F aside hi hF h1
    obtain ⟨as', a1', e⟩ := ih (i + 1) (F - 1) (upd aside i (s i)) (by omega) (by omega) (fun k hk => by
      by_cases c : k = i
      · rw [c, pk_us]
      · rw [pk_un c]; exact h1 k (by omega))
    refine ⟨as', a1', ?_⟩
    rw [k_fix1 (by omega), mX10_likePlays_2, if_neg (show ¬ (36 : Int32) ≤ nI i from nI_ge (a := i) (b := 36) (by omega) (by omega)), k_g_in (by omega) (by omega), k_g_in (by omega) (by omega), nI_clamp (by omega), nI_1, e]
theorem r_likes {s aside laid : Nat → Int32} {p d r : Nat} {P : GP} {m t f0 f1 : Nat → Int64} (hp : p < 2) (hP : g_ok P) (hB : RB s p P) (h36 : s 36 = nI p) (h39 : s 39 = nI d) (hd1 : 1 ≤ d) (hd : d < 7) (hr : r ≤ 4) : ∃ (M : List KP) (aside' laid' : Nat → Int32) (m' t' f0' f1' : Nat → Int64) (many' : Int32), mX10_likePlays s aside laid m t 0 f0 f1 (nI r) = some (nI M.length, s, aside', laid', m', t', many', f0', f1') ∧ M.Nodup ∧ ∀ y, y ∈ M ↔ ∃ Q, Q ∈ g_lv d r P ∧ y = r_of p Q := by
  obtain ⟨as', a1, e1⟩ := r_2 (R := none) (aside' := fun _ => True) (s := s) (a1 := nI r) (laid := laid) (m := m) (t := t) (f0 := f0) (f1 := f1) (many := 0) 36 0 k_F aside (by omega) (by decide) (fun k hk => by omega)
  obtain ⟨m1, t1, many1, e2, k1⟩ := r_adds (m := m) (t := t) (many := 0) (C := [r_of p P]) (K := []) hp hP hB (show 1 ≤ 128 by omega) ⟨⟨nI_0.symm, Nat.zero_le _, fun i hi => by cases hi⟩, List.nodup_nil, fun x hx => by cases hx⟩ (List.mem_singleton.mpr rfl)
  have k1' : RK m1 t1 many1 [r_of p P] ([P].map (r_of p)) := k1
  obtain ⟨M, l2, m2, t2, f2, f3, e3, c1, c2⟩ := r_32 (aside := as') hp hP h36 h39 hd1 hd hr a1 r 0 k_F s laid m1 t1 many1 f0 f1 [P] _ (by omega) (by generalize hk : k_F = F; have : F = 4096 := hk.symm; omega) (fun k hk => rfl) (fun Q => Iff.rfl) k1'
  refine ⟨M, as', l2, m2, t2, f2, f3, nI M.length, ?_, c1, c2⟩
  unfold mX10_likePlays
  rw [nI_0] at e1 e3
  rw [e1, k_bd3_some e2, e3]
