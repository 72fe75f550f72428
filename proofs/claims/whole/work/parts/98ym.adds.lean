/-! the reference adds what one die and what two dice lead to -/
theorem lay0 {s laid : Nat → Int32} : ∃ laid', mX10_lays s laid 0 = some laid' ∧ (∀ k, k < 36 → laid' k = s k) ∧ ∀ j, 36 ≤ j → laid' j = laid j := by
  obtain ⟨l', e, h1, h2⟩ := r_lays (s := s) (laid := laid) (lv := 0) (by omega)
  rw [nI_0] at e
  refine ⟨l', e, fun k hk => ?_, fun j hj => h2 j (by omega)⟩
  have := h1 k hk
  rw [show 36 * 0 + k = k by omega] at this
  exact this
theorem lay1 {s laid : Nat → Int32} : ∃ laid', mX10_lays s laid 1 = some laid' ∧ (∀ k, k < 36 → laid' (36 + k) = s k) ∧ ∀ j, j < 36 → laid' j = laid j := by
  obtain ⟨l', e, h1, h2⟩ := r_lays (s := s) (laid := laid) (lv := 1) (by omega)
  exact ⟨l', e, fun k hk => h1 k hk, fun j hj => h2 j (by omega)⟩
theorem tak0 {s s0 laid : Nat → Int32} (h1 : ∀ k, k < 36 → laid k = s0 k) (h2 : ∀ k, 36 ≤ k → s k = s0 k) : mX10_takesUp s laid 0 = some s0 := by
  have := r_takes (s := s) (s0 := s0) (laid := laid) (lv := 0) (by omega) (fun k hk => by rw [show 36 * 0 + k = k by omega]; exact h1 k hk) h2
  rw [nI_0] at this; exact this
theorem tak1 {s s0 laid : Nat → Int32} (h1 : ∀ k, k < 36 → laid (36 + k) = s0 k) (h2 : ∀ k, 36 ≤ k → s k = s0 k) : mX10_takesUp s laid 1 = some s0 :=
  r_takes (s := s) (s0 := s0) (laid := laid) (lv := 1) (by omega) (fun k hk => h1 k hk) h2
theorem qm_1s (q : Nat) : qm q + 1 = qm (q + 1) := qm_s q
theorem qm_n16 {q : Nat} (h : q < 17) : ¬ (16 : Int32) ≤ qm q := fun z => by have := (qm_end q (by omega)).mp z; omega
theorem qm_16 : (16 : Int32) ≤ qm 17 := (qm_end 17 (by omega)).mpr rfl
theorem r_one {s : Nat → Int32} {p d : Nat} {P : GP} {C : List KP} (hp : p < 2) (hP : g_ok P) (hB : RB s p P) (hd1 : 1 ≤ d) (hd : d < 7) (hC : C.length ≤ 128) : ∀ (n q F : Nat) (laid : Nat → Int32) (m t : Nat → Int64) (many : Int32) (K : List KP), q + n = 17 → n < F → RK m t many C K → (∀ x ∈ r_ol p P d n q, x ∈ C) →
    ∃ laid' m' t' many', k_fix (fun _ _ _ _ _ _ _ => none) (mX10_addsOne_10 (nI d)) F (nI p) (qm q) s laid m t many = some (s, laid', m', t', many') ∧ RK m' t' many' C (l_ads K (r_ol p P d n q)) := by
  intro n
  induction n with
  | zero =>
    intro q F laid m t many K hq hF hK _
    obtain rfl : q = 17 := by omega
    refine ⟨laid, m, t, many, ?_, hK⟩
    rw [k_fix1 hF, mX10_addsOne_10, if_pos qm_16]
  | succ n ih =>
    intro q F laid m t many K hq hF hK hC2
    have h1 := tr_pos hp (show q < 17 by omega)
    have h2 := tr_lt p hp q (by omega)
    have hbl := g_ban_lt (f := P.1) (g := P.2) (d := d) (w := tr p q)
    have href : mX10_refused s (nI p) (qm q) (nI d) = some (nI (g_ban P.1 P.2 d (tr p q))) := by
      rw [qm_pl hp (by omega)]; exact r_refused hp hP hB h1 (by omega) hd1 hd
    by_cases c : g_ban P.1 P.2 d (tr p q) = 0
    · have hA : g_A P d (tr p q) := ⟨h1, by omega, c⟩
      have hpos : 0 < P.1 (tr p q) := (g_ban0.mp c).1
      have hol : r_ol p P d (n + 1) q = r_of p (g_st P d (tr p q)) :: r_ol p P d n (q + 1) := by
        show (if g_ban P.1 P.2 d (tr p q) = 0 then [r_of p (g_st P d (tr p q))] else []) ++ r_ol p P d n (q + 1) = _
        rw [if_pos c]; rfl
      rw [hol] at hC2 ⊢
      obtain ⟨l1, e1, a1, a2⟩ := lay0 (s := s) (laid := laid)
      obtain ⟨s1, e2, b1, b2⟩ := r_moves hp hP hB h1 (show tr p q ≤ 17 by omega) hd1 hd hpos
      rw [← qm_pl hp (by omega)] at e2
      obtain ⟨m1, t1, many1, e3, k1⟩ := r_adds hp (g_ok_st hP hA) b1 hC hK (hC2 _ (List.mem_cons_self ..))
      have e4 := tak0 a1 b2
      obtain ⟨l2, m2, t2, many2, e5, k2⟩ := ih (q + 1) (F - 1) l1 m1 t1 many1 _ (by omega) (by omega) k1 (fun x hx => hC2 x (List.mem_cons_of_mem _ hx))
      refine ⟨l2, m2, t2, many2, ?_, k2⟩
      rw [k_fix1 (by omega), mX10_addsOne_10, if_neg (qm_n16 (by omega)), k_bd_some href, c, if_pos nI_0, k_bd_some e1, k_bd2_some e2, k_bd3_some e3, k_bd_some e4, qm_1s, e5]
    · have hol : r_ol p P d (n + 1) q = r_ol p P d n (q + 1) := by
        show (if g_ban P.1 P.2 d (tr p q) = 0 then [r_of p (g_st P d (tr p q))] else []) ++ r_ol p P d n (q + 1) = _
        rw [if_neg c]; rfl
      rw [hol] at hC2 ⊢
      obtain ⟨l2, m2, t2, many2, e5, k2⟩ := ih (q + 1) (F - 1) laid m t many K (by omega) (by omega) hK hC2
      refine ⟨l2, m2, t2, many2, ?_, k2⟩
      rw [k_fix1 (by omega), mX10_addsOne_10, if_neg (qm_n16 (by omega)), k_bd_some href, if_neg (show ¬ nI (g_ban P.1 P.2 d (tr p q)) = (0 : Int32) from nI_ne0 (by omega) (by omega)), qm_1s, e5]
theorem r_addsOne {s laid : Nat → Int32} {p d : Nat} {P : GP} {C K : List KP} {m t : Nat → Int64} {many : Int32} (hp : p < 2) (hP : g_ok P) (hB : RB s p P) (h36 : s 36 = nI p) (hd1 : 1 ≤ d) (hd : d < 7) (hC : C.length ≤ 128) (hK : RK m t many C K) (hC2 : ∀ x ∈ r_ol p P d 17 0, x ∈ C) :
    ∃ laid' m' t' many', mX10_addsOne s laid m t many (nI d) = some (s, laid', m', t', many') ∧ RK m' t' many' C (l_ads K (r_ol p P d 17 0)) := by
  obtain ⟨l2, m2, t2, many2, e, k⟩ := r_one hp hP hB hd1 hd hC 17 0 k_F laid m t many K (by omega) (by decide) hK hC2
  refine ⟨l2, m2, t2, many2, ?_, k⟩
  unfold mX10_addsOne
  rw [h36]
  exact e
abbrev K11 := Int32 → Int32 → (Nat → Int32) → (Nat → Int32) → (Nat → Int64) → (Nat → Int64) → Int32 → Option ((Nat → Int32) × (Nat → Int32) × (Nat → Int64) × (Nat → Int64) × Int32)
theorem r_both47 {s s1 : Nat → Int32} {p d o : Nat} {P : GP} {C : List KP} {k11 : K11} {l4 : Int32} (hp : p < 2) (hP : g_ok P) (hB : RB s1 p P) (hs : ∀ k, 36 ≤ k → s1 k = s k) (ho1 : 1 ≤ o) (ho : o < 7) (hC : C.length ≤ 128) : ∀ (n q F : Nat) (laid : Nat → Int32) (m t : Nat → Int64) (many : Int32) (K : List KP), q + n = 17 → n < F → (∀ k, k < 36 → laid k = s k) → RK m t many C K → (∀ x ∈ r_ol p P o n q, x ∈ C) →
    ∃ laid' m' t' many', k_fix (fun _ _ _ _ _ _ _ _ => none) (mX10_addsBoth_47 (nI d) (nI o) k11) F (nI p) l4 (qm q) s1 laid m t many = k11 (nI p) (l4 + 1) s laid' m' t' many' ∧ RK m' t' many' C (l_ads K (r_ol p P o n q)) := by
  intro n
  induction n with
  | zero =>
    intro q F laid m t many K hq hF hl hK _
    obtain rfl : q = 17 := by omega
    refine ⟨laid, m, t, many, ?_, hK⟩
    rw [k_fix1 hF, mX10_addsBoth_47, if_pos qm_16, k_bd_some (tak0 hl hs)]
  | succ n ih =>
    intro q F laid m t many K hq hF hl hK hC2
    have h1 := tr_pos hp (show q < 17 by omega)
    have h2 := tr_lt p hp q (by omega)
    have hbl := g_ban_lt (f := P.1) (g := P.2) (d := o) (w := tr p q)
    have href : mX10_refused s1 (nI p) (qm q) (nI o) = some (nI (g_ban P.1 P.2 o (tr p q))) := by
      rw [qm_pl hp (by omega)]; exact r_refused hp hP hB h1 (by omega) ho1 ho
    by_cases c : g_ban P.1 P.2 o (tr p q) = 0
    · have hA : g_A P o (tr p q) := ⟨h1, by omega, c⟩
      have hpos : 0 < P.1 (tr p q) := (g_ban0.mp c).1
      have hol : r_ol p P o (n + 1) q = r_of p (g_st P o (tr p q)) :: r_ol p P o n (q + 1) := by
        show (if g_ban P.1 P.2 o (tr p q) = 0 then [r_of p (g_st P o (tr p q))] else []) ++ r_ol p P o n (q + 1) = _
        rw [if_pos c]; rfl
      rw [hol] at hC2 ⊢
      obtain ⟨l1, e1, a1, a2⟩ := lay1 (s := s1) (laid := laid)
      obtain ⟨s2, e2, b1, b2⟩ := r_moves hp hP hB h1 (show tr p q ≤ 17 by omega) ho1 ho hpos
      rw [← qm_pl hp (by omega)] at e2
      obtain ⟨m1, t1, many1, e3, k1⟩ := r_adds hp (g_ok_st hP hA) b1 hC hK (hC2 _ (List.mem_cons_self ..))
      have e4 := tak1 a1 b2
      obtain ⟨l2, m2, t2, many2, e5, k2⟩ := ih (q + 1) (F - 1) l1 m1 t1 many1 _ (by omega) (by omega) (fun k hk => by rw [a2 k hk]; exact hl k hk) k1 (fun x hx => hC2 x (List.mem_cons_of_mem _ hx))
      refine ⟨l2, m2, t2, many2, ?_, k2⟩
      rw [k_fix1 (by omega), mX10_addsBoth_47, if_neg (qm_n16 (by omega)), k_bd_some href, c, if_pos nI_0, k_bd_some e1, k_bd2_some e2, k_bd3_some e3, k_bd_some e4, qm_1s, e5]
    · have hol : r_ol p P o (n + 1) q = r_ol p P o n (q + 1) := by
        show (if g_ban P.1 P.2 o (tr p q) = 0 then [r_of p (g_st P o (tr p q))] else []) ++ r_ol p P o n (q + 1) = _
        rw [if_neg c]; rfl
      rw [hol] at hC2 ⊢
      obtain ⟨l2, m2, t2, many2, e5, k2⟩ := ih (q + 1) (F - 1) laid m t many K (by omega) (by omega) hl hK hC2
      refine ⟨l2, m2, t2, many2, ?_, k2⟩
      rw [k_fix1 (by omega), mX10_addsBoth_47, if_neg (qm_n16 (by omega)), k_bd_some href, if_neg (show ¬ nI (g_ban P.1 P.2 o (tr p q)) = (0 : Int32) from nI_ne0 (by omega) (by omega)), qm_1s, e5]
def r_ol2 (p : Nat) (P : GP) (d o : Nat) : Nat → Nat → List KP
  | 0, _ => []
  | n + 1, q => (if g_ban P.1 P.2 d (tr p q) = 0 then r_ol p (g_st P d (tr p q)) o 17 0 else []) ++ r_ol2 p P d o n (q + 1)
theorem r_ol2_mem {p : Nat} {P : GP} {d o : Nat} {y : KP} (hp : p < 2) : ∀ {n q : Nat}, q + n = 17 → (y ∈ r_ol2 p P d o n q ↔ ∃ v, q ≤ v ∧ v < 17 ∧ g_A P d (tr p v) ∧ y ∈ r_ol p (g_st P d (tr p v)) o 17 0) := by
  intro n
  induction n with
  | zero =>
    intro q hq
    constructor
    · intro h; cases h
    · rintro ⟨v, h1, h2, -⟩; omega
  | succ n ih =>
    intro q hq
    show y ∈ (if g_ban P.1 P.2 d (tr p q) = 0 then r_ol p (g_st P d (tr p q)) o 17 0 else []) ++ r_ol2 p P d o n (q + 1) ↔ _
    rw [List.mem_append, ih (by omega)]
    constructor
    · rintro (h | ⟨v, h1, h2, h3, h4⟩)
      · by_cases c : g_ban P.1 P.2 d (tr p q) = 0
        · rw [if_pos c] at h
          have := tr_lt p hp q (by omega)
          exact ⟨q, Nat.le_refl _, by omega, ⟨tr_pos hp (by omega), by omega, c⟩, h⟩
        · rw [if_neg c] at h; cases h
      · exact ⟨v, by omega, h2, h3, h4⟩
    · rintro ⟨v, h1, h2, h3, h4⟩
      by_cases c : v = q
      · subst c
        rw [if_pos h3.2.2]
        exact Or.inl h4
      · exact Or.inr ⟨v, by omega, h2, h3, h4⟩
theorem r_ol2_all {p : Nat} {P : GP} {d o : Nat} {y : KP} (hp : p < 2) : y ∈ r_ol2 p P d o 17 0 ↔ ∃ w, g_A P d w ∧ ∃ v, g_A (g_st P d w) o v ∧ y = r_of p (g_st (g_st P d w) o v) := by
  rw [r_ol2_mem hp (by omega)]
  constructor
  · rintro ⟨v, -, -, h3, h4⟩
    exact ⟨tr p v, h3, (r_ol_all hp).mp h4⟩
  · rintro ⟨w, h3, h4⟩
    have h1 := h3.1
    have h2 := h3.2.1
    have h5 : tr p w < 18 := tr_lt p hp w (by omega)
    have h6 : tr p w ≠ 17 := fun z => by have := (tr_17 p hp w (by omega)).mp z; omega
    refine ⟨tr p w, by omega, by omega, ?_, ?_⟩
    · rw [tr_tr p hp w (by omega)]; exact h3
    · rw [tr_tr p hp w (by omega)]; exact (r_ol_all hp).mpr h4
theorem r_both {s : Nat → Int32} {p d o : Nat} {P : GP} {C : List KP} (hp : p < 2) (hP : g_ok P) (hB : RB s p P) (hd1 : 1 ≤ d) (hd : d < 7) (ho1 : 1 ≤ o) (ho : o < 7) (hC : C.length ≤ 128) : ∀ (n q F : Nat) (laid : Nat → Int32) (m t : Nat → Int64) (many : Int32) (K : List KP), q + n = 17 → n < F → RK m t many C K → (∀ x ∈ r_ol2 p P d o n q, x ∈ C) →
    ∃ laid' m' t' many', k_fix (fun _ _ _ _ _ _ _ => none) (mX10_addsBoth_11 (nI d) (nI o)) F (nI p) (qm q) s laid m t many = some (s, laid', m', t', many') ∧ RK m' t' many' C (l_ads K (r_ol2 p P d o n q)) := by
  intro n
  induction n with
  | zero =>
    intro q F laid m t many K hq hF hK _
    obtain rfl : q = 17 := by omega
    refine ⟨laid, m, t, many, ?_, hK⟩
    rw [k_fix1 hF, mX10_addsBoth_11, if_pos qm_16]
  | succ n ih =>
    intro q F laid m t many K hq hF hK hC2
    have h1 := tr_pos hp (show q < 17 by omega)
    have h2 := tr_lt p hp q (by omega)
    have hbl := g_ban_lt (f := P.1) (g := P.2) (d := d) (w := tr p q)
    have href : mX10_refused s (nI p) (qm q) (nI d) = some (nI (g_ban P.1 P.2 d (tr p q))) := by
      rw [qm_pl hp (by omega)]; exact r_refused hp hP hB h1 (by omega) hd1 hd
    by_cases c : g_ban P.1 P.2 d (tr p q) = 0
    · have hA : g_A P d (tr p q) := ⟨h1, by omega, c⟩
      have hpos : 0 < P.1 (tr p q) := (g_ban0.mp c).1
      have hol : r_ol2 p P d o (n + 1) q = r_ol p (g_st P d (tr p q)) o 17 0 ++ r_ol2 p P d o n (q + 1) := by
        show (if g_ban P.1 P.2 d (tr p q) = 0 then r_ol p (g_st P d (tr p q)) o 17 0 else []) ++ r_ol2 p P d o n (q + 1) = _
        rw [if_pos c]
      rw [hol] at hC2 ⊢
      rw [l_ads_app]
      obtain ⟨l1, e1, a1, a2⟩ := lay0 (s := s) (laid := laid)
      obtain ⟨s1, e2, b1, b2⟩ := r_moves hp hP hB h1 (show tr p q ≤ 17 by omega) hd1 hd hpos
      rw [← qm_pl hp (by omega)] at e2
      obtain ⟨l2, m2, t2, many2, e3, k2⟩ := r_both47 (s := s) (s1 := s1) (d := d) (k11 := k_fix (fun _ _ _ _ _ _ _ => none) (mX10_addsBoth_11 (nI d) (nI o)) (F - 1)) (l4 := qm q) hp (g_ok_st hP hA) b1 b2 ho1 ho hC 17 0 k_F l1 m t many K (by omega) (by decide) a1 hK (fun x hx => hC2 x (List.mem_append_left _ hx))
      obtain ⟨l3, m3, t3, many3, e4, k3⟩ := ih (q + 1) (F - 1) l2 m2 t2 many2 _ (by omega) (by omega) k2 (fun x hx => hC2 x (List.mem_append_right _ hx))
      refine ⟨l3, m3, t3, many3, ?_, k3⟩
      have hq0 : (-1 : Int32) = qm 0 := qm_0.symm
      rw [k_fix1 (by omega), mX10_addsBoth_11, if_neg (qm_n16 (by omega)), k_bd_some href, c, if_pos nI_0, k_bd_some e1, k_bd2_some e2, hq0, e3, qm_1s, e4]
    · have hol : r_ol2 p P d o (n + 1) q = r_ol2 p P d o n (q + 1) := by
        show (if g_ban P.1 P.2 d (tr p q) = 0 then r_ol p (g_st P d (tr p q)) o 17 0 else []) ++ r_ol2 p P d o n (q + 1) = _
        rw [if_neg c]; rfl
      rw [hol] at hC2 ⊢
      obtain ⟨l2, m2, t2, many2, e5, k2⟩ := ih (q + 1) (F - 1) laid m t many K (by omega) (by omega) hK hC2
      refine ⟨l2, m2, t2, many2, ?_, k2⟩
      rw [k_fix1 (by omega), mX10_addsBoth_11, if_neg (qm_n16 (by omega)), k_bd_some href, if_neg (show ¬ nI (g_ban P.1 P.2 d (tr p q)) = (0 : Int32) from nI_ne0 (by omega) (by omega)), qm_1s, e5]
theorem r_addsBoth {s laid : Nat → Int32} {p d o : Nat} {P : GP} {C K : List KP} {m t : Nat → Int64} {many : Int32} (hp : p < 2) (hP : g_ok P) (hB : RB s p P) (h36 : s 36 = nI p) (hd1 : 1 ≤ d) (hd : d < 7) (ho1 : 1 ≤ o) (ho : o < 7) (hC : C.length ≤ 128) (hK : RK m t many C K) (hC2 : ∀ x ∈ r_ol2 p P d o 17 0, x ∈ C) :
    ∃ laid' m' t' many', mX10_addsBoth s laid m t many (nI d) (nI o) = some (s, laid', m', t', many') ∧ RK m' t' many' C (l_ads K (r_ol2 p P d o 17 0)) := by
  obtain ⟨l2, m2, t2, many2, e, k⟩ := r_both hp hP hB hd1 hd ho1 ho hC 17 0 k_F laid m t many K (by omega) (by decide) hK hC2
  refine ⟨l2, m2, t2, many2, ?_, k⟩
  unfold mX10_addsBoth
  rw [h36]
  exact e
