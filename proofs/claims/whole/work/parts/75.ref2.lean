/-! the reference: standings laid aside, reach, reasons -/
theorem r_lays {s laid : Nat → Int32} {lv : Nat} (hlv : lv < 3) : ∃ laid', mX10_lays s laid (nI lv) = some laid' ∧ (∀ k, k < 36 → laid' (36 * lv + k) = s k) ∧ ∀ j, (j < 36 * lv ∨ 36 * lv + 36 ≤ j) → laid' j = laid j := by
  have key : ∀ (j i m : Nat) (l : Nat → Int32), i + j = 36 → j < m → (∀ k, k < i → l (36 * lv + k) = s k) → (∀ x, (x < 36 * lv ∨ 36 * lv + 36 ≤ x) → l x = laid x) →
      ∃ laid', k_fix (fun _ _ => none) (mX10_lays_2 s (nI lv)) m (nI i) l = some laid' ∧ (∀ k, k < 36 → laid' (36 * lv + k) = s k) ∧ ∀ x, (x < 36 * lv ∨ 36 * lv + 36 ≤ x) → laid' x = laid x := by
    intro j
    induction j with
    | zero =>
      intro i m l hi hm h1 h2
      rw [show i = 36 by omega] at h1 ⊢
      refine ⟨l, ?_, h1, h2⟩
      rw [k_fix1 hm, mX10_lays_2]
      simp only [kn_36]
      rw [if_pos (Int32.le_refl _)]
    | succ j ih =>
      intro i m l hi hm h1 h2
      rw [k_fix1 (by omega), mX10_lays_2]
      simp only [kn_36, kn_1]
      rw [if_neg (nI_ge (by omega) (by omega)), k_g_in (by omega) (by omega), pk_mul, nI_add, k_g_in (by omega) (by omega), nI_add, nI_clamp (by omega), nI_clamp (by omega)]
      refine ih (i + 1) (m - 1) _ (by omega) (by omega) (fun k hk => ?_) (fun x hx => ?_)
      · by_cases c : k = i
        · subst c; exact pk_us
        · rw [pk_un (by omega)]; exact h1 k (by omega)
      · rw [pk_un (by omega)]; exact h2 x hx
  unfold mX10_lays
  simp only [kn_0]
  exact key 36 0 k_F laid (by omega) (by unfold k_F; omega) (fun k hk => by omega) (fun x _ => rfl)
theorem r_takes {s s0 laid : Nat → Int32} {lv : Nat} (hlv : lv < 3) (h1 : ∀ k, k < 36 → laid (36 * lv + k) = s0 k) (h2 : ∀ k, 36 ≤ k → s k = s0 k) : mX10_takesUp s laid (nI lv) = some s0 := by
  have key : ∀ (j i m : Nat) (t : Nat → Int32), i + j = 36 → j < m → (∀ k, k < i → t k = s0 k) → (∀ k, 36 ≤ k → t k = s0 k) → k_fix (fun _ _ => none) (mX10_takesUp_2 laid (nI lv)) m (nI i) t = some s0 := by
    intro j
    induction j with
    | zero =>
      intro i m t hi hm a b
      rw [show i = 36 by omega] at a ⊢
      rw [k_fix1 hm, mX10_takesUp_2]
      simp only [kn_36]
      rw [if_pos (Int32.le_refl _)]
      congr 1
      funext k
      rcases Nat.lt_or_ge k 36 with z | z
      · exact a k z
      · exact b k z
    | succ j ih =>
      intro i m t hi hm a b
      rw [k_fix1 (by omega), mX10_takesUp_2]
      simp only [kn_36, kn_1]
      rw [if_neg (nI_ge (by omega) (by omega)), pk_mul, nI_add, k_g_in (by omega) (by omega), k_g_in (by omega) (by omega), nI_add, nI_clamp (by omega), nI_clamp (by omega), h1 i (by omega)]
      refine ih (i + 1) (m - 1) _ (by omega) (by omega) (fun k hk => ?_) (fun k hk => ?_)
      · by_cases c : k = i
        · subst c; exact pk_us
        · rw [pk_un (by omega)]; exact a k (by omega)
      · rw [pk_un (by omega)]; exact b k hk
  unfold mX10_takesUp
  simp only [kn_0]
  exact key 36 0 k_F s (by omega) (by unfold k_F; omega) (fun k hk => by omega) h2
theorem r_isSecond {s laid : Nat → Int32} {p d o w : Nat} {P : GP} (hp : p < 2) (hP : g_ok P) (h : RB s p P) (hA : g_A P d w) (hd1 : 1 ≤ d) (hd : d < 7) (ho1 : 1 ≤ o) (ho : o < 7) :
    ∃ laid', mX10_isSecond s laid (nI p) (pl p w) (nI d) (nI o) = some (g_any (g_st P d w) o, s, laid') := by
  obtain ⟨l1, a1, a2, -⟩ := r_lays (s := s) (laid := laid) (lv := 2) (by omega)
  obtain ⟨s', b1, b2, b3⟩ := r_moves hp hP h hA.1 hA.2.1 hd1 hd (g_ban0.mp hA.2.2).1
  refine ⟨l1, ?_⟩
  unfold mX10_isSecond
  simp only [kn_2]
  rw [a1, k_bs, k_bd2_some b1, r_isAny hp (g_ok_st hP hA) b2 ho1 ho, k_bs, r_takes (by omega) a2 b3, k_bs]
theorem r_loopAny (P : Nat → Prop) (Q : Nat → Prop) : True := trivial
theorem r_isBoth {s laid : Nat → Int32} {p d o : Nat} {P : GP} (hp : p < 2) (hP : g_ok P) (h : RB s p P) (hd1 : 1 ≤ d) (hd : d < 7) (ho1 : 1 ≤ o) (ho : o < 7) :
    ∃ laid', mX10_isBoth s laid (nI p) (nI d) (nI o) = some (g_two P d o, s, laid') := by
  have key : ∀ (j q m : Nat) (laid : Nat → Int32), q + j = 17 → j < m → ∃ b laid', k_fix (fun _ _ _ => none) (mX10_isBoth_3 (nI p) (nI d) (nI o)) m (qm q) s laid = some (b, s, laid') ∧ (b = true ↔ ∃ x, q ≤ x ∧ x < 17 ∧ g_A P d (tr p x) ∧ g_any (g_st P d (tr p x)) o = true) := by
    intro j
    induction j with
    | zero =>
      intro q m laid hq hm
      refine ⟨false, laid, ?_, ⟨fun z => (nomatch z), fun ⟨x, a, b, _⟩ => by omega⟩⟩
      rw [k_fix1 hm, mX10_isBoth_3, show q = 17 by omega]
      simp only [kn_16]
      rw [if_pos ((qm_end 17 (by omega)).mpr rfl)]
    | succ j ih =>
      intro q m laid hq hm
      have ht := tr_lt p hp q (by omega)
      have h0 : tr p q ≠ 0 := fun z => by have := tr_tr p hp q (by omega); rw [z] at this; have := (tr_17 p hp 0 (by omega)).mpr rfl; omega
      have hbl := g_ban_lt (f := P.1) (g := P.2) (d := d) (w := tr p q)
      have hne : ¬ nI 16 ≤ qm q := fun z => by have := (qm_end q (by omega)).mp z; omega
      have grow : ∀ {b : Bool} {B : Prop}, (b = true ↔ ∃ x, q + 1 ≤ x ∧ x < 17 ∧ g_A P d (tr p x) ∧ g_any (g_st P d (tr p x)) o = true) → ¬ (g_A P d (tr p q) ∧ g_any (g_st P d (tr p q)) o = true) → (b = true ↔ ∃ x, q ≤ x ∧ x < 17 ∧ g_A P d (tr p x) ∧ g_any (g_st P d (tr p x)) o = true) := fun {b B} b2 hn =>
        b2.trans ⟨fun ⟨x, x1, x2, x3⟩ => ⟨x, by omega, x2, x3⟩, fun ⟨x, x1, x2, x3⟩ => ⟨x, by
          rcases Nat.lt_or_ge q x with z | z
          · exact z
          · have : x = q := by omega
            subst this; exact absurd x3 hn, x2, x3⟩⟩
      rw [k_fix1 (by omega), mX10_isBoth_3]
      simp only [kn_16, kn_0, kn_1, k_b1]
      rw [if_neg hne, qm_s, qm_pl hp (by omega), r_refused hp hP h (by omega) (by omega) hd1 hd, k_bs]
      by_cases c : g_ban P.1 P.2 d (tr p q) = 0
      · have hA : g_A P d (tr p q) := ⟨by omega, by omega, c⟩
        obtain ⟨l1, e1⟩ := r_isSecond (laid := laid) hp hP h hA hd1 hd ho1 ho
        rw [if_pos (by rw [c]), k_bd3_some e1]
        cases q2 : g_any (g_st P d (tr p q)) o
        · rw [if_pos (by trivial)]
          obtain ⟨b, l2, b1, b2⟩ := ih (q + 1) (m - 1) l1 (by omega) (by omega)
          exact ⟨b, l2, b1, grow (B := True) b2 (fun z => by rw [q2] at z; exact (nomatch z.2))⟩
        · rw [if_neg (fun z => (nomatch z))]
          exact ⟨true, l1, rfl, ⟨fun _ => ⟨q, Nat.le_refl _, by omega, hA, q2⟩, fun _ => rfl⟩⟩
      · rw [if_neg (kI_ne0 (by omega) (by omega))]
        obtain ⟨b, l2, b1, b2⟩ := ih (q + 1) (m - 1) laid (by omega) (by omega)
        exact ⟨b, l2, b1, grow (B := True) b2 (fun z => c z.1.2.2)⟩
  obtain ⟨b, l1, b1, b2⟩ := key 17 0 k_F laid (by omega) (by unfold k_F; omega)
  refine ⟨l1, ?_⟩
  unfold mX10_isBoth
  simp only [kn_1]
  rw [← qm_0, b1]
  have e : b = g_two P d o := by
    rw [Bool.eq_iff_iff, b2, g_two_iff]
    constructor
    · intro ⟨x, _, _, h⟩; exact ⟨_, h⟩
    · intro ⟨w, hw, hw2⟩
      have h2 := hw.2.1
      have h17 := tr_17 p hp w (by omega)
      have hl := tr_lt p hp w (by omega)
      exact ⟨tr p w, by omega, by have := hw.1; omega, by rw [tr_tr p hp w (by omega)]; exact ⟨hw, hw2⟩⟩
  rw [e]
/-- the dice in the reference's row -/
def RD (s : Nat → Int32) (ds : List Nat) : Prop := s 38 = nI ds.length ∧ ∀ i, i < 4 → s (39 + i) = nI (ds.getD i 0)
theorem r_areUnlike {s : Nat → Int32} {ds : List Nat} (hds : ds ∈ d_all) (h : RD s ds) : mX10_areUnlike s = some (g_un ds) := by
  have h0 := h.2 0 (by omega)
  have h1 := h.2 1 (by omega)
  have hl := d_len ds hds
  unfold mX10_areUnlike
  simp only [kn_2]
  rw [h.1, h0, h1]
  rcases d_shape ds hds with ⟨u1, u2, u3, -⟩ | ⟨u1, u2, -⟩
  · have hl2 : ds.length = 2 := by rw [u2]; rfl
    have m0 := d_range ds hds (ds.getD 0 0) (by rw [u2]; exact List.mem_cons_self)
    have m1 := d_range ds hds (ds.getD 1 0) (by rw [u2]; exact List.mem_cons_of_mem _ List.mem_cons_self)
    rw [u1, hl2, if_pos (by trivial), if_neg (kI_neq u3 (by omega) (by omega))]
  · rw [u1]
    by_cases c : ds.length = 2
    · have e : ds.getD 0 0 = ds.getD 1 0 := by
        rw [c] at u2
        rw [u2]
        rfl
      rw [if_pos (by rw [c]), if_pos (by rw [e])]
    · rw [if_neg (kI_neq c (by omega) (by omega))]
theorem r_like {p d : Nat} {s0 laid : Nat → Int32} (hp : p < 2) (hd1 : 1 ≤ d) (hd : d < 7) {K : Nat} (hK : K < 5) (hs38 : s0 38 = nI K) (hs39 : s0 39 = nI d) (hl : ∀ k, k < 36 → laid k = s0 k) :
    ∀ (m n q : Nat) (s : Nat → Int32) (P : GP), n ≤ K → q ≤ 17 → (K - n) * 18 + (17 - q) < m → g_ok P → RB s p P → (∀ k, 36 ≤ k → s k = s0 k) → (∀ x, x < q → ¬ g_A P d (tr p x)) →
      k_fix (fun _ _ _ _ _ => none) mX10_reaches_88 m (nI p) (nI n) (qm q) s laid = some (nI (n + g_rl d (K - n) P), s0, laid) := by
  have hend : ∀ (n : Nat) (s : Nat → Int32), (∀ k, 36 ≤ k → s k = s0 k) → mX10_reaches_150 (nI n) s laid = some (nI n, s0, laid) := fun n s h => by
    unfold mX10_reaches_150
    simp only [kn_0]
    rw [r_takes (s0 := s0) (by omega) (fun k hk => by rw [Nat.mul_zero, Nat.zero_add]; exact hl k hk) h, k_bs]
  intro m
  induction m with
  | zero => intro n q s P _ _ h; omega
  | succ m ih =>
    intro n q s P hn hq hm hP hB hhi hno
    rw [k_fixS, mX10_reaches_88]
    simp only [kn_16, kn_0, kn_1]
    rw [hhi 38 (by omega), hs38, hhi 39 (by omega), hs39]
    by_cases c1 : K ≤ n
    · rw [if_pos (nI_le c1 (by omega)), hend n s hhi, show K - n = 0 by omega]
      rfl
    · rw [if_neg (nI_ge (by omega) (by omega))]
      by_cases c2 : q = 17
      · rw [if_pos ((qm_end q (by omega)).mpr c2), hend n s hhi, g_rl_none (fun w hw => ?_)]
        · rfl
        · have h2 := hw.2.1
          have h17 := tr_17 p hp w (by omega)
          have htl := tr_lt p hp w (by omega)
          exact hno (tr p w) (by have := hw.1; omega) (by rw [tr_tr p hp w (by omega)]; exact hw)
      · have ht := tr_lt p hp q (by omega)
        have h0 : tr p q ≠ 0 := fun z => by have := tr_tr p hp q (by omega); rw [z] at this; have := (tr_17 p hp 0 (by omega)).mpr rfl; omega
        have hbl := g_ban_lt (f := P.1) (g := P.2) (d := d) (w := tr p q)
        rw [if_neg (fun z => c2 ((qm_end q (by omega)).mp z)), qm_s, qm_pl hp (by omega), r_refused hp hP hB (by omega) (by omega) hd1 hd, k_bs]
        by_cases c : g_ban P.1 P.2 d (tr p q) = 0
        · have hA : g_A P d (tr p q) := ⟨by omega, by omega, c⟩
          obtain ⟨s', b1, b2, b3⟩ := r_moves hp hP hB hA.1 hA.2.1 hd1 hd (g_ban0.mp c).1
          rw [if_pos (by rw [c]), k_bd2_some b1, nI_add, ← qm_0, ih (n + 1) 0 s' (g_st P d (tr p q)) (by omega) (by omega) (by omega) (g_ok_st hP hA) b2 (fun k hk => by rw [b3 k hk, hhi k hk]) (fun x hx => by omega)]
          have e : K - n = (K - (n + 1)) + 1 := by omega
          rw [e, g_rl_step hd1 hA, Nat.add_assoc]
        · rw [if_neg (kI_ne0 (by omega) (by omega)), ih n (q + 1) s P hn (by omega) (by omega) hP hB hhi (fun x hx => ?_)]
          by_cases cx : x = q
          · subst cx; exact fun z => c z.2.2
          · exact hno x (by omega)
theorem r_reaches {s laid : Nat → Int32} {p : Nat} {ds : List Nat} {P : GP} (hp : p < 2) (hP : g_ok P) (h : RB s p P) (hds : ds ∈ d_all) (hD : RD s ds) (h36 : s 36 = nI p) :
    ∃ laid', mX10_reaches s laid = some (nI (g_R ds P), s, laid') := by
  have hl := d_len ds hds
  have h0 := hD.2 0 (by omega)
  have h1 := hD.2 1 (by omega)
  unfold mX10_reaches
  simp only [kn_0, kn_1, kn_2, k_b1]
  rw [r_areUnlike hds hD, k_bs, h36, show s 39 = _ from h0, show s 40 = _ from h1]
  rcases d_shape ds hds with ⟨u1, u2, u3, -⟩ | ⟨u1, u2, -⟩
  · rw [u1, if_neg (fun z => (nomatch z))]
    obtain ⟨a, ha⟩ : ∃ a, a = ds.getD 0 0 := ⟨_, rfl⟩
    obtain ⟨b, hb⟩ : ∃ b, b = ds.getD 1 0 := ⟨_, rfl⟩
    rw [← ha, ← hb] at u2 u3 ⊢
    obtain ⟨ra1, ra2⟩ := d_range ds hds a (by rw [u2]; exact List.mem_cons_self)
    obtain ⟨rb1, rb2⟩ := d_range ds hds b (by rw [u2]; exact List.mem_cons_of_mem _ List.mem_cons_self)
    obtain ⟨l1, e1⟩ := r_isBoth (laid := laid) hp hP h ra1 ra2 rb1 rb2
    obtain ⟨l2, e2⟩ := r_isBoth (laid := l1) hp hP h rb1 rb2 ra1 ra2
    have hR := g_R_two (P := P) u3
    rw [← u2] at hR
    rw [hR, k_bd3_some e1, k_bd3_some e2, r_isAny hp hP h ra1 ra2, k_bs, r_isAny hp hP h rb1 rb2, k_bs]
    cases g_two P a b <;> cases g_two P b a <;> cases g_any P a <;> cases g_any P b <;> simp
  · rw [u1, if_pos (by trivial)]
    obtain ⟨l1, a1, a2, -⟩ := r_lays (s := s) (laid := laid) (lv := 0) (by omega)
    rw [show mX10_lays s laid (nI 0) = some l1 from a1, k_bs]
    by_cases c : ds = []
    · subst c
      refine ⟨l1, ?_⟩
      rw [k_fix1 (by unfold k_F; omega), mX10_reaches_88]
      unfold mX10_reaches_150
      simp only [kn_0]
      rw [hD.1, show ([] : List Nat).length = 0 from rfl, if_pos (Int32.le_refl _), r_takes (s0 := s) (by omega) a2 (fun k _ => rfl), k_bs]
      rfl
    · obtain ⟨d, hd⟩ : ∃ d, d = ds.getD 0 0 := ⟨_, rfl⟩
      have hlen : 0 < ds.length := List.length_pos_iff.mpr c
      have hmem : d ∈ ds := by
        rw [hd, List.getD_eq_getElem?_getD, List.getElem?_eq_getElem hlen]
        exact List.getElem_mem hlen
      obtain ⟨r1, r2⟩ := d_range ds hds d hmem
      refine ⟨l1, ?_⟩
      have := r_like (laid := l1) hp r1 r2 hl hD.1 (by rw [show s 39 = _ from h0, ← hd]) (fun k hk => by have := a2 k hk; rwa [Nat.mul_zero, Nat.zero_add] at this) k_F 0 0 s P (by omega) (by omega) (by unfold k_F; omega) hP h (fun k _ => rfl) (fun x hx => by omega)
      rw [← qm_0, this, Nat.zero_add, Nat.sub_zero]
      have hR : g_R ds P = g_rl d ds.length P := by
        conv => lhs; rw [u2, ← hd]
        exact g_R_like hl
      rw [hR]
theorem r_isLeft {s : Nat → Int32} {ds : List Nat} {d : Nat} (hds : ds ∈ d_all) (hD : RD s ds) (hd : d < 7) : mX10_isLeft s (nI d) = some (decide (d ∈ ds)) := by
  have hl := d_len ds hds
  have key : ∀ (j i m : Nat) (b : Bool), i + j = ds.length → j < m → (b = true ↔ ∃ x, x < i ∧ ds.getD x 0 = d) → ∃ r, k_fix (fun _ _ => none) (mX10_isLeft_4 s (nI d)) m b (nI i) = some r ∧ (r = true ↔ ∃ x, x < ds.length ∧ ds.getD x 0 = d) := by
    intro j
    induction j with
    | zero =>
      intro i m b hi hm hb
      rw [show i = ds.length by omega] at hb ⊢
      refine ⟨b, ?_, hb⟩
      rw [k_fix1 hm, mX10_isLeft_4, hD.1, if_pos (Int32.le_refl _)]
    | succ j ih =>
      intro i m b hi hm hb
      have hm0 : ds.getD i 0 ∈ ds := by
        rw [List.getD_eq_getElem?_getD, List.getElem?_eq_getElem (show i < ds.length by omega)]
        exact List.getElem_mem _
      have hr := d_range ds hds _ hm0
      rw [k_fix1 (by omega), mX10_isLeft_4, hD.1]
      simp only [kn_39, kn_0, kn_1, k_b1]
      rw [if_neg (nI_ge (by omega) (by omega)), nI_add, k_g_in (by omega) (by omega), nI_add, nI_clamp (by omega), hD.2 i (by omega)]
      cases b
      · rw [if_pos (by trivial)]
        by_cases c : ds.getD i 0 = d
        · rw [if_pos (by rw [c])]
          exact ih (i + 1) (m - 1) true (by omega) (by omega) ⟨fun _ => ⟨i, by omega, c⟩, fun _ => rfl⟩
        · rw [if_neg (kI_neq c (by omega) (by omega))]
          refine ih (i + 1) (m - 1) false (by omega) (by omega) ⟨fun z => (nomatch z), fun ⟨x, x1, x2⟩ => ?_⟩
          refine hb.mpr ⟨x, ?_, x2⟩
          by_cases cx : x = i
          · subst cx; exact absurd x2 c
          · omega
      · rw [if_neg (fun z => (nomatch z))]
        obtain ⟨x, x1, x2⟩ := hb.mp rfl
        exact ih (i + 1) (m - 1) true (by omega) (by omega) ⟨fun _ => ⟨x, by omega, x2⟩, fun _ => rfl⟩
  obtain ⟨r, r1, r2⟩ := key ds.length 0 k_F false (by omega) (by unfold k_F; omega) ⟨fun z => (nomatch z), fun ⟨x, x1, _⟩ => by omega⟩
  unfold mX10_isLeft
  simp only [kn_0]
  rw [r1]
  refine congrArg some ?_
  rw [Bool.eq_iff_iff, r2, decide_eq_true_eq]
  constructor
  · intro ⟨x, x1, x2⟩
    rw [← x2, List.getD_eq_getElem?_getD, List.getElem?_eq_getElem x1]
    exact List.getElem_mem _
  · intro h
    obtain ⟨x, x1, x2⟩ := List.getElem_of_mem h
    exact ⟨x, x1, by rw [List.getD_eq_getElem?_getD, List.getElem?_eq_getElem x1]; exact x2⟩
theorem g_ot_ok : ∀ ds ∈ d_all, g_un ds = true → ∀ d ∈ ds, g_ot ds d ∈ ds ∧ d < ds.getD 0 0 + ds.getD 1 0 ∧ g_ot ds d ≠ d := by decide +kernel
theorem r_why {s laid : Nat → Int32} {p d w : Nat} {ds : List Nat} {P : GP} (hp : p < 2) (hP : g_ok P) (h : RB s p P) (hds : ds ∈ d_all) (hD : RD s ds) (h36 : s 36 = nI p) (hd1 : 1 ≤ d) (hd : d < 7) (hw1 : 1 ≤ w) (hw : w ≤ 17) :
    ∃ laid', mX10_why s laid (pl p w) (nI d) = some (nI (g_re ds P d w), s, laid') := by
  unfold mX10_why g_re
  simp only [kn_0, kn_1, kn_6, k_b1]
  rw [r_isLeft hds hD hd, k_bs, h36, r_refused hp hP h hw1 hw hd1 hd, k_bs]
  by_cases hm : d ∈ ds
  rotate_left
  · rw [decide_eq_false hm, if_pos (by trivial), if_neg hm]; exact ⟨laid, rfl⟩
  rw [decide_eq_true hm, if_neg (fun z => (nomatch z)), if_pos hm]
  have hb := g_ban_lt (f := P.1) (g := P.2) (d := d) (w := w)
  by_cases c : g_ban P.1 P.2 d w = 0
  rotate_left
  · rw [if_neg (kI_nle (by omega) (by omega)), if_neg c]; exact ⟨laid, rfl⟩
  have hA : g_A P d w := ⟨hw1, hw, c⟩
  obtain ⟨l1, e1⟩ := r_reaches (laid := laid) hp hP h hds hD h36
  have hRl := g_R_le (ds := ds) (P := P)
  have hlen := d_len ds hds
  rw [if_pos (by rw [c]; exact Int32.le_refl _), if_pos c, k_bd3_some e1]
  have h0 := hD.2 0 (by omega)
  have h1 := hD.2 1 (by omega)
  unfold mX10_isBarred
  simp only [kn_0, kn_1, kn_2, k_b1]
  rw [r_areUnlike hds hD, k_bs, h36, show s 39 = _ from h0, show s 40 = _ from h1]
  cases u : g_un ds
  · rw [if_pos (by trivial), if_neg (fun z => (nomatch z))]
    exact ⟨l1, rfl⟩
  · obtain ⟨q1, q2, q3⟩ := g_ot_ok ds hds u d hm
    obtain ⟨o1, o2⟩ := d_range ds hds _ q1
    have eo : nI (ds.getD 0 0) + nI (ds.getD 1 0) - nI d = nI (g_ot ds d) := by rw [nI_add, pk_sub (by omega)]; rfl
    rw [if_neg (fun z => (nomatch z)), if_pos (c := true = true) rfl, eo]
    by_cases c2 : g_R ds P = 2
    · obtain ⟨l2, e2⟩ := r_isSecond (laid := l1) hp hP h hA hd1 hd o1 o2
      rw [if_pos (by rw [c2]), if_pos c2, k_bd3_some e2]
      cases g_any (g_st P d w) (g_ot ds d)
      · rw [if_pos (by trivial)]; exact ⟨l2, rfl⟩
      · rw [if_neg (fun z => (nomatch z))]; exact ⟨l2, rfl⟩
    · rw [if_neg (kI_neq c2 (by omega) (by omega)), if_neg c2, r_isAny hp hP h o1 o2]
      by_cases c3 : d < g_ot ds d
      · rw [if_neg (nI_ge c3 (by omega)), k_bs]
        cases z : g_any P (g_ot ds d)
        · rw [if_pos (by trivial), if_neg (fun y => (nomatch y.2))]; exact ⟨l1, rfl⟩
        · rw [if_neg (fun y => (nomatch y)), if_pos ⟨c3, rfl⟩]; exact ⟨l1, rfl⟩
      · rw [if_pos (nI_le (by omega) (by omega)), if_neg (fun y => c3 y.1)]; exact ⟨l1, rfl⟩
