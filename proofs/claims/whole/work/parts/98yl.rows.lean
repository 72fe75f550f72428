/-! rows of the reference -/
def r_of (p : Nat) (P : GP) : KP := if p = 0 then (b_L (p_at 0 P.1), b_L (p_at 1 P.2)) else (b_L (p_at 0 P.2), b_L (p_at 1 P.1))
theorem p_at_inj {q : Nat} {f g : Nat → Nat} (hq : q < 2) (h : ∀ l, l < 18 → p_at q f l = p_at q g l) (hf : ∀ i, 18 ≤ i → f i = 0) (hg : ∀ i, 18 ≤ i → g i = 0) : f = g := by
  funext w
  by_cases hw : w < 18
  · have h1 := h (tr q w) (tr_lt q hq w hw)
    unfold p_at at h1
    rw [if_pos (tr_lt q hq w hw), if_pos (tr_lt q hq w hw), tr_tr q hq w hw] at h1
    exact h1
  · rw [hf w (by omega), hg w (by omega)]
theorem pL_inj {q : Nat} {f g : Nat → Nat} (hq : q < 2) (hf : b_ok f) (hg : b_ok g) (zf : ∀ i, 18 ≤ i → f i = 0) (zg : ∀ i, 18 ≤ i → g i = 0) (h : b_L (p_at q f) = b_L (p_at q g)) : f = g :=
  p_at_inj hq (b_L_inj (p_at_ok hq hf) (p_at_ok hq hg) h) zf zg
theorem r_inj {p : Nat} {P Q : GP} (hP : g_ok P) (hQ : g_ok Q) (h : r_of p P = r_of p Q) : P = Q := by
  obtain ⟨f, g⟩ := P
  obtain ⟨f', g'⟩ := Q
  obtain ⟨p1, p2, p3⟩ := hP
  obtain ⟨q1, q2, q3⟩ := hQ
  have zf : ∀ i, 18 ≤ i → f i = 0 := fun i hi => (p3 i hi).1
  have zg : ∀ i, 18 ≤ i → g i = 0 := fun i hi => (p3 i hi).2
  have zf' : ∀ i, 18 ≤ i → f' i = 0 := fun i hi => (q3 i hi).1
  have zg' : ∀ i, 18 ≤ i → g' i = 0 := fun i hi => (q3 i hi).2
  unfold r_of at h
  by_cases hp : p = 0
  · rw [if_pos hp, if_pos hp] at h
    have h1 : b_L (p_at 0 f) = b_L (p_at 0 f') := congrArg Prod.fst h
    have h2 : b_L (p_at 1 g) = b_L (p_at 1 g') := congrArg Prod.snd h
    have e1 : f = f' := pL_inj (q := 0) (by omega) p1 q1 zf zf' h1
    have e2 : g = g' := pL_inj (q := 1) (by omega) p2 q2 zg zg' h2
    rw [e1, e2]
  · rw [if_neg hp, if_neg hp] at h
    have h1 : b_L (p_at 0 g) = b_L (p_at 0 g') := congrArg Prod.fst h
    have h2 : b_L (p_at 1 f) = b_L (p_at 1 f') := congrArg Prod.snd h
    have e1 : g = g' := pL_inj (q := 0) (by omega) p2 q2 zg zg' h1
    have e2 : f = f' := pL_inj (q := 1) (by omega) p1 q1 zf zf' h2
    rw [e1, e2]
theorem r_told2 {s : Nat → Int32} {p : Nat} {P : GP} (hp : p < 2) (hP : g_ok P) (h : RB s p P) : mX10_told s 0 = some (r_of p P).1 ∧ mX10_told s 1 = some (r_of p P).2 := by
  obtain ⟨f, g⟩ := P
  obtain ⟨p1, p2, -⟩ := hP
  obtain ⟨h1, h2⟩ := h
  unfold r_of
  rcases (show p = 0 ∨ p = 1 by omega) with rfl | rfl
  · rw [if_pos rfl]
    refine ⟨?_, ?_⟩
    · rw [← nI_0]; exact r_told (q := 0) (by omega) p1 h1
    · exact r_told (q := 1) (by omega) p2 h2
  · rw [if_neg (by omega)]
    refine ⟨?_, ?_⟩
    · rw [← nI_0]; exact r_told (q := 0) (by omega) p2 h2
    · exact r_told (q := 1) (by omega) p1 h1
def RM (m t : Nat → Int64) (many : Int32) (K : List KP) : Prop := many = nI K.length ∧ K.length ≤ 128 ∧ ∀ i, i < K.length → (m i, t i) = K.getD i (0, 0)
theorem r_app {m t : Nat → Int64} {many : Int32} {K : List KP} {a : KP} (h : RM m t many K) (hl : K.length < 128) : RM (vp_updL m K.length a.1) (vp_updL t K.length a.2) (nI (K.length + 1)) (K ++ [a]) := by
  obtain ⟨h1, h2, h3⟩ := h
  refine ⟨by rw [List.length_append]; rfl, by rw [List.length_append]; show K.length + 1 ≤ 128; omega, fun i hi => ?_⟩
  rw [List.length_append] at hi
  by_cases c : i = K.length
  · subst c
    rw [List.getD_eq_getElem?_getD, List.getElem?_append_right (Nat.le_refl _), Nat.sub_self]
    show (vp_updL m K.length a.1 K.length, vp_updL t K.length a.2 K.length) = a
    unfold vp_updL
    rw [if_pos rfl, if_pos rfl]
  · have hi' : i < K.length := by
      have : i < K.length + 1 := hi
      omega
    rw [List.getD_eq_getElem?_getD, List.getElem?_append_left hi', ← List.getD_eq_getElem?_getD, ← h3 i hi']
    unfold vp_updL
    rw [if_neg c, if_neg c]
theorem r_add1 {s : Nat → Int32} {m t : Nat → Int64} {many : Int32} {K : List KP} {a : KP} (h : RM m t many K) (hc : a ∈ K ∨ K.length < 128) : ∀ (n i F : Nat) (b : Bool), i + n = K.length → n < F → (b = true ↔ ∀ j, j < i → K.getD j (0, 0) ≠ a) → ∃ m' t' many', k_fix (fun _ _ _ _ _ _ _ => none) (mX10_adds_18 s) F a.1 a.2 b (nI i) m t many = some (m', t', many') ∧ RM m' t' many' (l_ad K a) := by
  have h' := h
  obtain ⟨h1, h2, h3⟩ := h'
  intro n
  induction n with
  | zero =>
    intro i F b hi hF hb
    obtain rfl : i = K.length := by omega
    rw [k_fix1 hF, mX10_adds_18, h1, if_pos (nI_le (Nat.le_refl _) (by omega))]
    unfold l_ad
    cases b
    · have ha : a ∈ K := by
        by_cases q : a ∈ K
        · exact q
        · have := hb.mpr (fun j hj e => q (e ▸ l_getD_mem hj))
          cases this
      rw [if_pos (show k_b false = 0 from rfl), if_pos ha, ← h1]
      exact ⟨m, t, many, rfl, h⟩
    · have ha : a ∉ K := fun q => by
        obtain ⟨j, hj1, hj2⟩ := List.getElem_of_mem q
        refine hb.mp rfl j hj1 ?_
        rw [List.getD_eq_getElem?_getD, List.getElem?_eq_getElem hj1]
        exact hj2
      have hl : K.length < 128 := by
        rcases hc with q | q
        · exact absurd q ha
        · exact q
      rw [if_neg (show ¬ k_b true = 0 by decide), if_neg ha, k_g_in (by omega) (by omega), k_g_in (by omega) (by omega), nI_clamp (by omega), nI_1]
      exact ⟨_, _, _, rfl, r_app h hl⟩
  | succ n ih =>
    intro i F b hi hF hb
    have hil : i < K.length := by omega
    have e3 := h3 i hil
    have hm : m i = (K.getD i (0, 0)).1 := congrArg Prod.fst e3
    have ht : t i = (K.getD i (0, 0)).2 := congrArg Prod.snd e3
    rw [k_fix1 (by omega), mX10_adds_18, h1, if_neg (nI_ge hil (by omega)), nI_1, ← h1]
    have fin : ∀ b' : Bool, (b' = true ↔ ∀ j, j < i + 1 → K.getD j (0, 0) ≠ a) → ∃ m' t' many', k_fix (fun _ _ _ _ _ _ _ => none) (mX10_adds_18 s) (F - 1) a.1 a.2 b' (nI (i + 1)) m t many = some (m', t', many') ∧ RM m' t' many' (l_ad K a) := fun b' hb' => ih (i + 1) (F - 1) b' (by omega) (by omega) hb'
    have hno : K.getD i (0, 0) = a → (false = true ↔ ∀ j, j < i + 1 → K.getD j (0, 0) ≠ a) := fun he => ⟨(fun q => by cases q), fun q => absurd he (q i (by omega))⟩
    cases b
    · rw [if_pos (show k_b false = 0 from rfl)]
      exact fin false ⟨(fun q => by cases q), fun q => hb.mpr (fun j hj => q j (by omega))⟩
    · rw [if_neg (show ¬ k_b true = 0 by decide), k_g_in (by omega) (by omega), k_g_in (by omega) (by omega), nI_clamp (by omega)]
      have hyes : K.getD i (0, 0) ≠ a → (true = true ↔ ∀ j, j < i + 1 → K.getD j (0, 0) ≠ a) := fun he => ⟨fun _ j hj => by
        by_cases c : j = i
        · rw [c]; exact he
        · exact hb.mp rfl j (by omega), fun _ => rfl⟩
      by_cases c1 : m i = a.1
      · rw [if_pos (lg_eq.mpr c1)]
        by_cases c2 : t i = a.2
        · rw [if_pos (lg_eq.mpr c2)]
          exact fin false (hno (by rw [← e3, c1, c2]))
        · rw [if_neg (fun q => c2 (lg_eq.mp q))]
          exact fin true (hyes (fun e => c2 (by rw [ht, e])))
      · rw [if_neg (fun q => c1 (lg_eq.mp q))]
        exact fin true (hyes (fun e => c1 (by rw [hm, e])))
theorem l_room2 {K C : List KP} {a : KP} (hn : K.Nodup) (hs : ∀ x ∈ K, x ∈ C) (ha : a ∈ C) (hC : C.length ≤ 128) : a ∈ K ∨ K.length < 128 := by
  by_cases h : a ∈ K
  · exact Or.inl h
  · refine Or.inr ?_
    have := l_le (l1 := a :: K) (l2 := C) (List.nodup_cons.mpr ⟨h, hn⟩) (fun x hx => by
      rcases List.mem_cons.mp hx with rfl | hx
      · exact ha
      · exact hs x hx)
    have h2 : (a :: K).length = K.length + 1 := rfl
    omega
/-- rows with their list, kept within a given list -/
def RK (m t : Nat → Int64) (many : Int32) (C K : List KP) : Prop := RM m t many K ∧ K.Nodup ∧ ∀ x ∈ K, x ∈ C
theorem r_adds {s : Nat → Int32} {p : Nat} {P : GP} {m t : Nat → Int64} {many : Int32} {C K : List KP} (hp : p < 2) (hP : g_ok P) (hB : RB s p P) (hC : C.length ≤ 128) (h : RK m t many C K) (ha : r_of p P ∈ C) : ∃ m' t' many', mX10_adds s m t many = some (m', t', many') ∧ RK m' t' many' C (l_ad K (r_of p P)) := by
  obtain ⟨h1, h2, h3⟩ := h
  obtain ⟨t1, t2⟩ := r_told2 hp hP hB
  obtain ⟨m', t', many', e, r⟩ := r_add1 (s := s) h1 (l_room2 h2 h3 ha hC) K.length 0 k_F true (by omega) (by have := h1.2.1; generalize hk : k_F = F; have : F = 4096 := hk.symm; omega) ⟨fun _ j hj => by omega, fun _ => rfl⟩
  refine ⟨m', t', many', ?_, r, l_ad_nodup h2, fun x hx => ?_⟩
  · unfold mX10_adds
    rw [k_bd_some t1, k_bd_some t2]
    rw [nI_0] at e
    exact e
  · rcases l_ad_mem.mp hx with q | q
    · exact h3 x q
    · rw [q]; exact ha
/-- the boards behind a step, in the reference's order -/
def r_ol (p : Nat) (P : GP) (d : Nat) : Nat → Nat → List KP
  | 0, _ => []
  | n + 1, q => (if g_ban P.1 P.2 d (tr p q) = 0 then [r_of p (g_st P d (tr p q))] else []) ++ r_ol p P d n (q + 1)
theorem tr_pos {p q : Nat} (hp : p < 2) (hq : q < 17) : 1 ≤ tr p q := by
  have : tr p q ≠ 0 := fun z => by
    have h1 := tr_tr p hp q (by omega)
    rw [z] at h1
    have h2 := (tr_17 p hp 0 (by omega)).mpr rfl
    omega
  omega
theorem r_ol_mem {p : Nat} {P : GP} {d : Nat} {y : KP} (hp : p < 2) : ∀ {n q : Nat}, q + n = 17 → (y ∈ r_ol p P d n q ↔ ∃ v, q ≤ v ∧ v < 17 ∧ g_A P d (tr p v) ∧ y = r_of p (g_st P d (tr p v))) := by
  intro n
  induction n with
  | zero =>
    intro q hq
    constructor
    · intro h; cases h
    · rintro ⟨v, h1, h2, -⟩; omega
  | succ n ih =>
    intro q hq
    show y ∈ (if g_ban P.1 P.2 d (tr p q) = 0 then [r_of p (g_st P d (tr p q))] else []) ++ r_ol p P d n (q + 1) ↔ _
    rw [List.mem_append, ih (by omega)]
    constructor
    · rintro (h | ⟨v, h1, h2, h3, h4⟩)
      · by_cases c : g_ban P.1 P.2 d (tr p q) = 0
        · rw [if_pos c, List.mem_singleton] at h
          have := tr_lt p hp q (by omega)
          exact ⟨q, Nat.le_refl _, by omega, ⟨tr_pos hp (by omega), by omega, c⟩, h⟩
        · rw [if_neg c] at h; cases h
      · exact ⟨v, by omega, h2, h3, h4⟩
    · rintro ⟨v, h1, h2, h3, h4⟩
      by_cases c : v = q
      · subst c
        rw [if_pos h3.2.2, List.mem_singleton]
        exact Or.inl h4
      · exact Or.inr ⟨v, by omega, h2, h3, h4⟩
theorem r_ol_all {p : Nat} {P : GP} {d : Nat} {y : KP} (hp : p < 2) : y ∈ r_ol p P d 17 0 ↔ ∃ w, g_A P d w ∧ y = r_of p (g_st P d w) := by
  rw [r_ol_mem hp (by omega)]
  constructor
  · rintro ⟨v, -, -, h3, h4⟩
    exact ⟨tr p v, h3, h4⟩
  · rintro ⟨w, h3, h4⟩
    have h1 := h3.1
    have h2 := h3.2.1
    have h5 : tr p w < 18 := tr_lt p hp w (by omega)
    have h6 : tr p w ≠ 17 := fun z => by have := (tr_17 p hp w (by omega)).mp z; omega
    refine ⟨tr p w, by omega, by omega, ?_, ?_⟩
    · rw [tr_tr p hp w (by omega)]; exact h3
    · rw [tr_tr p hp w (by omega)]; exact h4
