/-! lists; like dice -/
theorem l_le {α : Type} [DecidableEq α] : ∀ {l1 l2 : List α}, l1.Nodup → (∀ x ∈ l1, x ∈ l2) → l1.length ≤ l2.length := by
  intro l1
  induction l1 with
  | nil => intro l2 _ _; exact Nat.zero_le _
  | cons a t ih =>
    intro l2 hn hs
    have ha : a ∈ l2 := hs a (List.mem_cons_self ..)
    rw [List.nodup_cons] at hn
    have h1 : t.length ≤ (l2.erase a).length := ih hn.2 (fun x hx => by
      have hne : x ≠ a := fun e => hn.1 (e ▸ hx)
      exact (List.mem_erase_of_ne hne).mpr (hs x (List.mem_cons_of_mem _ hx)))
    rw [List.length_erase_of_mem ha] at h1
    have : 0 < l2.length := List.length_pos_of_mem ha
    show t.length + 1 ≤ l2.length
    omega
theorem l_eq {α : Type} [DecidableEq α] {l1 l2 : List α} (h1 : l1.Nodup) (h2 : l2.Nodup) (h : ∀ x, x ∈ l1 ↔ x ∈ l2) : l1.length = l2.length :=
  Nat.le_antisymm (l_le h1 (fun x hx => (h x).mp hx)) (l_le h2 (fun x hx => (h x).mpr hx))
def l_ad {α : Type} [DecidableEq α] (K : List α) (x : α) : List α := if x ∈ K then K else K ++ [x]
theorem l_ad_mem {α : Type} [DecidableEq α] {K : List α} {x y : α} : y ∈ l_ad K x ↔ y ∈ K ∨ y = x := by
  unfold l_ad
  by_cases h : x ∈ K
  · rw [if_pos h]
    constructor
    · intro q; exact Or.inl q
    · rintro (q | rfl)
      · exact q
      · exact h
  · rw [if_neg h, List.mem_append, List.mem_singleton]
theorem l_ad_nodup {α : Type} [DecidableEq α] {K : List α} {x : α} (h : K.Nodup) : (l_ad K x).Nodup := by
  unfold l_ad
  by_cases hx : x ∈ K
  · rw [if_pos hx]; exact h
  · rw [if_neg hx, List.nodup_append]
    refine ⟨h, List.nodup_cons.mpr ⟨by simp, List.nodup_nil⟩, fun a ha b hb e => ?_⟩
    rw [List.mem_singleton] at hb
    rw [e, hb] at ha
    exact hx ha
def l_ads {α : Type} [DecidableEq α] (K : List α) : List α → List α
  | [] => K
  | x :: t => l_ads (l_ad K x) t
theorem l_ads_mem {α : Type} [DecidableEq α] : ∀ {l : List α} {K : List α} {y : α}, y ∈ l_ads K l ↔ y ∈ K ∨ y ∈ l := by
  intro l
  induction l with
  | nil => intro K y; show y ∈ K ↔ _; simp
  | cons x t ih =>
    intro K y
    show y ∈ l_ads (l_ad K x) t ↔ _
    rw [ih, l_ad_mem, List.mem_cons]
    constructor
    · rintro ((h | h) | h)
      · exact Or.inl h
      · exact Or.inr (Or.inl h)
      · exact Or.inr (Or.inr h)
    · rintro (h | h | h)
      · exact Or.inl (Or.inl h)
      · exact Or.inl (Or.inr h)
      · exact Or.inr h
theorem l_ads_nodup {α : Type} [DecidableEq α] : ∀ {l : List α} {K : List α}, K.Nodup → (l_ads K l).Nodup := by
  intro l
  induction l with
  | nil => intro K h; exact h
  | cons x t ih => intro K h; exact ih (l_ad_nodup h)
theorem l_ads_app {α : Type} [DecidableEq α] : ∀ {l m K : List α}, l_ads K (l ++ m) = l_ads (l_ads K l) m := by
  intro l
  induction l with
  | nil => intro m K; rfl
  | cons x t ih => intro m K; exact ih
abbrev KP := Int64 × Int64
def k_of (P : GP) : KP := (b_L P.1, b_L P.2)
theorem b_pk_inj {f g : Nat → Nat} : ∀ {n : Nat}, (∀ i, i < n → f i < 8) → (∀ i, i < n → g i < 8) → b_pk f n = b_pk g n → ∀ i, i < n → f i = g i := by
  intro n hf hg h i hi
  rw [← b_pk_dig hf hi, ← b_pk_dig hg hi, h]
theorem b_L_inj {f g : Nat → Nat} (hf : b_ok f) (hg : b_ok g) (h : b_L f = b_L g) : ∀ i, i < 18 → f i = g i := by
  have l1 := b_pk_lt54 hf
  have l2 := b_pk_lt54 hg
  have h' : b_pk f 18 = b_pk g 18 := (pk_lEQ (by omega) (by omega)).mp h
  exact b_pk_inj (fun i hi => by have := b_ok_le (f := f) hf hi; omega) (fun i hi => by have := b_ok_le (f := g) hg hi; omega) h'
theorem k_inj {P Q : GP} (hP : g_ok P) (hQ : g_ok Q) (h : k_of P = k_of Q) : P = Q := by
  obtain ⟨f, g⟩ := P
  obtain ⟨f', g'⟩ := Q
  obtain ⟨p1, p2, p3⟩ := hP
  obtain ⟨q1, q2, q3⟩ := hQ
  have h1 : b_L f = b_L f' := congrArg Prod.fst h
  have h2 : b_L g = b_L g' := congrArg Prod.snd h
  have e1 := b_L_inj p1 q1 h1
  have e2 := b_L_inj p2 q2 h2
  have a1 : f = f' := funext fun i => by
    by_cases hi : i < 18
    · exact e1 i hi
    · have x1 : f i = 0 := (p3 i (by omega)).1
      have x2 : f' i = 0 := (q3 i (by omega)).1
      rw [x1, x2]
  have a2 : g = g' := funext fun i => by
    by_cases hi : i < 18
    · exact e2 i hi
    · have x1 : g i = 0 := (p3 i (by omega)).2
      have x2 : g' i = 0 := (q3 i (by omega)).2
      rw [x1, x2]
  rw [a1, a2]
def g_ws (P : GP) (d b : Nat) : List Nat := (List.range (b + 1)).filter (fun w => decide (g_A P d w))
theorem g_ws_mem {P : GP} {d b w : Nat} : w ∈ g_ws P d b ↔ w ≤ b ∧ g_A P d w := by
  unfold g_ws
  rw [List.mem_filter, List.mem_range, decide_eq_true_iff]
  constructor
  · rintro ⟨h1, h2⟩; exact ⟨by omega, h2⟩
  · rintro ⟨h1, h2⟩; exact ⟨by omega, h2⟩
def g_lv (d : Nat) : Nat → GP → List GP
  | 0, P => [P]
  | j + 1, P => (g_ws P d 17).flatMap (fun w => g_lv d j (g_st P d w))
def g_cn (d : Nat) : Nat → Nat → GP → List GP
  | 0, _, P => [P]
  | j + 1, b, P => (g_ws P d b).flatMap (fun w => g_cn d j w (g_st P d w))
theorem g_cn_S {d j b : Nat} {P Q : GP} : Q ∈ g_cn d (j + 1) b P ↔ ∃ w, w ≤ b ∧ g_A P d w ∧ Q ∈ g_cn d j w (g_st P d w) := by
  show Q ∈ (g_ws P d b).flatMap (fun w => g_cn d j w (g_st P d w)) ↔ _
  rw [List.mem_flatMap]
  constructor
  · rintro ⟨w, h1, h2⟩
    have := g_ws_mem.mp h1
    exact ⟨w, this.1, this.2, h2⟩
  · rintro ⟨w, h1, h2, h3⟩
    exact ⟨w, g_ws_mem.mpr ⟨h1, h2⟩, h3⟩
theorem g_lv_S {d j : Nat} {P Q : GP} : Q ∈ g_lv d (j + 1) P ↔ ∃ w, g_A P d w ∧ Q ∈ g_lv d j (g_st P d w) := by
  show Q ∈ (g_ws P d 17).flatMap (fun w => g_lv d j (g_st P d w)) ↔ _
  rw [List.mem_flatMap]
  constructor
  · rintro ⟨w, h1, h2⟩
    exact ⟨w, (g_ws_mem.mp h1).2, h2⟩
  · rintro ⟨w, h2, h3⟩
    exact ⟨w, g_ws_mem.mpr ⟨h2.2.1, h2⟩, h3⟩
theorem g_cn_ins {d : Nat} (hd : 1 ≤ d) : ∀ (j b v : Nat) (P Q : GP), g_A P d v → Q ∈ g_cn d j b (g_st P d v) → Q ∈ g_cn d (j + 1) (Nat.max b v) P := by
  intro j
  induction j with
  | zero =>
    intro b v P Q hv hQ
    exact g_cn_S.mpr ⟨v, Nat.le_max_right .., hv, hQ⟩
  | succ j ih =>
    intro b v P Q hv hQ
    obtain ⟨w, h1, h2, h3⟩ := g_cn_S.mp hQ
    by_cases c : w ≤ v
    · exact g_cn_S.mpr ⟨v, Nat.le_max_right .., hv, g_cn_S.mpr ⟨w, c, h2, h3⟩⟩
    · have hw : g_A P d w := g_back hd (by omega) hv h2
      obtain ⟨k1, k2⟩ := g_comm hd hw hv (by omega)
      rw [← k2] at h3
      have h4 := ih w v (g_st P d w) Q k1 h3
      rw [show Nat.max w v = w from Nat.max_eq_left (by omega)] at h4
      exact g_cn_S.mpr ⟨w, Nat.le_trans h1 (Nat.le_max_left ..), hw, h4⟩
theorem g_lv_cn {d : Nat} (hd : 1 ≤ d) : ∀ (j : Nat) (P Q : GP), Q ∈ g_lv d j P → Q ∈ g_cn d j 17 P := by
  intro j
  induction j with
  | zero => intro P Q h; exact h
  | succ j ih =>
    intro P Q h
    obtain ⟨w, h1, h2⟩ := g_lv_S.mp h
    have h3 := g_cn_ins hd j 17 w P Q h1 (ih _ _ h2)
    rw [show Nat.max 17 w = 17 from Nat.max_eq_left h1.2.1] at h3
    exact h3
def s_N (F : Nat → Nat) : Nat → Nat
  | 0 => 0
  | m + 1 => s_N F m + F (m + 1)
def c_N : Nat → Nat → Nat
  | 0, _ => 1
  | j + 1, m => s_N (c_N j) m
theorem s_N_mono {F : Nat → Nat} : ∀ {m n : Nat}, m ≤ n → s_N F m ≤ s_N F n := by
  intro m n h
  induction n with
  | zero => rw [show m = 0 by omega]; exact Nat.le_refl _
  | succ n ih =>
    by_cases c : m = n + 1
    · rw [c]; exact Nat.le_refl _
    · exact Nat.le_trans (ih (by omega)) (Nat.le_add_right _ _)
theorem c_N_mono : ∀ {j m n : Nat}, m ≤ n → c_N j m ≤ c_N j n := by
  intro j
  cases j with
  | zero => intro m n _; exact Nat.le_refl _
  | succ j => intro m n h; exact s_N_mono (F := c_N j) h
theorem s_N_up {F : Nat → Nat} {m n : Nat} (h : m < n) : s_N F m + F n ≤ s_N F n := by
  obtain ⟨k, rfl⟩ : ∃ k, n = k + 1 := ⟨n - 1, by omega⟩
  show s_N F m + F (k + 1) ≤ s_N F k + F (k + 1)
  have := s_N_mono (F := F) (show m ≤ k by omega)
  omega
theorem s_N_mv {f : Nat → Nat} {a c : Nat} (hf : 0 < f a) : ∀ b, s_N (b_mv f a c) b + (if 1 ≤ a ∧ a ≤ b then 1 else 0) = s_N f b + (if 1 ≤ c ∧ c ≤ b then 1 else 0) := by
  intro b
  induction b with
  | zero => rw [if_neg (by omega), if_neg (by omega)]; rfl
  | succ b ih =>
    show s_N (b_mv f a c) b + b_mv f a c (b + 1) + _ = s_N f b + f (b + 1) + _
    rw [b_mv_at]
    by_cases ha : a = b + 1
    · subst ha
      split at ih <;> split at ih <;> (repeat' split) <;> omega
    · split at ih <;> split at ih <;> (repeat' split) <;> omega
theorem s_N_sm {f : Nat → Nat} : ∀ n, b_sm f (n + 1) = f 0 + s_N f n := by
  intro n
  induction n with
  | zero => show 0 + f 0 = f 0 + 0; omega
  | succ n ih =>
    show b_sm f (n + 1) + f (n + 1) = f 0 + (s_N f n + f (n + 1))
    rw [ih]; omega
theorem g_ws_S {P : GP} {d b : Nat} : g_ws P d (b + 1) = g_ws P d b ++ (if g_A P d (b + 1) then [b + 1] else []) := by
  unfold g_ws
  rw [List.range_succ, List.filter_append]
  congr 1
  by_cases h : g_A P d (b + 1)
  · rw [if_pos h, List.filter_cons_of_pos (by rw [decide_eq_true h]), List.filter_nil]
  · rw [if_neg h, List.filter_cons_of_neg (by rw [decide_eq_false h]; decide), List.filter_nil]
theorem g_ws_0 {P : GP} {d : Nat} : g_ws P d 0 = [] := by
  apply List.eq_nil_iff_forall_not_mem.mpr
  intro w h
  have := (g_ws_mem.mp h)
  have h2 := this.2.1
  omega
theorem g_cn_len {d : Nat} (hd : 1 ≤ d) : ∀ (j b : Nat) (P : GP), (g_cn d j b P).length ≤ c_N j (s_N P.1 b) := by
  intro j
  induction j with
  | zero => intro b P; exact Nat.le_refl _
  | succ j ih =>
    intro b P
    show ((g_ws P d b).flatMap (fun w => g_cn d j w (g_st P d w))).length ≤ s_N (c_N j) (s_N P.1 b)
    induction b with
    | zero => rw [g_ws_0]; exact Nat.zero_le _
    | succ b ihb =>
      rw [g_ws_S, List.flatMap_append, List.length_append]
      by_cases h : g_A P d (b + 1)
      · rw [if_pos h]
        obtain ⟨f, g⟩ := P
        have hf : 0 < f (b + 1) := (g_ban0.mp h.2.2).1
        have h1 := ih (b + 1) (g_st (f, g) d (b + 1))
        have h2 := s_N_mv (f := f) (a := b + 1) (c := b + 1 - d) hf (b + 1)
        rw [if_pos (by omega)] at h2
        have h3 : s_N (b_mv f (b + 1) (b + 1 - d)) (b + 1) ≤ s_N f (b + 1) := by
          split at h2 <;> omega
        have h4 : (g_cn d j (b + 1) (g_st (f, g) d (b + 1))).length ≤ c_N j (s_N f (b + 1)) := Nat.le_trans h1 (c_N_mono h3)
        have h5 : s_N f b < s_N f (b + 1) := by show s_N f b < s_N f b + f (b + 1); omega
        have h6 := s_N_up (F := c_N j) h5
        have h7 : ([b + 1].flatMap (fun w => g_cn d j w (g_st (f, g) d w))).length = (g_cn d j (b + 1) (g_st (f, g) d (b + 1))).length := by
          rw [List.flatMap_cons, List.flatMap_nil, List.append_nil]
        rw [h7]
        exact Nat.le_trans (Nat.add_le_add ihb h4) h6
      · rw [if_neg h, List.flatMap_nil]
        exact Nat.le_trans ihb (s_N_mono (s_N_mono (by omega)))
theorem c_N_6 : ∀ j, j < 5 → c_N j 6 ≤ 126 := by decide +kernel
theorem g_cn_126 {d j : Nat} {P : GP} (hd : 1 ≤ d) (hj : j < 5) (hP : g_ok P) : (g_cn d j 17 P).length ≤ c_N j 6 := by
  have h1 := g_cn_len hd j 17 P
  have h2 := s_N_sm (f := P.1) 17
  have h3 : b_sm P.1 18 = 6 := hP.1
  have h4 : s_N P.1 17 ≤ 6 := by have : b_sm P.1 (17 + 1) = 6 := h3; omega
  exact Nat.le_trans h1 (c_N_mono h4)
abbrev KS := Int64 × Int64 × Int32
def RR (m t : Nat → Int64) (d : Nat → Int32) (size : Int32) (K : List KS) : Prop := size = nI K.length ∧ K.length ≤ 128 ∧ ∀ i, i < K.length → (m i, t i, d i) = K.getD i (0, 0, 0)
theorem lg_eq {x y : Int64} : lg_cmp x y = 0 ↔ x = y := by
  unfold lg_cmp
  by_cases h : x > y
  · rw [if_pos h]
    constructor
    · intro q; exact absurd q (by decide)
    · intro q; rw [q] at h; exact absurd h (Int64.lt_irrefl)
  · rw [if_neg h]
    by_cases h2 : x = y
    · rw [if_pos h2]; exact ⟨fun _ => h2, fun _ => rfl⟩
    · rw [if_neg h2]
      constructor
      · intro q; exact absurd q (by decide)
      · intro q; exact absurd q h2
theorem l_getD_mem {α : Type} {K : List α} {i : Nat} {z : α} (h : i < K.length) : K.getD i z ∈ K := by
  rw [List.getD_eq_getElem?_getD, List.getElem?_eq_getElem h]
  exact List.getElem_mem h
theorem c_add63 {m t : Nat → Int64} {d : Nat → Int32} {size : Int32} {K : List KS} {a : KS} (h : RR m t d size K) (ha : a ∉ K) (hl : K.length < 128) : ∃ m' t' d' n', mX5_add_63 a.1 a.2.1 a.2.2 m t d size = some (m', t', d', n') ∧ RR m' t' d' n' (l_ad K a) := by
  obtain ⟨h1, h2, h3⟩ := h
  refine ⟨vp_updL m K.length a.1, vp_updL t K.length a.2.1, upd d K.length a.2.2, nI (K.length + 1), ?_, ?_⟩
  · unfold mX5_add_63
    rw [h1, if_neg (nI_pos (by omega)), if_neg (show ¬ (128 : Int32) ≤ nI K.length from nI_ge (a := K.length) (b := 128) hl (by omega)), k_g_in hl (by omega), k_g_in hl (by omega), k_g_in hl (by omega), nI_clamp (by omega), nI_1]
  · unfold l_ad
    rw [if_neg ha]
    refine ⟨by rw [List.length_append]; rfl, by rw [List.length_append]; show K.length + 1 ≤ 128; omega, fun i hi => ?_⟩
    rw [List.length_append] at hi
    by_cases c : i = K.length
    · subst c
      rw [List.getD_eq_getElem?_getD, List.getElem?_append_right (Nat.le_refl _), Nat.sub_self]
      show (vp_updL m K.length a.1 K.length, vp_updL t K.length a.2.1 K.length, upd d K.length a.2.2 K.length) = a
      unfold vp_updL upd
      rw [if_pos rfl, if_pos rfl, if_pos rfl]
    · have hi' : i < K.length := by
        have : i < K.length + 1 := hi
        omega
      rw [List.getD_eq_getElem?_getD, List.getElem?_append_left hi', ← List.getD_eq_getElem?_getD, ← h3 i hi']
      unfold vp_updL upd
      rw [if_neg c, if_neg c, if_neg c]
theorem c_add1 {m t : Nat → Int64} {d : Nat → Int32} {size : Int32} {K : List KS} {a : KS} (h : RR m t d size K) (hc : a ∈ K ∨ K.length < 128) : ∀ (n i F : Nat), i + n = K.length → n < F → (∀ j, j < i → K.getD j (0, 0, 0) ≠ a) → ∃ m' t' d' n', k_fix (fun _ _ _ _ _ => none) (mX5_add_3 a.1 a.2.1 a.2.2) F (nI i) m t d size = some (m', t', d', n') ∧ RR m' t' d' n' (l_ad K a) := by
  have h' := h
  obtain ⟨h1, h2, h3⟩ := h'
  intro n
  induction n with
  | zero =>
    intro i F hi hF hj
    obtain rfl : i = K.length := by omega
    have ha : a ∉ K := fun q => by
      obtain ⟨j, hj1, hj2⟩ := List.getElem_of_mem q
      refine hj j hj1 ?_
      rw [List.getD_eq_getElem?_getD, List.getElem?_eq_getElem hj1]
      exact hj2
    have hl : K.length < 128 := by
      rcases hc with q | q
      · exact absurd q ha
      · exact q
    rw [k_fix1 hF, mX5_add_3, h1, if_pos (nI_le (Nat.le_refl _) (by omega)), ← h1]
    exact c_add63 h ha hl
  | succ n ih =>
    intro i F hi hF hj
    have hil : i < K.length := by omega
    have e3 := h3 i hil
    have hm : m i = (K.getD i (0, 0, 0)).1 := congrArg Prod.fst e3
    have ht : t i = (K.getD i (0, 0, 0)).2.1 := congrArg (fun z => z.2.1) e3
    have hd : d i = (K.getD i (0, 0, 0)).2.2 := congrArg (fun z => z.2.2) e3
    rw [k_fix1 (by omega), mX5_add_3, h1, if_neg (nI_ge hil (by omega)), if_neg (show ¬ (128 : Int32) ≤ nI i from nI_ge (a := i) (b := 128) (by omega) (by omega)), k_g_in (by omega) (by omega), k_g_in (by omega) (by omega), k_g_in (by omega) (by omega), nI_clamp (by omega), nI_1, ← h1]
    by_cases he : K.getD i (0, 0, 0) = a
    · have hmem : a ∈ K := he ▸ l_getD_mem hil
      rw [hm, ht, hd, he, if_pos (lg_eq.mpr rfl), if_pos (lg_eq.mpr rfl), if_pos rfl]
      refine ⟨m, t, d, size, rfl, ?_⟩
      unfold l_ad
      rw [if_pos hmem]; exact h
    · have hn := ih (i + 1) (F - 1) (by omega) (by omega) (fun j hj1 => by
        by_cases c : j = i
        · rw [c]; exact he
        · exact hj j (by omega))
      by_cases c1 : m i = a.1
      · rw [if_pos (lg_eq.mpr c1)]
        by_cases c2 : t i = a.2.1
        · rw [if_pos (lg_eq.mpr c2)]
          have c3 : ¬ d i = a.2.2 := fun q => he (by rw [← e3, c1, c2, q])
          rw [if_neg c3]; exact hn
        · rw [if_neg (fun q => c2 (lg_eq.mp q))]; exact hn
      · rw [if_neg (fun q => c1 (lg_eq.mp q))]; exact hn
theorem c_add {m t : Nat → Int64} {d : Nat → Int32} {size : Int32} {K : List KS} {a : KS} (h : RR m t d size K) (hc : a ∈ K ∨ K.length < 128) : ∃ m' t' d' n', mX5_add m t d size a.1 a.2.1 a.2.2 = some (m', t', d', n') ∧ RR m' t' d' n' (l_ad K a) := by
  unfold mX5_add
  have h2 := h.2.1
  have := c_add1 h hc K.length 0 k_F (by omega) (by generalize hk : k_F = F; have : F = 4096 := hk.symm; omega) (fun j hj => by omega)
  rw [nI_0] at this
  exact this
theorem l_room {K C : List KS} {a : KS} (hn : K.Nodup) (hs : ∀ x ∈ K, x ∈ C) (ha : a ∈ C) (hC : C.length ≤ 128) : a ∈ K ∨ K.length < 128 := by
  by_cases h : a ∈ K
  · exact Or.inl h
  · refine Or.inr ?_
    have := l_le (l1 := a :: K) (l2 := C) (List.nodup_cons.mpr ⟨h, hn⟩) (fun x hx => by
      rcases List.mem_cons.mp hx with rfl | hx
      · exact ha
      · exact hs x hx)
    have h2 : (a :: K).length = K.length + 1 := rfl
    omega
