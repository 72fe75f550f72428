/-! plays in numbers: lists without repetition, ends, like dice by non-increasing ways -/
theorem l_le {α : Type} [DecidableEq α] : ∀ {l1 l2 : List α}, l1.Nodup → (∀ x ∈ l1, x ∈ l2) → l1.length ≤ l2.length := by
  intro l1
  induction l1 with
  | nil => intro l2 _ _; exact Nat.zero_le _
  | cons a t ih =>
    intro l2 hn hs
    have ha : a ∈ l2 := hs a (List.mem_cons_self ..)
    rw [List.nodup_cons] at hn
    have h1 : t.length ≤ (l2.erase a).length := ih hn.2 (fun x hx => by
      have hne : x ≠ a := fun e => hn.1 (e ▸ hx)
      exact (List.mem_erase_of_ne hne).mpr (hs x (List.mem_cons_of_mem _ hx)))
    rw [List.length_erase_of_mem ha] at h1
    have : 0 < l2.length := List.length_pos_of_mem ha
    show t.length + 1 ≤ l2.length
    omega
theorem l_eq {α : Type} [DecidableEq α] {l1 l2 : List α} (h1 : l1.Nodup) (h2 : l2.Nodup) (h : ∀ x, x ∈ l1 ↔ x ∈ l2) : l1.length = l2.length :=
  Nat.le_antisymm (l_le h1 (fun x hx => (h x).mp hx)) (l_le h2 (fun x hx => (h x).mpr hx))
/-- one more, if it is new -/
def l_ad {α : Type} [DecidableEq α] (K : List α) (x : α) : List α := if x ∈ K then K else K ++ [x]
theorem l_ad_mem {α : Type} [DecidableEq α] {K : List α} {x y : α} : y ∈ l_ad K x ↔ y ∈ K ∨ y = x := by
  unfold l_ad
  by_cases h : x ∈ K
  · rw [if_pos h]
    constructor
    · intro q; exact Or.inl q
    · rintro (q | rfl)
      · exact q
      · exact h
  · rw [if_neg h, List.mem_append, List.mem_singleton]
theorem l_ad_nodup {α : Type} [DecidableEq α] {K : List α} {x : α} (h : K.Nodup) : (l_ad K x).Nodup := by
  unfold l_ad
  by_cases hx : x ∈ K
  · rw [if_pos hx]; exact h
  · rw [if_neg hx, List.nodup_append]
    refine ⟨h, List.nodup_cons.mpr ⟨by simp, List.nodup_nil⟩, fun a ha b hb e => ?_⟩
    rw [List.mem_singleton] at hb
    rw [e, hb] at ha
    exact hx ha
def l_ads {α : Type} [DecidableEq α] (K : List α) : List α → List α
  | [] => K
  | x :: t => l_ads (l_ad K x) t
theorem l_ads_mem {α : Type} [DecidableEq α] : ∀ {l : List α} {K : List α} {y : α}, y ∈ l_ads K l ↔ y ∈ K ∨ y ∈ l := by
  intro l
  induction l with
  | nil => intro K y; show y ∈ K ↔ _; simp
  | cons x t ih =>
    intro K y
    show y ∈ l_ads (l_ad K x) t ↔ _
    rw [ih, l_ad_mem, List.mem_cons]
    constructor
    · rintro ((h | h) | h)
      · exact Or.inl h
      · exact Or.inr (Or.inl h)
      · exact Or.inr (Or.inr h)
    · rintro (h | h | h)
      · exact Or.inl (Or.inl h)
      · exact Or.inl (Or.inr h)
      · exact Or.inr h
theorem l_ads_nodup {α : Type} [DecidableEq α] : ∀ {l : List α} {K : List α}, K.Nodup → (l_ads K l).Nodup := by
  intro l
  induction l with
  | nil => intro K h; exact h
  | cons x t ih => intro K h; exact ih (l_ad_nodup h)
theorem l_ads_app {α : Type} [DecidableEq α] : ∀ {l m K : List α}, l_ads K (l ++ m) = l_ads (l_ads K l) m := by
  intro l
  induction l with
  | nil => intro m K; rfl
  | cons x t ih => intro m K; exact ih
/-! boards as packed words: two boards agree where their words do -/
abbrev KP := Int64 × Int64
def k_of (P : GP) : KP := (b_L P.1, b_L P.2)
theorem b_pk_inj {f g : Nat → Nat} : ∀ {n : Nat}, (∀ i, i < n → f i < 8) → (∀ i, i < n → g i < 8) → b_pk f n = b_pk g n → ∀ i, i < n → f i = g i := by
  intro n hf hg h i hi
  rw [← b_pk_dig hf hi, ← b_pk_dig hg hi, h]
theorem b_L_inj {f g : Nat → Nat} (hf : b_ok f) (hg : b_ok g) (h : b_L f = b_L g) : ∀ i, i < 18 → f i = g i := by
  have l1 := b_pk_lt54 hf
  have l2 := b_pk_lt54 hg
  have h' : b_pk f 18 = b_pk g 18 := (pk_lEQ (by omega) (by omega)).mp h
  exact b_pk_inj (fun i hi => by have := b_ok_le (f := f) hf hi; omega) (fun i hi => by have := b_ok_le (f := g) hg hi; omega) h'
theorem k_inj {P Q : GP} (hP : g_ok P) (hQ : g_ok Q) (h : k_of P = k_of Q) : P = Q := by
  obtain ⟨f, g⟩ := P
  obtain ⟨f', g'⟩ := Q
  obtain ⟨p1, p2, p3⟩ := hP
  obtain ⟨q1, q2, q3⟩ := hQ
  have h1 : b_L f = b_L f' := congrArg Prod.fst h
  have h2 : b_L g = b_L g' := congrArg Prod.snd h
  have e1 := b_L_inj p1 q1 h1
  have e2 := b_L_inj p2 q2 h2
  have a1 : f = f' := funext fun i => by
    by_cases hi : i < 18
    · exact e1 i hi
    · have x1 : f i = 0 := (p3 i (by omega)).1
      have x2 : f' i = 0 := (q3 i (by omega)).1
      rw [x1, x2]
  have a2 : g = g' := funext fun i => by
    by_cases hi : i < 18
    · exact e2 i hi
    · have x1 : g i = 0 := (p3 i (by omega)).2
      have x2 : g' i = 0 := (q3 i (by omega)).2
      rw [x1, x2]
  rw [a1, a2]
/-! like dice -/
def g_ws (P : GP) (d b : Nat) : List Nat := (List.range (b + 1)).filter (fun w => decide (g_A P d w))
theorem g_ws_mem {P : GP} {d b w : Nat} : w ∈ g_ws P d b ↔ w ≤ b ∧ g_A P d w := by
  unfold g_ws
  rw [List.mem_filter, List.mem_range, decide_eq_true_iff]
  constructor
  · rintro ⟨h1, h2⟩; exact ⟨by omega, h2⟩
  · rintro ⟨h1, h2⟩; exact ⟨by omega, h2⟩
/-- the boards behind exactly `j` steps of a die -/
def g_lv (d : Nat) : Nat → GP → List GP
  | 0, P => [P]
  | j + 1, P => (g_ws P d 17).flatMap (fun w => g_lv d j (g_st P d w))
/-- the same, in steps of ways that never rise -/
def g_cn (d : Nat) : Nat → Nat → GP → List GP
  | 0, _, P => [P]
  | j + 1, b, P => (g_ws P d b).flatMap (fun w => g_cn d j w (g_st P d w))
theorem g_cn_S {d j b : Nat} {P Q : GP} : Q ∈ g_cn d (j + 1) b P ↔ ∃ w, w ≤ b ∧ g_A P d w ∧ Q ∈ g_cn d j w (g_st P d w) := by
  show Q ∈ (g_ws P d b).flatMap (fun w => g_cn d j w (g_st P d w)) ↔ _
  rw [List.mem_flatMap]
  constructor
  · rintro ⟨w, h1, h2⟩
    have := g_ws_mem.mp h1
    exact ⟨w, this.1, this.2, h2⟩
  · rintro ⟨w, h1, h2, h3⟩
    exact ⟨w, g_ws_mem.mpr ⟨h1, h2⟩, h3⟩
theorem g_lv_S {d j : Nat} {P Q : GP} : Q ∈ g_lv d (j + 1) P ↔ ∃ w, g_A P d w ∧ Q ∈ g_lv d j (g_st P d w) := by
  show Q ∈ (g_ws P d 17).flatMap (fun w => g_lv d j (g_st P d w)) ↔ _
  rw [List.mem_flatMap]
  constructor
  · rintro ⟨w, h1, h2⟩
    exact ⟨w, (g_ws_mem.mp h1).2, h2⟩
  · rintro ⟨w, h2, h3⟩
    exact ⟨w, g_ws_mem.mpr ⟨h2.2.1, h2⟩, h3⟩
theorem g_cn_ins {d : Nat} (hd : 1 ≤ d) : ∀ (j b v : Nat) (P Q : GP), g_A P d v → Q ∈ g_cn d j b (g_st P d v) → Q ∈ g_cn d (j + 1) (Nat.max b v) P := by
  intro j
  induction j with
  | zero =>
    intro b v P Q hv hQ
    exact g_cn_S.mpr ⟨v, Nat.le_max_right .., hv, hQ⟩
  | succ j ih =>
    intro b v P Q hv hQ
    obtain ⟨w, h1, h2, h3⟩ := g_cn_S.mp hQ
    by_cases c : w ≤ v
    · exact g_cn_S.mpr ⟨v, Nat.le_max_right .., hv, g_cn_S.mpr ⟨w, c, h2, h3⟩⟩
    · have hw : g_A P d w := g_back hd (by omega) hv h2
      obtain ⟨k1, k2⟩ := g_comm hd hw hv (by omega)
      rw [← k2] at h3
      have h4 := ih w v (g_st P d w) Q k1 h3
      rw [show Nat.max w v = w from Nat.max_eq_left (by omega)] at h4
      exact g_cn_S.mpr ⟨w, Nat.le_trans h1 (Nat.le_max_left ..), hw, h4⟩
theorem g_lv_cn {d : Nat} (hd : 1 ≤ d) : ∀ (j : Nat) (P Q : GP), Q ∈ g_lv d j P → Q ∈ g_cn d j 17 P := by
  intro j
  induction j with
  | zero => intro P Q h; exact h
  | succ j ih =>
    intro P Q h
    obtain ⟨w, h1, h2⟩ := g_lv_S.mp h
    have h3 := g_cn_ins hd j 17 w P Q h1 (ih _ _ h2)
    rw [show Nat.max 17 w = 17 from Nat.max_eq_left h1.2.1] at h3
    exact h3
