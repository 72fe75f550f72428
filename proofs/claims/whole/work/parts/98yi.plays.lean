/-! the ends of two unlike dice -/
theorem g_R_un {a b : Nat} {P : GP} (h : a ≠ b) : g_R [a, b] P = if (g_two P a b || g_two P b a) = true then 2 else if (g_any P a || g_any P b) = true then 1 else 0 := g_rc_two (n := 2) h
theorem g_un_ab {a b : Nat} (h : a ≠ b) : g_un [a, b] = true := decide_eq_true h
/-- a step with `d` where `o` is the other die -/
def u_Al (P : GP) (d o w : Nat) : Prop := g_A P d w ∧ ((g_two P d o || g_two P o d) = true → g_any (g_st P d w) o = true) ∧ ((g_two P d o || g_two P o d) = false → ¬ (d < o ∧ g_any P o = true))
theorem u_re {a b w : Nat} {P : GP} (h : a ≠ b) (hw1 : 1 ≤ w) (hw : w ≤ 17) : (g_re [a, b] P a w = 0 ↔ u_Al P a b w) ∧ (g_re [a, b] P b w = 0 ↔ u_Al P b a w) := by
  have hoa : g_ot [a, b] a = b := by show a + b - a = b; omega
  have hob : g_ot [a, b] b = a := by show a + b - b = a; omega
  have hR := g_R_un (P := P) h
  unfold g_re u_Al
  rw [if_pos (List.mem_cons_self ..), if_pos (show b ∈ [a, b] from List.mem_cons_of_mem _ (List.mem_cons_self ..)), g_un_ab h, hoa, hob, hR]
  rw [Bool.or_comm (g_two P b a) (g_two P a b)]
  have key : ∀ (d o : Nat), ((if g_ban P.1 P.2 d w = 0 then (if true = true then (if (if (g_two P a b || g_two P b a) = true then 2 else if (g_any P a || g_any P b) = true then 1 else 0) = 2 then (if g_any (g_st P d w) o = true then 0 else 6) else if d < o ∧ g_any P o = true then 6 else 0) else 0) else g_ban P.1 P.2 d w) = 0 ↔ g_A P d w ∧ ((g_two P a b || g_two P b a) = true → g_any (g_st P d w) o = true) ∧ ((g_two P a b || g_two P b a) = false → ¬ (d < o ∧ g_any P o = true))) := by
    intro d o
    by_cases hb : g_ban P.1 P.2 d w = 0
    · rw [if_pos hb, if_pos rfl]
      cases ht : (g_two P a b || g_two P b a)
      · rw [if_neg (show ¬ false = true by decide)]
        have hne : ¬ ((if (g_any P a || g_any P b) = true then 1 else 0) = 2) := by split <;> omega
        rw [if_neg hne]
        by_cases hc : d < o ∧ g_any P o = true
        · rw [if_pos hc]
          constructor
          · intro q; omega
          · intro q; exact absurd hc (q.2.2 rfl)
        · rw [if_neg hc]
          exact ⟨fun _ => ⟨⟨hw1, hw, hb⟩, (fun q => by cases q), fun _ => hc⟩, fun _ => rfl⟩
      · rw [if_pos rfl, if_pos rfl]
        cases hs : g_any (g_st P d w) o
        · rw [if_neg (show ¬ false = true by decide)]
          constructor
          · intro q; omega
          · intro q; have := q.2.1 rfl; cases this
        · rw [if_pos rfl]
          exact ⟨fun _ => ⟨⟨hw1, hw, hb⟩, fun _ => rfl, (fun q => by cases q)⟩, fun _ => rfl⟩
    · rw [if_neg hb]
      constructor
      · intro q; exact absurd q hb
      · intro q; exact absurd q.1.2.2 hb
  exact ⟨key a b, key b a⟩
theorem u_wl {a b : Nat} {P : GP} {y : KS} (h : a ≠ b) : (y ∈ c_wl [a, b] P a 17 1 ↔ ∃ w, u_Al P a b w ∧ y = s_of (g_st P a w, [b])) ∧ (y ∈ c_wl [a, b] P b 17 1 ↔ ∃ w, u_Al P b a w ∧ y = s_of (g_st P b w, [a])) := by
  rw [c_wl_mem, c_wl_mem, g_er1, g_er2 h]
  refine ⟨⟨?_, ?_⟩, ⟨?_, ?_⟩⟩
  · rintro ⟨v, h1, h2, h3, h4⟩
    exact ⟨v, (u_re h h1 (by omega)).1.mp h3, h4⟩
  · rintro ⟨v, h3, h4⟩
    exact ⟨v, h3.1.1, by have := h3.1.2.1; omega, (u_re h h3.1.1 h3.1.2.1).1.mpr h3, h4⟩
  · rintro ⟨v, h1, h2, h3, h4⟩
    exact ⟨v, (u_re h h1 (by omega)).2.mp h3, h4⟩
  · rintro ⟨v, h3, h4⟩
    exact ⟨v, h3.1.1, by have := h3.1.2.1; omega, (u_re h h3.1.1 h3.1.2.1).2.mpr h3, h4⟩
def u_one (P : GP) (d o : Nat) (x : GP × List Nat) : Prop := ∃ w, u_Al P d o w ∧ x = (g_st P d w, [o])
def u_two (P : GP) (d o : Nat) (x : GP × List Nat) : Prop := ∃ w, u_Al P d o w ∧ ∃ v, g_A (g_st P d w) o v ∧ x = (g_st (g_st P d w) o v, [])
def u_S0 (a6 : Bool) (P : GP) (a b : Nat) (x : GP × List Nat) : Prop := x = (P, [a, b]) ∨ (a6 = true ∧ x = (P, [b, a]))
theorem u_sc {a6 : Bool} {a b : Nat} {P : GP} {y : KS} (h : a ≠ b) : y ∈ c_sc a6 [a, b] P ↔ (∃ w, u_Al P a b w ∧ y = s_of (g_st P a w, [b])) ∨ ((∃ w, u_Al P b a w ∧ y = s_of (g_st P b w, [a])) ∧ (a6 = true → ∀ w, ¬ u_Al P a b w)) := by
  rw [c_sc_2 (d_ks_two h), (u_wl h).1, (u_wl h).2]
  have e : (¬ (a6 = true ∧ c_wl [a, b] P a 17 1 ≠ [])) ↔ (a6 = true → ∀ w, ¬ u_Al P a b w) := by
    constructor
    · intro q h6 w hw
      refine q ⟨h6, fun hn => ?_⟩
      have := (u_wl (y := s_of (g_st P a w, [b])) h).1.mpr ⟨w, hw, rfl⟩
      rw [hn] at this; cases this
    · rintro q ⟨h6, hn⟩
      apply hn
      apply List.eq_nil_iff_forall_not_mem.mpr
      intro z hz
      obtain ⟨w, hw, -⟩ := (u_wl h).1.mp hz
      exact q h6 w hw
  rw [e]
theorem u_sc1 {a6 : Bool} {o : Nat} {Q : GP} {y : KS} : y ∈ c_sc a6 [o] Q ↔ ∃ v, g_A Q o v ∧ y = s_of (g_st Q o v, []) := c_sc_rep (d := o) (m := 0) (by omega)
theorem u_St1 {a6 : Bool} {a b : Nat} {P : GP} (h : a ≠ b) (hP : g_ok P) (hab : [a, b] ∈ d_all) (hba : [b, a] ∈ d_all) (ha : [a] ∈ d_all) (hb : [b] ∈ d_all) (x : GP × List Nat) : St a6 (u_S0 a6 P a b) 1 x ↔ u_one P a b x ∨ u_one P b a x := by
  have hgo : ∀ d o w, [o] ∈ d_all → u_Al P d o w → s_gd (g_st P d w, [o]) := fun d o w ho hw => by
    have k1 : g_ok (g_st P d w) := g_ok_st hP hw.1
    generalize g_st P d w = Q at k1
    exact ⟨k1, ho⟩
  constructor
  · rintro ⟨hg, z, ⟨hz, -⟩, hs⟩
    rcases hz with rfl | ⟨-, rfl⟩
    · rcases (u_sc h).mp hs with ⟨w, h1, h2⟩ | ⟨⟨w, h1, h2⟩, -⟩
      · exact Or.inl ⟨w, h1, s_inj hg (hgo a b w hb h1) h2⟩
      · exact Or.inr ⟨w, h1, s_inj hg (hgo b a w ha h1) h2⟩
    · rcases (u_sc (Ne.symm h)).mp hs with ⟨w, h1, h2⟩ | ⟨⟨w, h1, h2⟩, -⟩
      · exact Or.inr ⟨w, h1, s_inj hg (hgo b a w ha h1) h2⟩
      · exact Or.inl ⟨w, h1, s_inj hg (hgo a b w hb h1) h2⟩
  · rintro (⟨w, h1, rfl⟩ | ⟨w, h1, rfl⟩)
    · refine ⟨hgo a b w hb h1, (P, [a, b]), ⟨Or.inl rfl, hP, hab⟩, (u_sc h).mpr (Or.inl ⟨w, h1, rfl⟩)⟩
    · cases h6 : a6
      · refine ⟨hgo b a w ha h1, (P, [a, b]), ⟨Or.inl rfl, hP, hab⟩, (u_sc h).mpr (Or.inr ⟨⟨w, h1, rfl⟩, (fun q => by cases q)⟩)⟩
      · refine ⟨hgo b a w ha h1, (P, [b, a]), ⟨Or.inr ⟨rfl, rfl⟩, hP, hba⟩, (u_sc (Ne.symm h)).mpr (Or.inl ⟨w, h1, rfl⟩)⟩
theorem u_St2 {a6 : Bool} {a b : Nat} {P : GP} (h : a ≠ b) (hP : g_ok P) (hab : [a, b] ∈ d_all) (hba : [b, a] ∈ d_all) (ha : [a] ∈ d_all) (hb : [b] ∈ d_all) (x : GP × List Nat) : St a6 (u_S0 a6 P a b) 2 x ↔ u_two P a b x ∨ u_two P b a x := by
  have hgo : ∀ d o w v, u_Al P d o w → g_A (g_st P d w) o v → s_gd (g_st (g_st P d w) o v, []) := fun d o w v hw hv => by
    have k1 : g_ok (g_st (g_st P d w) o v) := g_ok_st (g_ok_st hP hw.1) hv
    generalize g_st (g_st P d w) o v = Q at k1
    exact ⟨k1, d_nil⟩
  constructor
  · rintro ⟨hg, z, hz, hs⟩
    rcases (u_St1 h hP hab hba ha hb z).mp hz with ⟨w, h1, rfl⟩ | ⟨w, h1, rfl⟩
    · obtain ⟨v, v1, v2⟩ := u_sc1.mp hs
      exact Or.inl ⟨w, h1, v, v1, s_inj hg (hgo a b w v h1 v1) v2⟩
    · obtain ⟨v, v1, v2⟩ := u_sc1.mp hs
      exact Or.inr ⟨w, h1, v, v1, s_inj hg (hgo b a w v h1 v1) v2⟩
  · rintro (⟨w, h1, v, v1, rfl⟩ | ⟨w, h1, v, v1, rfl⟩)
    · exact ⟨hgo a b w v h1 v1, _, (u_St1 h hP hab hba ha hb _).mpr (Or.inl ⟨w, h1, rfl⟩), u_sc1.mpr ⟨v, v1, rfl⟩⟩
    · exact ⟨hgo b a w v h1 v1, _, (u_St1 h hP hab hba ha hb _).mpr (Or.inr ⟨w, h1, rfl⟩), u_sc1.mpr ⟨v, v1, rfl⟩⟩
theorem u_St3 {a6 : Bool} {a b : Nat} {P : GP} (h : a ≠ b) (hP : g_ok P) (hab : [a, b] ∈ d_all) (hba : [b, a] ∈ d_all) (ha : [a] ∈ d_all) (hb : [b] ∈ d_all) : ∀ (k : Nat) (x : GP × List Nat), ¬ St a6 (u_S0 a6 P a b) (k + 3) x := by
  intro k
  induction k with
  | zero =>
    rintro x ⟨-, z, hz, hs⟩
    have : z.2 = [] := by
      rcases (u_St2 h hP hab hba ha hb z).mp hz with ⟨w, -, v, -, rfl⟩ | ⟨w, -, v, -, rfl⟩ <;> rfl
    rw [this, c_sc_0 (show d_ks [] = [] from rfl)] at hs
    cases hs
  | succ k ih =>
    rintro x ⟨-, z, hz, -⟩
    exact ih z hz
theorem l_fm_len {α β : Type} {f : α → List β} {m : Nat} : ∀ {l : List α}, (∀ x ∈ l, (f x).length ≤ m) → (l.flatMap f).length ≤ l.length * m := by
  intro l
  induction l with
  | nil => intro _; exact Nat.zero_le _
  | cons x l ih =>
    intro h
    rw [List.flatMap_cons, List.length_append]
    have h1 := h x (List.mem_cons_self ..)
    have h2 := ih (fun y hy => h y (List.mem_cons_of_mem _ hy))
    show _ ≤ (l.length + 1) * m
    rw [Nat.add_mul]; omega
def u_C1 (P : GP) (d : Nat) (t : List Nat) : List KS := (g_cn d 1 17 P).map (fun Q => s_of (Q, t))
def u_C2 (P : GP) (d o : Nat) : List KS := (g_cn d 1 17 P).flatMap (fun Q => (g_cn o 1 17 Q).map (fun R => s_of (R, [])))
theorem g_cn_1 {d w : Nat} {P : GP} (h : g_A P d w) : g_st P d w ∈ g_cn d 1 17 P := g_cn_S.mpr ⟨w, h.2.1, h, List.mem_singleton.mpr rfl⟩
theorem g_cn_1' {d : Nat} {P Q : GP} (h : Q ∈ g_cn d 1 17 P) : ∃ w, g_A P d w ∧ Q = g_st P d w := by
  obtain ⟨w, -, h1, h2⟩ := g_cn_S.mp h
  exact ⟨w, h1, List.mem_singleton.mp h2⟩
theorem u_C1_len {P : GP} {d : Nat} {t : List Nat} (hd : 1 ≤ d) (hP : g_ok P) : (u_C1 P d t).length ≤ 6 := by
  unfold u_C1
  rw [List.length_map]
  exact g_cn_126 (j := 1) hd (by omega) hP
theorem u_C2_len {P : GP} {d o : Nat} (hd : 1 ≤ d) (ho : 1 ≤ o) (hP : g_ok P) : (u_C2 P d o).length ≤ 36 := by
  have h1 : (g_cn d 1 17 P).length ≤ 6 := g_cn_126 (j := 1) hd (by omega) hP
  have h2 : (u_C2 P d o).length ≤ (g_cn d 1 17 P).length * 6 := l_fm_len (fun Q hQ => by
    obtain ⟨w, w1, rfl⟩ := g_cn_1' hQ
    rw [List.length_map]
    exact g_cn_126 (j := 1) ho (by omega) (g_ok_st hP w1))
  omega
theorem u_one_C {P : GP} {d o : Nat} {t : List Nat} {x : GP × List Nat} (h : u_one P d o x) : s_of (x.1, t) ∈ u_C1 P d t := by
  obtain ⟨w, h1, rfl⟩ := h
  exact List.mem_map.mpr ⟨_, g_cn_1 h1.1, rfl⟩
theorem u_two_C {P : GP} {d o : Nat} {x : GP × List Nat} (h : u_two P d o x) : s_of (x.1, []) ∈ u_C2 P d o := by
  obtain ⟨w, h1, v, h2, rfl⟩ := h
  exact List.mem_flatMap.mpr ⟨_, g_cn_1 h1.1, List.mem_map.mpr ⟨_, g_cn_1 h2, rfl⟩⟩
