/-! the ends of unlike dice -/
theorem g_R_un {a b : Nat} {P : GP} (h : a ≠ b) : g_R [a, b] P = if (g_two P a b || g_two P b a) = true then 2 else if (g_any P a || g_any P b) = true then 1 else 0 := g_rc_two (n := 2) h
theorem g_un_ab {a b : Nat} (h : a ≠ b) : g_un [a, b] = true := decide_eq_true h
def u_Al (P : GP) (d o w : Nat) : Prop := g_A P d w ∧ ((g_two P d o || g_two P o d) = true → g_any (g_st P d w) o = true) ∧ ((g_two P d o || g_two P o d) = false → ¬ (d < o ∧ g_any P o = true))
theorem u_re {a b w : Nat} {P : GP} (h : a ≠ b) (hw1 : 1 ≤ w) (hw : w ≤ 17) : (g_re [a, b] P a w = 0 ↔ u_Al P a b w) ∧ (g_re [a, b] P b w = 0 ↔ u_Al P b a w) := by
  have hoa : g_ot [a, b] a = b := by show a + b - a = b; omega
  have hob : g_ot [a, b] b = a := by show a + b - b = a; omega
  have hR := g_R_un (P := P) h
  unfold g_re u_Al
  rw [if_pos (List.mem_cons_self ..), if_pos (show b ∈ [a, b] from List.mem_cons_of_mem _ (List.mem_cons_self ..)), g_un_ab h, hoa, hob, hR]
  rw [Bool.or_comm (g_two P b a) (g_two P a b)]
  have key : ∀ (d o : Nat), ((if g_ban P.1 P.2 d w = 0 then (if true = true then (if (if (g_two P a b || g_two P b a) = true then 2 else if (g_any P a || g_any P b) = true then 1 else 0) = 2 then (if g_any (g_st P d w) o = true then 0 else 6) else if d < o ∧ g_any P o = true then 6 else 0) else 0) else g_ban P.1 P.2 d w) = 0 ↔ g_A P d w ∧ ((g_two P a b || g_two P b a) = true → g_any (g_st P d w) o = true) ∧ ((g_two P a b || g_two P b a) = false → ¬ (d < o ∧ g_any P o = true))) := by
    intro d o
    by_cases hb : g_ban P.1 P.2 d w = 0
    · rw [if_pos hb, if_pos rfl]
      cases ht : (g_two P a b || g_two P b a)
      · rw [if_neg (show ¬ false = true by decide)]
        have hne : ¬ ((if (g_any P a || g_any P b) = true then 1 else 0) = 2) := by split <;> omega
        rw [if_neg hne]
        by_cases hc : d < o ∧ g_any P o = true
        · rw [if_pos hc]
          constructor
          · intro q; omega
          · intro q; exact absurd hc (q.2.2 rfl)
        · rw [if_neg hc]
          exact ⟨fun _ => ⟨⟨hw1, hw, hb⟩, (fun q => by cases q), fun _ => hc⟩, fun _ => rfl⟩
      · rw [if_pos rfl, if_pos rfl]
        cases hs : g_any (g_st P d w) o
        · rw [if_neg (show ¬ false = true by decide)]
          constructor
          · intro q; omega
          · intro q; have := q.2.1 rfl; cases this
        · rw [if_pos rfl]
          exact ⟨fun _ => ⟨⟨hw1, hw, hb⟩, fun _ => rfl, (fun q => by cases q)⟩, fun _ => rfl⟩
    · rw [if_neg hb]
      constructor
      · intro q; exact absurd q hb
      · intro q; exact absurd q.1.2.2 hb
  exact ⟨key a b, key b a⟩
theorem u_wl {a b : Nat} {P : GP} {y : KS} (h : a ≠ b) : (y ∈ c_wl [a, b] P a 17 1 ↔ ∃ w, u_Al P a b w ∧ y = s_of (g_st P a w, [b])) ∧ (y ∈ c_wl [a, b] P b 17 1 ↔ ∃ w, u_Al P b a w ∧ y = s_of (g_st P b w, [a])) := by
  rw [c_wl_mem, c_wl_mem, g_er1, g_er2 h]
  refine ⟨⟨?_, ?_⟩, ⟨?_, ?_⟩⟩
  · rintro ⟨v, h1, h2, h3, h4⟩
    exact ⟨v, (u_re h h1 (by omega)).1.mp h3, h4⟩
  · rintro ⟨v, h3, h4⟩
    exact ⟨v, h3.1.1, by have := h3.1.2.1; omega, (u_re h h3.1.1 h3.1.2.1).1.mpr h3, h4⟩
  · rintro ⟨v, h1, h2, h3, h4⟩
    exact ⟨v, (u_re h h1 (by omega)).2.mp h3, h4⟩
  · rintro ⟨v, h3, h4⟩
    exact ⟨v, h3.1.1, by have := h3.1.2.1; omega, (u_re h h3.1.1 h3.1.2.1).2.mpr h3, h4⟩
def u_one (P : GP) (d o : Nat) (x : GP × List Nat) : Prop := ∃ w, u_Al P d o w ∧ x = (g_st P d w, [o])
def u_two (P : GP) (d o : Nat) (x : GP × List Nat) : Prop := ∃ w, u_Al P d o w ∧ ∃ v, g_A (g_st P d w) o v ∧ x = (g_st (g_st P d w) o v, [])
def u_S0 (a6 : Bool) (P : GP) (a b : Nat) (x : GP × List Nat) : Prop := x = (P, [a, b]) ∨ (a6 = true ∧ x = (P, [b, a]))
theorem u_sc {a6 : Bool} {a b : Nat} {P : GP} {y : KS} (h : a ≠ b) : y ∈ c_sc a6 [a, b] P ↔ (∃ w, u_Al P a b w ∧ y = s_of (g_st P a w, [b])) ∨ ((∃ w, u_Al P b a w ∧ y = s_of (g_st P b w, [a])) ∧ (a6 = true → ∀ w, ¬ u_Al P a b w)) := by
  rw [c_sc_2 (d_ks_two h), (u_wl h).1, (u_wl h).2]
  have e : (¬ (a6 = true ∧ c_wl [a, b] P a 17 1 ≠ [])) ↔ (a6 = true → ∀ w, ¬ u_Al P a b w) := by
    constructor
    · intro q h6 w hw
      refine q ⟨h6, fun hn => ?_⟩
      have := (u_wl (y := s_of (g_st P a w, [b])) h).1.mpr ⟨w, hw, rfl⟩
      rw [hn] at this; cases this
    · rintro q ⟨h6, hn⟩
      apply hn
      apply List.eq_nil_iff_forall_not_mem.mpr
      intro z hz
      obtain ⟨w, hw, -⟩ := (u_wl h).1.mp hz
      exact q h6 w hw
  rw [e]
theorem u_sc1 {a6 : Bool} {o : Nat} {Q : GP} {y : KS} : y ∈ c_sc a6 [o] Q ↔ ∃ v, g_A Q o v ∧ y = s_of (g_st Q o v, []) := c_sc_rep (d := o) (m := 0) (by omega)
theorem u_St1 {a6 : Bool} {a b : Nat} {P : GP} (h : a ≠ b) (hP : g_ok P) (hab : [a, b] ∈ d_all) (hba : [b, a] ∈ d_all) (ha : [a] ∈ d_all) (hb : [b] ∈ d_all) (x : GP × List Nat) : St a6 (u_S0 a6 P a b) 1 x ↔ u_one P a b x ∨ u_one P b a x := by
  have hgo : ∀ d o w, [o] ∈ d_all → u_Al P d o w → s_gd (g_st P d w, [o]) := fun d o w ho hw => by
    have k1 : g_ok (g_st P d w) := g_ok_st hP hw.1
    generalize g_st P d w = Q at k1
    exact ⟨k1, ho⟩
  constructor
  · rintro ⟨hg, z, ⟨hz, -⟩, hs⟩
    rcases hz with rfl | ⟨-, rfl⟩
    · rcases (u_sc h).mp hs with ⟨w, h1, h2⟩ | ⟨⟨w, h1, h2⟩, -⟩
      · exact Or.inl ⟨w, h1, s_inj hg (hgo a b w hb h1) h2⟩
      · exact Or.inr ⟨w, h1, s_inj hg (hgo b a w ha h1) h2⟩
    · rcases (u_sc (Ne.symm h)).mp hs with ⟨w, h1, h2⟩ | ⟨⟨w, h1, h2⟩, -⟩
      · exact Or.inr ⟨w, h1, s_inj hg (hgo b a w ha h1) h2⟩
      · exact Or.inl ⟨w, h1, s_inj hg (hgo a b w hb h1) h2⟩
  · rintro (⟨w, h1, rfl⟩ | ⟨w, h1, rfl⟩)
    · refine ⟨hgo a b w hb h1, (P, [a, b]), ⟨Or.inl rfl, hP, hab⟩, (u_sc h).mpr (Or.inl ⟨w, h1, rfl⟩)⟩
    · cases h6 : a6
      · refine ⟨hgo b a w ha h1, (P, [a, b]), ⟨Or.inl rfl, hP, hab⟩, (u_sc h).mpr (Or.inr ⟨⟨w, h1, rfl⟩, (fun q => by cases q)⟩)⟩
      · refine ⟨hgo b a w ha h1, (P, [b, a]), ⟨Or.inr ⟨rfl, rfl⟩, hP, hba⟩, (u_sc (Ne.symm h)).mpr (Or.inl ⟨w, h1, rfl⟩)⟩
theorem u_St2 {a6 : Bool} {a b : Nat} {P : GP} (h : a ≠ b) (hP : g_ok P) (hab : [a, b] ∈ d_all) (hba : [b, a] ∈ d_all) (ha : [a] ∈ d_all) (hb : [b] ∈ d_all) (x : GP × List Nat) : St a6 (u_S0 a6 P a b) 2 x ↔ u_two P a b x ∨ u_two P b a x := by
  have hgo : ∀ d o w v, u_Al P d o w → g_A (g_st P d w) o v → s_gd (g_st (g_st P d w) o v, []) := fun d o w v hw hv => by
    have k1 : g_ok (g_st (g_st P d w) o v) := g_ok_st (g_ok_st hP hw.1) hv
    generalize g_st (g_st P d w) o v = Q at k1
    exact ⟨k1, d_nil⟩
  constructor
  · rintro ⟨hg, z, hz, hs⟩
    rcases (u_St1 h hP hab hba ha hb z).mp hz with ⟨w, h1, rfl⟩ | ⟨w, h1, rfl⟩
    · obtain ⟨v, v1, v2⟩ := u_sc1.mp hs
      exact Or.inl ⟨w, h1, v, v1, s_inj hg (hgo a b w v h1 v1) v2⟩
    · obtain ⟨v, v1, v2⟩ := u_sc1.mp hs
      exact Or.inr ⟨w, h1, v, v1, s_inj hg (hgo b a w v h1 v1) v2⟩
  · rintro (⟨w, h1, v, v1, rfl⟩ | ⟨w, h1, v, v1, rfl⟩)
    · exact ⟨hgo a b w v h1 v1, _, (u_St1 h hP hab hba ha hb _).mpr (Or.inl ⟨w, h1, rfl⟩), u_sc1.mpr ⟨v, v1, rfl⟩⟩
    · exact ⟨hgo b a w v h1 v1, _, (u_St1 h hP hab hba ha hb _).mpr (Or.inr ⟨w, h1, rfl⟩), u_sc1.mpr ⟨v, v1, rfl⟩⟩
theorem u_St3 {a6 : Bool} {a b : Nat} {P : GP} (h : a ≠ b) (hP : g_ok P) (hab : [a, b] ∈ d_all) (hba : [b, a] ∈ d_all) (ha : [a] ∈ d_all) (hb : [b] ∈ d_all) : ∀ (k : Nat) (x : GP × List Nat), ¬ St a6 (u_S0 a6 P a b) (k + 3) x := by
  intro k
  induction k with
  | zero =>
    rintro x ⟨-, z, hz, hs⟩
    have : z.2 = [] := by
      rcases (u_St2 h hP hab hba ha hb z).mp hz with ⟨w, -, v, -, rfl⟩ | ⟨w, -, v, -, rfl⟩ <;> rfl
    rw [this, c_sc_0 (show d_ks [] = [] from rfl)] at hs
    cases hs
  | succ k ih =>
    rintro x ⟨-, z, hz, -⟩
    exact ih z hz
theorem l_fm_len {α β : Type} {f : α → List β} {m : Nat} : ∀ {l : List α}, (∀ x ∈ l, (f x).length ≤ m) → (l.flatMap f).length ≤ l.length * m := by
  intro l
  induction l with
  | nil => intro _; exact Nat.zero_le _
  | cons x l ih =>
    intro h
    rw [List.flatMap_cons, List.length_append]
    have h1 := h x (List.mem_cons_self ..)
    have h2 := ih (fun y hy => h y (List.mem_cons_of_mem _ hy))
    show _ ≤ (l.length + 1) * m
    rw [Nat.add_mul]; omega
def u_C1 (P : GP) (d : Nat) (t : List Nat) : List KS := (g_cn d 1 17 P).map (fun Q => s_of (Q, t))
def u_C2 (P : GP) (d o : Nat) : List KS := (g_cn d 1 17 P).flatMap (fun Q => (g_cn o 1 17 Q).map (fun R => s_of (R, [])))
theorem g_cn_1 {d w : Nat} {P : GP} (h : g_A P d w) : g_st P d w ∈ g_cn d 1 17 P := g_cn_S.mpr ⟨w, h.2.1, h, List.mem_singleton.mpr rfl⟩
theorem g_cn_1' {d : Nat} {P Q : GP} (h : Q ∈ g_cn d 1 17 P) : ∃ w, g_A P d w ∧ Q = g_st P d w := by
  obtain ⟨w, -, h1, h2⟩ := g_cn_S.mp h
  exact ⟨w, h1, List.mem_singleton.mp h2⟩
theorem u_C1_len {P : GP} {d : Nat} {t : List Nat} (hd : 1 ≤ d) (hP : g_ok P) : (u_C1 P d t).length ≤ 6 := by
  unfold u_C1
  rw [List.length_map]
  exact g_cn_126 (j := 1) hd (by omega) hP
theorem u_C2_len {P : GP} {d o : Nat} (hd : 1 ≤ d) (ho : 1 ≤ o) (hP : g_ok P) : (u_C2 P d o).length ≤ 36 := by
  have h1 : (g_cn d 1 17 P).length ≤ 6 := g_cn_126 (j := 1) hd (by omega) hP
  have h2 : (u_C2 P d o).length ≤ (g_cn d 1 17 P).length * 6 := l_fm_len (fun Q hQ => by
    obtain ⟨w, w1, rfl⟩ := g_cn_1' hQ
    rw [List.length_map]
    exact g_cn_126 (j := 1) ho (by omega) (g_ok_st hP w1))
  omega
theorem u_one_C {P : GP} {d o : Nat} {t : List Nat} {x : GP × List Nat} (h : u_one P d o x) : s_of (x.1, t) ∈ u_C1 P d t := by
  obtain ⟨w, h1, rfl⟩ := h
  exact List.mem_map.mpr ⟨_, g_cn_1 h1.1, rfl⟩
theorem u_two_C {P : GP} {d o : Nat} {x : GP × List Nat} (h : u_two P d o x) : s_of (x.1, []) ∈ u_C2 P d o := by
  obtain ⟨w, h1, v, h2, rfl⟩ := h
  exact List.mem_flatMap.mpr ⟨_, g_cn_1 h1.1, List.mem_map.mpr ⟨_, g_cn_1 h2, rfl⟩⟩
def u_B (gr le : Nat) (P Q : GP) : Prop := if (g_two P gr le || g_two P le gr) = true then ((∃ w, g_A P gr w ∧ ∃ v, g_A (g_st P gr w) le v ∧ Q = g_st (g_st P gr w) le v) ∨ (∃ w, g_A P le w ∧ ∃ v, g_A (g_st P le w) gr v ∧ Q = g_st (g_st P le w) gr v)) else if g_any P gr = true then ∃ w, g_A P gr w ∧ Q = g_st P gr w else if g_any P le = true then ∃ w, g_A P le w ∧ Q = g_st P le w else Q = P
def u_E (a6 : Bool) (a b : Nat) (P : GP) (y : KS) : Prop := ((∀ w, ¬ u_Al P a b w) ∧ (∀ w, ¬ u_Al P b a w) ∧ y = s_of (P, [])) ∨ (∃ x, (u_one P a b x ∨ u_one P b a x) ∧ c_sc a6 x.2 x.1 = [] ∧ y = s_of (x.1, [])) ∨ (∃ x, (u_two P a b x ∨ u_two P b a x) ∧ y = s_of (x.1, []))
theorem u_E_comm {a6 : Bool} {a b : Nat} {P : GP} {y : KS} (h : u_E a6 a b P y) : u_E a6 b a P y := by
  rcases h with ⟨h1, h2, h3⟩ | ⟨x, h1, h2, h3⟩ | ⟨x, h1, h2⟩
  · exact Or.inl ⟨h2, h1, h3⟩
  · exact Or.inr (Or.inl ⟨x, h1.symm, h2, h3⟩)
  · exact Or.inr (Or.inr ⟨x, h1.symm, h2⟩)
theorem u_sc1_nil {a6 : Bool} {o : Nat} {Q : GP} : c_sc a6 [o] Q = [] ↔ ∀ v, ¬ g_A Q o v := by
  constructor
  · intro h v hv
    have := (u_sc1 (a6 := a6) (y := s_of (g_st Q o v, []))).mpr ⟨v, hv, rfl⟩
    rw [h] at this; cases this
  · intro h
    apply List.eq_nil_iff_forall_not_mem.mpr
    intro y hy
    obtain ⟨v, hv, -⟩ := u_sc1.mp hy
    exact h v hv
theorem u_sc_nil {a6 : Bool} {a b : Nat} {P : GP} (h : a ≠ b) : c_sc a6 [a, b] P = [] ↔ (∀ w, ¬ u_Al P a b w) ∧ (∀ w, ¬ u_Al P b a w) := by
  constructor
  · intro hn
    have h1 : ∀ w, ¬ u_Al P a b w := fun w hw => by
      have := (u_sc (a6 := a6) (y := s_of (g_st P a w, [b])) h).mpr (Or.inl ⟨w, hw, rfl⟩)
      rw [hn] at this; cases this
    refine ⟨h1, fun w hw => ?_⟩
    have := (u_sc (a6 := a6) (y := s_of (g_st P b w, [a])) h).mpr (Or.inr ⟨⟨w, hw, rfl⟩, fun _ => h1⟩)
    rw [hn] at this; cases this
  · rintro ⟨h1, h2⟩
    apply List.eq_nil_iff_forall_not_mem.mpr
    intro y hy
    rcases (u_sc h).mp hy with ⟨w, hw, -⟩ | ⟨⟨w, hw, -⟩, -⟩
    · exact h1 w hw
    · exact h2 w hw
theorem u_fin1 {a6 : Bool} {gr le : Nat} {P : GP} {y : KS} (hlt : le < gr) (h : u_E a6 gr le P y) : ∃ Q, u_B gr le P Q ∧ y = s_of (Q, []) := by
  have two_no : ∀ d o w v, g_A P d w → g_A (g_st P d w) o v → g_two P d o = true := fun d o w v h1 h2 => g_two_iff.mpr ⟨w, h1, g_any_iff.mpr ⟨v, h2⟩⟩
  unfold u_B
  cases ht : (g_two P gr le || g_two P le gr)
  · have ht2 : (g_two P le gr || g_two P gr le) = false := by rw [Bool.or_comm]; exact ht
    rw [Bool.or_eq_false_iff] at ht
    rcases h with ⟨h1, h2, h3⟩ | ⟨x, h1, h2, h3⟩ | ⟨x, h1, h2⟩
    · have n1 : g_any P gr = false := g_any_not.mpr (fun w hw => h1 w ⟨hw, (fun q => by rw [ht.1, ht.2] at q; cases q), fun _ q => by omega⟩)
      have n2 : g_any P le = false := g_any_not.mpr (fun w hw => h2 w ⟨hw, (fun q => by rw [ht.1, ht.2] at q; cases q), fun _ q => by rw [n1] at q; cases q.2⟩)
      refine ⟨P, ?_, h3⟩
      rw [if_neg (show ¬ false = true by decide), n1, n2, if_neg (show ¬ false = true by decide), if_neg (show ¬ false = true by decide)]
    · rcases h1 with ⟨w, hw, rfl⟩ | ⟨w, hw, rfl⟩
      · refine ⟨g_st P gr w, ?_, h3⟩
        rw [if_neg (show ¬ false = true by decide), if_pos (g_any_iff.mpr ⟨w, hw.1⟩)]
        exact ⟨w, hw.1, rfl⟩
      · have n1 : g_any P gr = false := by
          cases hq : g_any P gr
          · rfl
          · exact absurd ⟨hlt, hq⟩ (hw.2.2 ht2)
        refine ⟨g_st P le w, ?_, h3⟩
        rw [if_neg (show ¬ false = true by decide), n1, if_neg (show ¬ false = true by decide), if_pos (g_any_iff.mpr ⟨w, hw.1⟩)]
        exact ⟨w, hw.1, rfl⟩
    · rcases h1 with ⟨w, hw, v, hv, rfl⟩ | ⟨w, hw, v, hv, rfl⟩
      · have := two_no gr le w v hw.1 hv
        rw [ht.1] at this; cases this
      · have := two_no le gr w v hw.1 hv
        rw [ht.2] at this; cases this
  · have ht2 : (g_two P le gr || g_two P gr le) = true := by rw [Bool.or_comm]; exact ht
    rcases h with ⟨h1, h2, h3⟩ | ⟨x, h1, h2, h3⟩ | ⟨x, h1, h2⟩
    · exfalso
      rw [Bool.or_eq_true] at ht
      rcases ht with q | q
      · obtain ⟨w, w1, w2⟩ := g_two_iff.mp q
        exact h1 w ⟨w1, fun _ => w2, fun z => by rw [q] at z; cases z⟩
      · obtain ⟨w, w1, w2⟩ := g_two_iff.mp q
        exact h2 w ⟨w1, fun _ => w2, fun z => by rw [q] at z; cases z⟩
    · exfalso
      rcases h1 with ⟨w, hw, rfl⟩ | ⟨w, hw, rfl⟩
      · obtain ⟨v, hv⟩ := g_any_iff.mp (hw.2.1 ht)
        exact u_sc1_nil.mp h2 v hv
      · obtain ⟨v, hv⟩ := g_any_iff.mp (hw.2.1 ht2)
        exact u_sc1_nil.mp h2 v hv
    · rcases h1 with ⟨w, hw, v, hv, rfl⟩ | ⟨w, hw, v, hv, rfl⟩
      · refine ⟨_, ?_, h2⟩
        rw [if_pos rfl]
        exact Or.inl ⟨w, hw.1, v, hv, rfl⟩
      · refine ⟨_, ?_, h2⟩
        rw [if_pos rfl]
        exact Or.inr ⟨w, hw.1, v, hv, rfl⟩
theorem u_fin2 {a6 : Bool} {gr le : Nat} {P Q : GP} (hlt : le < gr) (h : u_B gr le P Q) : u_E a6 gr le P (s_of (Q, [])) := by
  have two_no : ∀ d o w v, g_A P d w → g_A (g_st P d w) o v → g_two P d o = true := fun d o w v h1 h2 => g_two_iff.mpr ⟨w, h1, g_any_iff.mpr ⟨v, h2⟩⟩
  unfold u_B at h
  cases ht : (g_two P gr le || g_two P le gr)
  · have ht2 : (g_two P le gr || g_two P gr le) = false := by rw [Bool.or_comm]; exact ht
    rw [ht, if_neg (show ¬ false = true by decide)] at h
    rw [Bool.or_eq_false_iff] at ht
    have ht0 : (g_two P gr le || g_two P le gr) = false := by rw [ht.1, ht.2]; rfl
    by_cases n1 : g_any P gr = true
    · rw [if_pos n1] at h
      obtain ⟨w, hw, rfl⟩ := h
      refine Or.inr (Or.inl ⟨(g_st P gr w, [le]), Or.inl ⟨w, ⟨hw, (fun q => by rw [ht0] at q; cases q), fun _ q => by omega⟩, rfl⟩, u_sc1_nil.mpr (fun v hv => ?_), rfl⟩)
      have := two_no gr le w v hw hv
      rw [ht.1] at this; cases this
    · rw [if_neg n1] at h
      by_cases n2 : g_any P le = true
      · rw [if_pos n2] at h
        obtain ⟨w, hw, rfl⟩ := h
        refine Or.inr (Or.inl ⟨(g_st P le w, [gr]), Or.inr ⟨w, ⟨hw, (fun q => by rw [ht2] at q; cases q), fun _ q => n1 q.2⟩, rfl⟩, u_sc1_nil.mpr (fun v hv => ?_), rfl⟩)
        have := two_no le gr w v hw hv
        rw [ht.2] at this; cases this
      · rw [if_neg n2] at h
        rw [h]
        exact Or.inl ⟨fun w hw => n1 (g_any_iff.mpr ⟨w, hw.1⟩), fun w hw => n2 (g_any_iff.mpr ⟨w, hw.1⟩), rfl⟩
  · have ht2 : (g_two P le gr || g_two P gr le) = true := by rw [Bool.or_comm]; exact ht
    rw [ht, if_pos rfl] at h
    rcases h with ⟨w, hw, v, hv, rfl⟩ | ⟨w, hw, v, hv, rfl⟩
    · exact Or.inr (Or.inr ⟨(g_st (g_st P gr w) le v, []), Or.inl ⟨w, ⟨hw, fun _ => g_any_iff.mpr ⟨v, hv⟩, fun q => by rw [ht] at q; cases q⟩, v, hv, rfl⟩, rfl⟩)
    · exact Or.inr (Or.inr ⟨(g_st (g_st P le w) gr v, []), Or.inr ⟨w, ⟨hw, fun _ => g_any_iff.mpr ⟨v, hv⟩, fun q => by rw [ht2] at q; cases q⟩, v, hv, rfl⟩, rfl⟩)
theorem u_ends {a6 : Bool} {a b : Nat} {P : GP} (h : a ≠ b) (ha1 : 1 ≤ a) (hb1 : 1 ≤ b) (hP : g_ok P) (hab : [a, b] ∈ d_all) (hba : [b, a] ∈ d_all) (ha : [a] ∈ d_all) (hb : [b] ∈ d_all) (htu : mX0_turned (d_I [a, b]) = some (d_I [b, a])) : ∃ E : List KS, pE (b_L P.1) (b_L P.2) (d_I [a, b]) a6 = some (nI E.length) ∧ E.Nodup ∧ ∀ y, y ∈ E ↔ u_E a6 a b P y := by
  have h1 := u_St1 (a6 := a6) h hP hab hba ha hb
  have h2 := u_St2 (a6 := a6) h hP hab hba ha hb
  have h3 := u_St3 (a6 := a6) h hP hab hba ha hb
  have l1 := u_C1_len (P := P) (t := [b]) ha1 hP
  have l2 := u_C1_len (P := P) (t := [a]) hb1 hP
  have l1' := u_C1_len (P := P) (t := []) ha1 hP
  have l2' := u_C1_len (P := P) (t := []) hb1 hP
  have l3 := u_C2_len (P := P) ha1 hb1 hP
  have l4 := u_C2_len (P := P) hb1 ha1 hP
  have hcap : s_cap a6 (u_S0 a6 P a b) (fun k => match k with
      | 0 => [s_of (P, [a, b]), s_of (P, [b, a])]
      | 1 => u_C1 P a [b] ++ u_C1 P b [a]
      | 2 => u_C2 P a b ++ u_C2 P b a
      | _ => []) ([s_of (P, [])] ++ (u_C1 P a [] ++ u_C1 P b []) ++ (u_C2 P a b ++ u_C2 P b a)) := by
    refine ⟨fun k hk => ?_, ?_, fun k x hk hx => ?_, fun k x hk hx hc => ?_⟩
    · rcases (show k = 0 ∨ k = 1 ∨ k = 2 ∨ ∃ m, k = m + 3 from by
        rcases (show k = 0 ∨ k = 1 ∨ k = 2 ∨ 3 ≤ k by omega) with q | q | q | q
        · exact Or.inl q
        · exact Or.inr (Or.inl q)
        · exact Or.inr (Or.inr (Or.inl q))
        · exact Or.inr (Or.inr (Or.inr ⟨k - 3, by omega⟩))) with rfl | rfl | rfl | ⟨m, rfl⟩
      · show 2 ≤ 128; omega
      · show (u_C1 P a [b] ++ u_C1 P b [a]).length ≤ 128
        rw [List.length_append]; omega
      · show (u_C2 P a b ++ u_C2 P b a).length ≤ 128
        rw [List.length_append]; omega
      · exact Nat.zero_le _
    · rw [List.length_append, List.length_append, List.length_append, List.length_append]
      show 1 + _ + _ ≤ 128
      omega
    · rcases (show k = 0 ∨ k = 1 ∨ k = 2 ∨ 3 ≤ k by omega) with rfl | rfl | rfl | q
      · rcases hx.1 with rfl | ⟨-, rfl⟩
        · exact List.mem_cons_self ..
        · exact List.mem_cons_of_mem _ (List.mem_cons_self ..)
      · rcases (h1 x).mp hx with q | q
        · have hx2 : x = (x.1, [b]) := by obtain ⟨w, -, rfl⟩ := q; rfl
          rw [hx2]; exact List.mem_append_left _ (u_one_C q)
        · have hx2 : x = (x.1, [a]) := by obtain ⟨w, -, rfl⟩ := q; rfl
          rw [hx2]; exact List.mem_append_right _ (u_one_C q)
      · rcases (h2 x).mp hx with q | q
        · have hx2 : x = (x.1, []) := by obtain ⟨w, -, v, -, rfl⟩ := q; rfl
          rw [hx2]; exact List.mem_append_left _ (u_two_C q)
        · have hx2 : x = (x.1, []) := by obtain ⟨w, -, v, -, rfl⟩ := q; rfl
          rw [hx2]; exact List.mem_append_right _ (u_two_C q)
      · obtain ⟨m, rfl⟩ : ∃ m, k = m + 3 := ⟨k - 3, by omega⟩
        exact absurd hx (h3 m x)
    · rcases (show k = 0 ∨ k = 1 ∨ k = 2 ∨ 3 ≤ k by omega) with rfl | rfl | rfl | q
      · apply List.mem_append_left
        apply List.mem_append_left
        rcases hx.1 with rfl | ⟨-, rfl⟩
        · exact List.mem_cons_self ..
        · exact List.mem_cons_self ..
      · apply List.mem_append_left
        apply List.mem_append_right
        rcases (h1 x).mp hx with q | q
        · exact List.mem_append_left _ (u_one_C q)
        · exact List.mem_append_right _ (u_one_C q)
      · apply List.mem_append_right
        rcases (h2 x).mp hx with q | q
        · exact List.mem_append_left _ (u_two_C q)
        · exact List.mem_append_right _ (u_two_C q)
      · obtain ⟨m, rfl⟩ : ∃ m, k = m + 3 := ⟨k - 3, by omega⟩
        exact absurd hx (h3 m x)
  obtain ⟨E, e1, e2, e3⟩ := c_ends (a6 := a6) (x0 := (P, [a, b])) ⟨hP, hab⟩ hba htu (S0 := u_S0 a6 P a b) (fun x => Iff.rfl) hcap
  refine ⟨E, e1, e2, fun y => ?_⟩
  rw [e3]
  constructor
  · rintro ⟨k, x, k1, k2, k3, k4⟩
    rcases (show k = 0 ∨ k = 1 ∨ k = 2 ∨ 3 ≤ k by omega) with rfl | rfl | rfl | q
    · rcases k2.1 with rfl | ⟨-, rfl⟩
      · have := (u_sc_nil h).mp k3
        exact Or.inl ⟨this.1, this.2, k4⟩
      · have := (u_sc_nil (Ne.symm h)).mp k3
        exact Or.inl ⟨this.2, this.1, k4⟩
    · exact Or.inr (Or.inl ⟨x, (h1 x).mp k2, k3, k4⟩)
    · exact Or.inr (Or.inr ⟨x, (h2 x).mp k2, k4⟩)
    · obtain ⟨m, rfl⟩ : ∃ m, k = m + 3 := ⟨k - 3, by omega⟩
      exact absurd k2 (h3 m x)
  · rintro (⟨q1, q2, q3⟩ | ⟨x, q1, q2, q3⟩ | ⟨x, q1, q2⟩)
    · exact ⟨0, (P, [a, b]), by omega, ⟨Or.inl rfl, hP, hab⟩, (u_sc_nil h).mpr ⟨q1, q2⟩, q3⟩
    · exact ⟨1, x, by omega, (h1 x).mpr q1, q2, q3⟩
    · refine ⟨2, x, by omega, (h2 x).mpr q1, ?_, q2⟩
      have : x.2 = [] := by rcases q1 with ⟨w, -, v, -, rfl⟩ | ⟨w, -, v, -, rfl⟩ <;> rfl
      rw [this]; exact c_sc_0 rfl
theorem l_map_nd {α β γ : Type} {f : α → β} {g : α → γ} : ∀ {Y : List α}, (Y.map f).Nodup → (∀ a ∈ Y, ∀ b ∈ Y, g a = g b → f a = f b) → (Y.map g).Nodup := by
  intro Y
  induction Y with
  | nil => intro _ _; exact List.nodup_nil
  | cons a Y ih =>
    intro h hi
    rw [List.map_cons, List.nodup_cons] at h ⊢
    refine ⟨fun q => ?_, ih h.2 (fun x hx y hy => hi x (List.mem_cons_of_mem _ hx) y (List.mem_cons_of_mem _ hy))⟩
    rw [List.mem_map] at q
    obtain ⟨b, b1, b2⟩ := q
    apply h.1
    rw [List.mem_map]
    exact ⟨b, b1, hi b (List.mem_cons_of_mem _ b1) a (List.mem_cons_self ..) b2⟩
theorem cnt_one {B : GP → Prop} {P : GP} (hB : ∀ Q, B Q ↔ Q = P) {E : List KS} (hE : E.Nodup) (hE2 : ∀ y, y ∈ E ↔ ∃ Q, B Q ∧ y = s_of (Q, [])) : E.length = 1 := by
  have := l_eq (l1 := E) (l2 := [s_of (P, [])]) hE (List.nodup_cons.mpr ⟨by simp, List.nodup_nil⟩) (fun y => by
    rw [hE2, List.mem_singleton]
    constructor
    · rintro ⟨Q, q1, q2⟩; rw [q2, (hB Q).mp q1]
    · intro q; exact ⟨P, (hB P).mpr rfl, q⟩)
  exact this
theorem d_cases : ∀ ds ∈ d_all, (ds = List.replicate ds.length (ds.getD 0 1) ∧ ds.length ≤ 4 ∧ 1 ≤ ds.getD 0 1 ∧ ds.getD 0 1 < 7) ∨ (ds = [ds.getD 0 0, ds.getD 1 0] ∧ ds.getD 0 0 ≠ ds.getD 1 0 ∧ 1 ≤ ds.getD 0 0 ∧ ds.getD 0 0 < 7 ∧ 1 ≤ ds.getD 1 0 ∧ ds.getD 1 0 < 7) := by decide +kernel
theorem d_reps : ∀ d, d < 7 → ∀ k, k < 5 → (1 ≤ d → List.replicate k d ∈ d_all) := by decide +kernel
theorem d_abs : ∀ a, a < 7 → ∀ b, b < 7 → (1 ≤ a ∧ 1 ≤ b ∧ a ≠ b → [a, b] ∈ d_all) := by decide +kernel
theorem d_tu_rep {n d : Nat} (hd : 1 ≤ d) (hd7 : d < 7) (hn : n ≤ 4) : mX0_turned (d_I (List.replicate n d)) = some (d_I (List.replicate n d)) := by
  have h := d_turned _ (d_reps d hd7 n (by omega) hd)
  have h2 : ¬ (d_ks (List.replicate n d)).length = 2 := by
    cases n with
    | zero => show ¬ 0 = 2; omega
    | succ n => rw [d_ks_rep]; show ¬ 1 = 2; omega
  rw [if_neg h2] at h; exact h
theorem d_tu_ab {a b : Nat} (h : a ≠ b) (hab : [a, b] ∈ d_all) : mX0_turned (d_I [a, b]) = some (d_I [b, a]) := by
  have h1 := d_turned _ hab
  rw [d_ks_two h, if_pos (show [a, b].length = 2 from rfl)] at h1
  exact h1
theorem u_B_ok {gr le : Nat} {P Q : GP} (hP : g_ok P) (h : u_B gr le P Q) : g_ok Q := by
  unfold u_B at h
  split at h
  · rcases h with ⟨w, h1, v, h2, rfl⟩ | ⟨w, h1, v, h2, rfl⟩
    · exact g_ok_st (g_ok_st hP h1) h2
    · exact g_ok_st (g_ok_st hP h1) h2
  · split at h
    · obtain ⟨w, h1, rfl⟩ := h; exact g_ok_st hP h1
    · split at h
      · obtain ⟨w, h1, rfl⟩ := h; exact g_ok_st hP h1
      · rw [h]; exact hP
theorem u_class {a6 : Bool} {a b gr le : Nat} {P : GP} (h : a ≠ b) (ha1 : 1 ≤ a) (ha7 : a < 7) (hb1 : 1 ≤ b) (hb7 : b < 7) (hP : g_ok P) (hlt : le < gr) (hgl : (gr = a ∧ le = b) ∨ (gr = b ∧ le = a)) : ∃ E : List KS, pE (b_L P.1) (b_L P.2) (d_I [a, b]) a6 = some (nI E.length) ∧ E.Nodup ∧ ∀ y, y ∈ E ↔ ∃ Q, u_B gr le P Q ∧ y = s_of (Q, []) := by
  have hab := d_abs a ha7 b hb7 ⟨ha1, hb1, h⟩
  have hba := d_abs b hb7 a ha7 ⟨hb1, ha1, Ne.symm h⟩
  have hsa : [a] ∈ d_all := d_reps a ha7 1 (by omega) ha1
  have hsb : [b] ∈ d_all := d_reps b hb7 1 (by omega) hb1
  obtain ⟨E, e1, e2, e3⟩ := u_ends (a6 := a6) h ha1 hb1 hP hab hba hsa hsb (d_tu_ab h hab)
  refine ⟨E, e1, e2, fun y => ?_⟩
  rw [e3]
  rcases hgl with ⟨rfl, rfl⟩ | ⟨rfl, rfl⟩
  · exact ⟨fun q => u_fin1 hlt q, fun ⟨Q, q1, q2⟩ => by rw [q2]; exact u_fin2 hlt q1⟩
  · exact ⟨fun q => u_fin1 hlt (u_E_comm q), fun ⟨Q, q1, q2⟩ => by rw [q2]; exact u_E_comm (u_fin2 hlt q1)⟩
