def u_B (gr le : Nat) (P Q : GP) : Prop := if (g_two P gr le || g_two P le gr) = true then ((∃ w, g_A P gr w ∧ ∃ v, g_A (g_st P gr w) le v ∧ Q = g_st (g_st P gr w) le v) ∨ (∃ w, g_A P le w ∧ ∃ v, g_A (g_st P le w) gr v ∧ Q = g_st (g_st P le w) gr v)) else if g_any P gr = true then ∃ w, g_A P gr w ∧ Q = g_st P gr w else if g_any P le = true then ∃ w, g_A P le w ∧ Q = g_st P le w else Q = P
def u_E (a6 : Bool) (a b : Nat) (P : GP) (y : KS) : Prop := ((∀ w, ¬ u_Al P a b w) ∧ (∀ w, ¬ u_Al P b a w) ∧ y = s_of (P, [])) ∨ (∃ x, (u_one P a b x ∨ u_one P b a x) ∧ c_sc a6 x.2 x.1 = [] ∧ y = s_of (x.1, [])) ∨ (∃ x, (u_two P a b x ∨ u_two P b a x) ∧ y = s_of (x.1, []))
theorem u_E_comm {a6 : Bool} {a b : Nat} {P : GP} {y : KS} (h : u_E a6 a b P y) : u_E a6 b a P y := by
  rcases h with ⟨h1, h2, h3⟩ | ⟨x, h1, h2, h3⟩ | ⟨x, h1, h2⟩
  · exact Or.inl ⟨h2, h1, h3⟩
  · exact Or.inr (Or.inl ⟨x, h1.symm, h2, h3⟩)
  · exact Or.inr (Or.inr ⟨x, h1.symm, h2⟩)
theorem u_sc1_nil {a6 : Bool} {o : Nat} {Q : GP} : c_sc a6 [o] Q = [] ↔ ∀ v, ¬ g_A Q o v := by
  constructor
  · intro h v hv
    have := (u_sc1 (a6 := a6) (y := s_of (g_st Q o v, []))).mpr ⟨v, hv, rfl⟩
    rw [h] at this; cases this
  · intro h
    apply List.eq_nil_iff_forall_not_mem.mpr
    intro y hy
    obtain ⟨v, hv, -⟩ := u_sc1.mp hy
    exact h v hv
theorem u_sc_nil {a6 : Bool} {a b : Nat} {P : GP} (h : a ≠ b) : c_sc a6 [a, b] P = [] ↔ (∀ w, ¬ u_Al P a b w) ∧ (∀ w, ¬ u_Al P b a w) := by
  constructor
  · intro hn
    have h1 : ∀ w, ¬ u_Al P a b w := fun w hw => by
      have := (u_sc (a6 := a6) (y := s_of (g_st P a w, [b])) h).mpr (Or.inl ⟨w, hw, rfl⟩)
      rw [hn] at this; cases this
    refine ⟨h1, fun w hw => ?_⟩
    have := (u_sc (a6 := a6) (y := s_of (g_st P b w, [a])) h).mpr (Or.inr ⟨⟨w, hw, rfl⟩, fun _ => h1⟩)
    rw [hn] at this; cases this
  · rintro ⟨h1, h2⟩
    apply List.eq_nil_iff_forall_not_mem.mpr
    intro y hy
    rcases (u_sc h).mp hy with ⟨w, hw, -⟩ | ⟨⟨w, hw, -⟩, -⟩
    · exact h1 w hw
    · exact h2 w hw
theorem u_fin1 {a6 : Bool} {gr le : Nat} {P : GP} {y : KS} (hlt : le < gr) (h : u_E a6 gr le P y) : ∃ Q, u_B gr le P Q ∧ y = s_of (Q, []) := by
  have two_no : ∀ d o w v, g_A P d w → g_A (g_st P d w) o v → g_two P d o = true := fun d o w v h1 h2 => g_two_iff.mpr ⟨w, h1, g_any_iff.mpr ⟨v, h2⟩⟩
  unfold u_B
  cases ht : (g_two P gr le || g_two P le gr)
  · have ht2 : (g_two P le gr || g_two P gr le) = false := by rw [Bool.or_comm]; exact ht
    rw [Bool.or_eq_false_iff] at ht
    rcases h with ⟨h1, h2, h3⟩ | ⟨x, h1, h2, h3⟩ | ⟨x, h1, h2⟩
    · have n1 : g_any P gr = false := g_any_not.mpr (fun w hw => h1 w ⟨hw, (fun q => by rw [ht.1, ht.2] at q; cases q), fun _ q => by omega⟩)
      have n2 : g_any P le = false := g_any_not.mpr (fun w hw => h2 w ⟨hw, (fun q => by rw [ht.1, ht.2] at q; cases q), fun _ q => by rw [n1] at q; cases q.2⟩)
      refine ⟨P, ?_, h3⟩
      rw [if_neg (show ¬ false = true by decide), n1, n2, if_neg (show ¬ false = true by decide), if_neg (show ¬ false = true by decide)]
    · rcases h1 with ⟨w, hw, rfl⟩ | ⟨w, hw, rfl⟩
      · refine ⟨g_st P gr w, ?_, h3⟩
        rw [if_neg (show ¬ false = true by decide), if_pos (g_any_iff.mpr ⟨w, hw.1⟩)]
        exact ⟨w, hw.1, rfl⟩
      · have n1 : g_any P gr = false := by
          cases hq : g_any P gr
          · rfl
          · exact absurd ⟨hlt, hq⟩ (hw.2.2 ht2)
        refine ⟨g_st P le w, ?_, h3⟩
        rw [if_neg (show ¬ false = true by decide), n1, if_neg (show ¬ false = true by decide), if_pos (g_any_iff.mpr ⟨w, hw.1⟩)]
        exact ⟨w, hw.1, rfl⟩
    · rcases h1 with ⟨w, hw, v, hv, rfl⟩ | ⟨w, hw, v, hv, rfl⟩
      · have := two_no gr le w v hw.1 hv
        rw [ht.1] at this; cases this
      · have := two_no le gr w v hw.1 hv
        rw [ht.2] at this; cases this
  · have ht2 : (g_two P le gr || g_two P gr le) = true := by rw [Bool.or_comm]; exact ht
    rcases h with ⟨h1, h2, h3⟩ | ⟨x, h1, h2, h3⟩ | ⟨x, h1, h2⟩
    · exfalso
      rw [Bool.or_eq_true] at ht
      rcases ht with q | q
      · obtain ⟨w, w1, w2⟩ := g_two_iff.mp q
        exact h1 w ⟨w1, fun _ => w2, fun z => by rw [q] at z; cases z⟩
      · obtain ⟨w, w1, w2⟩ := g_two_iff.mp q
        exact h2 w ⟨w1, fun _ => w2, fun z => by rw [q] at z; cases z⟩
    · exfalso
      rcases h1 with ⟨w, hw, rfl⟩ | ⟨w, hw, rfl⟩
      · obtain ⟨v, hv⟩ := g_any_iff.mp (hw.2.1 ht)
        exact u_sc1_nil.mp h2 v hv
      · obtain ⟨v, hv⟩ := g_any_iff.mp (hw.2.1 ht2)
        exact u_sc1_nil.mp h2 v hv
    · rcases h1 with ⟨w, hw, v, hv, rfl⟩ | ⟨w, hw, v, hv, rfl⟩
      · refine ⟨_, ?_, h2⟩
        rw [if_pos rfl]
        exact Or.inl ⟨w, hw.1, v, hv, rfl⟩
      · refine ⟨_, ?_, h2⟩
        rw [if_pos rfl]
        exact Or.inr ⟨w, hw.1, v, hv, rfl⟩
theorem u_fin2 {a6 : Bool} {gr le : Nat} {P Q : GP} (hlt : le < gr) (h : u_B gr le P Q) : u_E a6 gr le P (s_of (Q, [])) := by
  have two_no : ∀ d o w v, g_A P d w → g_A (g_st P d w) o v → g_two P d o = true := fun d o w v h1 h2 => g_two_iff.mpr ⟨w, h1, g_any_iff.mpr ⟨v, h2⟩⟩
  unfold u_B at h
  cases ht : (g_two P gr le || g_two P le gr)
  · have ht2 : (g_two P le gr || g_two P gr le) = false := by rw [Bool.or_comm]; exact ht
    rw [ht, if_neg (show ¬ false = true by decide)] at h
    rw [Bool.or_eq_false_iff] at ht
    have ht0 : (g_two P gr le || g_two P le gr) = false := by rw [ht.1, ht.2]; rfl
    by_cases n1 : g_any P gr = true
    · rw [if_pos n1] at h
      obtain ⟨w, hw, rfl⟩ := h
      refine Or.inr (Or.inl ⟨(g_st P gr w, [le]), Or.inl ⟨w, ⟨hw, (fun q => by rw [ht0] at q; cases q), fun _ q => by omega⟩, rfl⟩, u_sc1_nil.mpr (fun v hv => ?_), rfl⟩)
      have := two_no gr le w v hw hv
      rw [ht.1] at this; cases this
    · rw [if_neg n1] at h
      by_cases n2 : g_any P le = true
      · rw [if_pos n2] at h
        obtain ⟨w, hw, rfl⟩ := h
        refine Or.inr (Or.inl ⟨(g_st P le w, [gr]), Or.inr ⟨w, ⟨hw, (fun q => by rw [ht2] at q; cases q), fun _ q => n1 q.2⟩, rfl⟩, u_sc1_nil.mpr (fun v hv => ?_), rfl⟩)
        have := two_no le gr w v hw hv
        rw [ht.2] at this; cases this
      · rw [if_neg n2] at h
        rw [h]
        exact Or.inl ⟨fun w hw => n1 (g_any_iff.mpr ⟨w, hw.1⟩), fun w hw => n2 (g_any_iff.mpr ⟨w, hw.1⟩), rfl⟩
  · have ht2 : (g_two P le gr || g_two P gr le) = true := by rw [Bool.or_comm]; exact ht
    rw [ht, if_pos rfl] at h
    rcases h with ⟨w, hw, v, hv, rfl⟩ | ⟨w, hw, v, hv, rfl⟩
    · exact Or.inr (Or.inr ⟨(g_st (g_st P gr w) le v, []), Or.inl ⟨w, ⟨hw, fun _ => g_any_iff.mpr ⟨v, hv⟩, fun q => by rw [ht] at q; cases q⟩, v, hv, rfl⟩, rfl⟩)
    · exact Or.inr (Or.inr ⟨(g_st (g_st P le w) gr v, []), Or.inr ⟨w, ⟨hw, fun _ => g_any_iff.mpr ⟨v, hv⟩, fun q => by rw [ht2] at q; cases q⟩, v, hv, rfl⟩, rfl⟩)
theorem u_ends {a6 : Bool} {a b : Nat} {P : GP} (h : a ≠ b) (ha1 : 1 ≤ a) (hb1 : 1 ≤ b) (hP : g_ok P) (hab : [a, b] ∈ d_all) (hba : [b, a] ∈ d_all) (ha : [a] ∈ d_all) (hb : [b] ∈ d_all) (htu : mX0_turned (d_I [a, b]) = some (d_I [b, a])) : ∃ E : List KS, pE (b_L P.1) (b_L P.2) (d_I [a, b]) a6 = some (nI E.length) ∧ E.Nodup ∧ ∀ y, y ∈ E ↔ u_E a6 a b P y := by
  have h1 := u_St1 (a6 := a6) h hP hab hba ha hb
  have h2 := u_St2 (a6 := a6) h hP hab hba ha hb
  have h3 := u_St3 (a6 := a6) h hP hab hba ha hb
  have l1 := u_C1_len (P := P) (t := [b]) ha1 hP
  have l2 := u_C1_len (P := P) (t := [a]) hb1 hP
  have l1' := u_C1_len (P := P) (t := []) ha1 hP
  have l2' := u_C1_len (P := P) (t := []) hb1 hP
  have l3 := u_C2_len (P := P) ha1 hb1 hP
  have l4 := u_C2_len (P := P) hb1 ha1 hP
  have hcap : s_cap a6 (u_S0 a6 P a b) (fun k => match k with
      | 0 => [s_of (P, [a, b]), s_of (P, [b, a])]
      | 1 => u_C1 P a [b] ++ u_C1 P b [a]
      | 2 => u_C2 P a b ++ u_C2 P b a
      | _ => []) ([s_of (P, [])] ++ (u_C1 P a [] ++ u_C1 P b []) ++ (u_C2 P a b ++ u_C2 P b a)) := by
    refine ⟨fun k hk => ?_, ?_, fun k x hk hx => ?_, fun k x hk hx hc => ?_⟩
    · rcases (show k = 0 ∨ k = 1 ∨ k = 2 ∨ ∃ m, k = m + 3 from by
        rcases (show k = 0 ∨ k = 1 ∨ k = 2 ∨ 3 ≤ k by omega) with q | q | q | q
        · exact Or.inl q
        · exact Or.inr (Or.inl q)
        · exact Or.inr (Or.inr (Or.inl q))
        · exact Or.inr (Or.inr (Or.inr ⟨k - 3, by omega⟩))) with rfl | rfl | rfl | ⟨m, rfl⟩
      · show 2 ≤ 128; omega
      · show (u_C1 P a [b] ++ u_C1 P b [a]).length ≤ 128
        rw [List.length_append]; omega
      · show (u_C2 P a b ++ u_C2 P b a).length ≤ 128
        rw [List.length_append]; omega
      · exact Nat.zero_le _
    · rw [List.length_append, List.length_append, List.length_append, List.length_append]
      show 1 + _ + _ ≤ 128
      omega
    · rcases (show k = 0 ∨ k = 1 ∨ k = 2 ∨ 3 ≤ k by omega) with rfl | rfl | rfl | q
      · rcases hx.1 with rfl | ⟨-, rfl⟩
        · exact List.mem_cons_self ..
        · exact List.mem_cons_of_mem _ (List.mem_cons_self ..)
      · rcases (h1 x).mp hx with q | q
        · have hx2 : x = (x.1, [b]) := by obtain ⟨w, -, rfl⟩ := q; rfl
          rw [hx2]; exact List.mem_append_left _ (u_one_C q)
        · have hx2 : x = (x.1, [a]) := by obtain ⟨w, -, rfl⟩ := q; rfl
          rw [hx2]; exact List.mem_append_right _ (u_one_C q)
      · rcases (h2 x).mp hx with q | q
        · have hx2 : x = (x.1, []) := by obtain ⟨w, -, v, -, rfl⟩ := q; rfl
          rw [hx2]; exact List.mem_append_left _ (u_two_C q)
        · have hx2 : x = (x.1, []) := by obtain ⟨w, -, v, -, rfl⟩ := q; rfl
          rw [hx2]; exact List.mem_append_right _ (u_two_C q)
      · obtain ⟨m, rfl⟩ : ∃ m, k = m + 3 := ⟨k - 3, by omega⟩
        exact absurd hx (h3 m x)
    · rcases (show k = 0 ∨ k = 1 ∨ k = 2 ∨ 3 ≤ k by omega) with rfl | rfl | rfl | q
      · apply List.mem_append_left
        apply List.mem_append_left
        rcases hx.1 with rfl | ⟨-, rfl⟩
        · exact List.mem_cons_self ..
        · exact List.mem_cons_self ..
      · apply List.mem_append_left
        apply List.mem_append_right
        rcases (h1 x).mp hx with q | q
        · exact List.mem_append_left _ (u_one_C q)
        · exact List.mem_append_right _ (u_one_C q)
      · apply List.mem_append_right
        rcases (h2 x).mp hx with q | q
        · exact List.mem_append_left _ (u_two_C q)
        · exact List.mem_append_right _ (u_two_C q)
      · obtain ⟨m, rfl⟩ : ∃ m, k = m + 3 := ⟨k - 3, by omega⟩
        exact absurd hx (h3 m x)
  obtain ⟨E, e1, e2, e3⟩ := c_ends (a6 := a6) (x0 := (P, [a, b])) ⟨hP, hab⟩ hba htu (S0 := u_S0 a6 P a b) (fun x => Iff.rfl) hcap
  refine ⟨E, e1, e2, fun y => ?_⟩
  rw [e3]
  constructor
  · rintro ⟨k, x, k1, k2, k3, k4⟩
    rcases (show k = 0 ∨ k = 1 ∨ k = 2 ∨ 3 ≤ k by omega) with rfl | rfl | rfl | q
    · rcases k2.1 with rfl | ⟨-, rfl⟩
      · have := (u_sc_nil h).mp k3
        exact Or.inl ⟨this.1, this.2, k4⟩
      · have := (u_sc_nil (Ne.symm h)).mp k3
        exact Or.inl ⟨this.2, this.1, k4⟩
    · exact Or.inr (Or.inl ⟨x, (h1 x).mp k2, k3, k4⟩)
    · exact Or.inr (Or.inr ⟨x, (h2 x).mp k2, k4⟩)
    · obtain ⟨m, rfl⟩ : ∃ m, k = m + 3 := ⟨k - 3, by omega⟩
      exact absurd k2 (h3 m x)
  · rintro (⟨q1, q2, q3⟩ | ⟨x, q1, q2, q3⟩ | ⟨x, q1, q2⟩)
    · exact ⟨0, (P, [a, b]), by omega, ⟨Or.inl rfl, hP, hab⟩, (u_sc_nil h).mpr ⟨q1, q2⟩, q3⟩
    · exact ⟨1, x, by omega, (h1 x).mpr q1, q2, q3⟩
    · refine ⟨2, x, by omega, (h2 x).mpr q1, ?_, q2⟩
      have : x.2 = [] := by rcases q1 with ⟨w, -, v, -, rfl⟩ | ⟨w, -, v, -, rfl⟩ <;> rfl
      rw [this]; exact c_sc_0 rfl
