/-! how many plays there are: as many told by orders, from 1 to 128, one where nothing goes; no matter which die comes first -/
theorem g_lv_ex {d : Nat} (hd : 1 ≤ d) : ∀ (n : Nat) (P : GP), ∃ Q, Q ∈ g_lv d (g_rl d n P) P
  | 0, P => ⟨P, List.mem_singleton.mpr rfl⟩
  | n + 1, P => by
    by_cases h : ∃ w, g_A P d w
    · obtain ⟨w, hw⟩ := h
      obtain ⟨Q, hQ⟩ := g_lv_ex hd n (g_st P d w)
      refine ⟨Q, ?_⟩
      rw [g_rl_step hd hw, Nat.add_comm]
      exact g_lv_S.mpr ⟨w, hw, hQ⟩
    · rw [g_rl_none (fun w hw => h ⟨w, hw⟩)]
      exact ⟨P, List.mem_singleton.mpr rfl⟩
def n_is (P : GP) (ds : List Nat) (N : Nat) : Prop := (∀ a6, pE (b_L P.1) (b_L P.2) (d_I ds) a6 = some (nI N)) ∧ 1 ≤ N ∧ N ≤ 128 ∧ (g_R ds P = 0 → N = 1)
theorem n_of {P : GP} {ds : List Nat} {B : GP → Prop} {C : List KS} (hC : C.length ≤ 128) (hBC : ∀ Q, B Q → s_of (Q, []) ∈ C) (hex : ∃ Q, B Q) (h0 : g_R ds P = 0 → ∀ Q, B Q ↔ Q = P) (hE : ∀ a6, ∃ E : List KS, pE (b_L P.1) (b_L P.2) (d_I ds) a6 = some (nI E.length) ∧ E.Nodup ∧ ∀ y, y ∈ E ↔ ∃ Q, B Q ∧ y = s_of (Q, [])) : ∃ N, n_is P ds N := by
  obtain ⟨E, e1, e2, e3⟩ := hE false
  refine ⟨E.length, fun a6 => ?_, ?_, ?_, fun h => cnt_one (h0 h) e2 e3⟩
  · obtain ⟨E', f1, f2, f3⟩ := hE a6
    rw [f1, l_eq f2 e2 (fun y => (f3 y).trans (e3 y).symm)]
  · obtain ⟨Q, hQ⟩ := hex
    exact List.length_pos_of_mem ((e3 _).mpr ⟨Q, hQ, rfl⟩)
  · refine Nat.le_trans (l_le e2 (fun y hy => ?_)) hC
    obtain ⟨Q, hQ, rfl⟩ := (e3 y).mp hy
    exact hBC Q hQ
theorem n_like {n d : Nat} {P : GP} (hd : 1 ≤ d) (hd7 : d < 7) (hn : n ≤ 4) (hP : g_ok P) : ∃ N, n_is P (List.replicate n d) N := by
  have hr : g_rl d n P ≤ n := g_rl_leN
  refine n_of (B := fun Q => Q ∈ g_lv d (g_rl d n P) P) (C := (g_cn d (g_rl d n P) 17 P).map (fun Q => s_of (Q, []))) ?_ (fun Q hQ => List.mem_map.mpr ⟨Q, g_lv_cn hd _ P Q hQ, rfl⟩) (g_lv_ex hd n P) (fun h Q => ?_) (fun a6 => ends_like hd hn (fun k hk => d_reps d hd7 k (by omega) hd) (d_tu_rep hd hd7 hn) hP)
  · have h1 := g_cn_126 (j := g_rl d n P) hd (by omega) hP
    have h2 := c_N_6 (g_rl d n P) (by omega)
    rw [List.length_map]; omega
  · rw [g_R_like (by omega)] at h
    rw [h]; exact List.mem_singleton
theorem u_B_ex {gr le : Nat} {P : GP} : ∃ Q, u_B gr le P Q := by
  unfold u_B
  by_cases c : (g_two P gr le || g_two P le gr) = true
  · simp only [if_pos c]
    rcases Bool.or_eq_true _ _ ▸ c with c | c
    · obtain ⟨w, h1, h2⟩ := g_two_iff.mp c
      obtain ⟨v, h3⟩ := g_any_iff.mp h2
      exact ⟨_, Or.inl ⟨w, h1, v, h3, rfl⟩⟩
    · obtain ⟨w, h1, h2⟩ := g_two_iff.mp c
      obtain ⟨v, h3⟩ := g_any_iff.mp h2
      exact ⟨_, Or.inr ⟨w, h1, v, h3, rfl⟩⟩
  · simp only [if_neg c]
    by_cases c2 : g_any P gr = true
    · simp only [if_pos c2]
      obtain ⟨w, h1⟩ := g_any_iff.mp c2
      exact ⟨_, w, h1, rfl⟩
    · simp only [if_neg c2]
      by_cases c3 : g_any P le = true
      · simp only [if_pos c3]
        obtain ⟨w, h1⟩ := g_any_iff.mp c3
        exact ⟨_, w, h1, rfl⟩
      · simp only [if_neg c3]
        exact ⟨P, rfl⟩
theorem u_B_0 {gr le : Nat} {P : GP} (h : gr ≠ le) (h0 : g_R [gr, le] P = 0) (Q : GP) : u_B gr le P Q ↔ Q = P := by
  rw [g_R_two h] at h0
  unfold u_B
  by_cases c : (g_two P gr le || g_two P le gr) = true
  · rw [if_pos c] at h0; omega
  · rw [if_neg c] at h0 ⊢
    by_cases c2 : (g_any P gr || g_any P le) = true
    · rw [if_pos c2] at h0; omega
    · have c3 : ¬ g_any P gr = true := fun q => c2 (by rw [q]; rfl)
      have c4 : ¬ g_any P le = true := fun q => c2 (by rw [q]; exact Bool.or_true _)
      rw [if_neg c3, if_neg c4]
theorem u_B_in {gr le : Nat} {P Q : GP} (h : u_B gr le P Q) : s_of (Q, []) ∈ [s_of (P, [])] ++ (u_C1 P gr [] ++ u_C1 P le []) ++ (u_C2 P gr le ++ u_C2 P le gr) := by
  have one : ∀ {d w : Nat}, g_A P d w → s_of (g_st P d w, []) ∈ u_C1 P d [] := fun {d w} hw => List.mem_map.mpr ⟨g_st P d w, g_cn_1 hw, rfl⟩
  have two : ∀ {d o w v : Nat}, g_A P d w → g_A (g_st P d w) o v → s_of (g_st (g_st P d w) o v, []) ∈ u_C2 P d o := fun {d o w v} hw hv => List.mem_flatMap.mpr ⟨g_st P d w, g_cn_1 hw, List.mem_map.mpr ⟨_, g_cn_1 hv, rfl⟩⟩
  unfold u_B at h
  split at h
  · rcases h with ⟨w, h1, v, h2, rfl⟩ | ⟨w, h1, v, h2, rfl⟩
    · exact List.mem_append_right _ (List.mem_append_left _ (two h1 h2))
    · exact List.mem_append_right _ (List.mem_append_right _ (two h1 h2))
  · split at h
    · obtain ⟨w, h1, rfl⟩ := h
      exact List.mem_append_left _ (List.mem_append_right _ (List.mem_append_left _ (one h1)))
    · split at h
      · obtain ⟨w, h1, rfl⟩ := h
        exact List.mem_append_left _ (List.mem_append_right _ (List.mem_append_right _ (one h1)))
      · rw [h]
        exact List.mem_append_left _ (List.mem_append_left _ (List.mem_singleton.mpr rfl))
theorem g_R_sym {a b : Nat} {P : GP} (h : a ≠ b) : g_R [a, b] P = g_R [b, a] P := by
  rw [g_R_two h, g_R_two (Ne.symm h), Bool.or_comm (g_two P a b), Bool.or_comm (g_any P a)]
theorem n_un {a b : Nat} {P : GP} (h : a ≠ b) (ha1 : 1 ≤ a) (ha7 : a < 7) (hb1 : 1 ≤ b) (hb7 : b < 7) (hP : g_ok P) : ∃ N, n_is P [a, b] N ∧ n_is P [b, a] N := by
  obtain ⟨gr, le, hlt, hgl⟩ : ∃ gr le, le < gr ∧ ((gr = a ∧ le = b) ∨ (gr = b ∧ le = a)) := by
    rcases Nat.lt_or_ge b a with q | q
    · exact ⟨a, b, q, Or.inl ⟨rfl, rfl⟩⟩
    · exact ⟨b, a, by omega, Or.inr ⟨rfl, rfl⟩⟩
  have hg : 1 ≤ gr ∧ 1 ≤ le := by omega
  have hR : ∀ ds, ds = [a, b] ∨ ds = [b, a] → g_R ds P = g_R [gr, le] P := by
    intro ds hds
    rcases hgl with ⟨rfl, rfl⟩ | ⟨rfl, rfl⟩ <;> rcases hds with rfl | rfl
    · rfl
    · exact g_R_sym (Ne.symm h)
    · exact g_R_sym h
    · rfl
  have l1' := u_C1_len (P := P) (t := []) hg.1 hP
  have l2' := u_C1_len (P := P) (t := []) hg.2 hP
  have l3 := u_C2_len (P := P) hg.1 hg.2 hP
  have l4 := u_C2_len (P := P) hg.2 hg.1 hP
  have hC : ([s_of (P, [])] ++ (u_C1 P gr [] ++ u_C1 P le []) ++ (u_C2 P gr le ++ u_C2 P le gr)).length ≤ 128 := by
    rw [List.length_append, List.length_append, List.length_append, List.length_append]
    show 1 + _ + _ ≤ 128
    omega
  have hE1 : ∀ a6, ∃ E : List KS, pE (b_L P.1) (b_L P.2) (d_I [a, b]) a6 = some (nI E.length) ∧ E.Nodup ∧ ∀ y, y ∈ E ↔ ∃ Q, u_B gr le P Q ∧ y = s_of (Q, []) := fun a6 => u_class h ha1 ha7 hb1 hb7 hP hlt hgl
  have hE2 : ∀ a6, ∃ E : List KS, pE (b_L P.1) (b_L P.2) (d_I [b, a]) a6 = some (nI E.length) ∧ E.Nodup ∧ ∀ y, y ∈ E ↔ ∃ Q, u_B gr le P Q ∧ y = s_of (Q, []) := fun a6 => u_class (Ne.symm h) hb1 hb7 ha1 ha7 hP hlt hgl.symm
  obtain ⟨N, hN⟩ := n_of (ds := [a, b]) hC (fun Q hQ => u_B_in hQ) u_B_ex (fun h0 => u_B_0 (by omega) (by rw [← hR _ (Or.inl rfl)]; exact h0)) hE1
  refine ⟨N, hN, fun a6 => ?_, hN.2.1, hN.2.2.1, fun h0 => hN.2.2.2 (by rw [g_R_sym h]; exact h0)⟩
  obtain ⟨E, e1, e2, e3⟩ := hE1 false
  obtain ⟨E', f1, f2, f3⟩ := hE2 a6
  have h1 := hN.1 false
  rw [e1] at h1
  rw [f1, l_eq f2 e2 (fun y => (f3 y).trans (e3 y).symm)]
  exact h1
theorem n_all {ds : List Nat} {P : GP} (hds : ds ∈ d_all) (hP : g_ok P) : ∃ N, n_is P ds N := by
  rcases d_cases ds hds with ⟨hrep, h4, hd1, hd7⟩ | ⟨hab, hne, ha1, ha7, hb1, hb7⟩
  · rw [hrep]; exact n_like hd1 hd7 h4 hP
  · rw [hab]
    obtain ⟨N, h1, -⟩ := n_un hne ha1 ha7 hb1 hb7 hP
    exact ⟨N, h1⟩
theorem n_rol {a b : Nat} {P : GP} (ha1 : 1 ≤ a) (ha7 : a < 7) (hb1 : 1 ≤ b) (hb7 : b < 7) (hP : g_ok P) : ∃ N, n_is P (d_rol a b) N ∧ n_is P (d_rol b a) N := by
  unfold d_rol
  by_cases h : a = b
  · subst h
    rw [if_pos rfl]
    obtain ⟨N, hN⟩ := n_like (n := 4) (d := a) ha1 ha7 (Nat.le_refl _) hP
    exact ⟨N, hN, hN⟩
  · rw [if_neg h, if_neg (Ne.symm h)]
    exact n_un h ha1 ha7 hb1 hb7 hP
/-! is a step possible, the reach behind it -/
theorem R_pos {ds : List Nat} {P : GP} (hds : ds ∈ d_all) (hR : 0 < g_R ds P) : ∃ d w, d ∈ ds ∧ 1 ≤ w ∧ w ≤ 17 ∧ g_re ds P d w = 0 := by
  rcases d_cases ds hds with ⟨hrep, h4, hd1, hd7⟩ | ⟨hab, hne, ha1, ha7, hb1, hb7⟩
  · generalize ds.length = n at hrep h4
    generalize ds.getD 0 1 = d at hrep hd1 hd7
    subst hrep
    rw [g_R_like (by omega)] at hR
    obtain ⟨w, hw⟩ := g_rl_pos hR
    cases n with
    | zero => exact absurd hR (by show ¬ 0 < 0; omega)
    | succ m => exact ⟨d, w, List.mem_replicate.mpr ⟨by omega, rfl⟩, hw.1, hw.2.1, (g_re_rep (by omega)).mpr hw.2.2⟩
  · generalize ds.getD 0 0 = a at hab hne ha1 ha7
    generalize ds.getD 1 0 = b at hab hne hb1 hb7
    subst hab
    have go : ∀ {x y w : Nat}, (x = a ∧ y = b) ∨ (x = b ∧ y = a) → u_Al P x y w → ∃ d w, d ∈ [a, b] ∧ 1 ≤ w ∧ w ≤ 17 ∧ g_re [a, b] P d w = 0 := by
      intro x y w hxy hu
      rcases hxy with ⟨rfl, rfl⟩ | ⟨rfl, rfl⟩
      · exact ⟨x, w, List.mem_cons_self, hu.1.1, hu.1.2.1, (u_re hne hu.1.1 hu.1.2.1).1.mpr hu⟩
      · exact ⟨x, w, List.mem_cons_of_mem _ List.mem_cons_self, hu.1.1, hu.1.2.1, (u_re hne hu.1.1 hu.1.2.1).2.mpr hu⟩
    rw [g_R_two hne] at hR
    by_cases c : (g_two P a b || g_two P b a) = true
    · rcases Bool.or_eq_true _ _ ▸ c with q | q
      · obtain ⟨w, h1, h2⟩ := g_two_iff.mp q
        exact go (Or.inl ⟨rfl, rfl⟩) ⟨h1, fun _ => h2, fun h => by rw [h] at c; cases c⟩
      · obtain ⟨w, h1, h2⟩ := g_two_iff.mp q
        exact go (Or.inr ⟨rfl, rfl⟩) ⟨h1, fun _ => h2, fun h => by rw [Bool.or_comm, h] at c; cases c⟩
    · have c' : (g_two P a b || g_two P b a) = false := by
        cases q : (g_two P a b || g_two P b a)
        · rfl
        · exact absurd q c
      have c'' : (g_two P b a || g_two P a b) = false := by rw [Bool.or_comm]; exact c'
      rw [if_neg c] at hR
      have hany : (g_any P a || g_any P b) = true := by
        cases q : (g_any P a || g_any P b)
        · rw [q, if_neg (fun h => by cases h)] at hR; omega
        · rfl
      have big : ∀ {x y : Nat}, (x = a ∧ y = b) ∨ (x = b ∧ y = a) → (g_any P x = true) → (¬ (x < y ∧ g_any P y = true)) → ∃ d w, d ∈ [a, b] ∧ 1 ≤ w ∧ w ≤ 17 ∧ g_re [a, b] P d w = 0 := by
        intro x y hxy h1 h2
        obtain ⟨w, hw⟩ := g_any_iff.mp h1
        refine go hxy ⟨hw, fun h => ?_, fun _ => h2⟩
        rcases hxy with ⟨rfl, rfl⟩ | ⟨rfl, rfl⟩
        · rw [c'] at h; cases h
        · rw [c''] at h; cases h
      cases qa : g_any P a
      · rw [qa, Bool.false_or] at hany
        exact big (Or.inr ⟨rfl, rfl⟩) hany (fun h => by rw [qa] at h; cases h.2)
      · cases qb : g_any P b
        · exact big (Or.inl ⟨rfl, rfl⟩) qa (fun h => by rw [qb] at h; cases h.2)
        · rcases Nat.lt_or_ge a b with q | q
          · exact big (Or.inr ⟨rfl, rfl⟩) qb (fun h => by omega)
          · exact big (Or.inl ⟨rfl, rfl⟩) qa (fun h => by omega)
theorem d_kin : ∀ ds ∈ d_all, ∀ d ∈ ds, d ∈ d_ks ds := by decide +kernel
theorem R_step {ds : List Nat} {P : GP} {d w : Nat} (hds : ds ∈ d_all) (hw1 : 1 ≤ w) (hw : w ≤ 17) (h : g_re ds P d w = 0) : g_R ds P = g_R (ds.erase d) (g_st P d w) + 1 := by
  obtain ⟨hd, hA⟩ := g_re_A hw1 hw h
  rcases d_cases ds hds with ⟨hrep, h4, hd1, hd7⟩ | ⟨hab, hne, ha1, ha7, hb1, hb7⟩
  · generalize ds.length = n at hrep h4
    generalize ds.getD 0 1 = e at hrep hd1 hd7
    subst hrep
    obtain rfl : d = e := List.eq_of_mem_replicate hd
    cases n with
    | zero => cases hd
    | succ m =>
      rw [g_er_rep, g_R_like (by omega), g_R_like (by omega), g_rl_step hd1 hA, Nat.add_comm]
  · generalize ds.getD 0 0 = a at hab hne ha1 ha7
    generalize ds.getD 1 0 = b at hab hne hb1 hb7
    subst hab
    have go : ∀ {o : Nat}, u_Al P d o w → (d = a ∧ o = b) ∨ (d = b ∧ o = a) → g_R [a, b] P = g_R [o] (g_st P d w) + 1 := by
      intro o hu hdo
      have hR : g_R [a, b] P = if (g_two P d o || g_two P o d) = true then 2 else if (g_any P d || g_any P o) = true then 1 else 0 := by
        rcases hdo with ⟨rfl, rfl⟩ | ⟨rfl, rfl⟩
        · exact g_R_two hne
        · rw [g_R_sym hne]; exact g_R_two (Ne.symm hne)
      rw [hR, g_R_one]
      cases c : (g_two P d o || g_two P o d)
      · have hn : ¬ g_any (g_st P d w) o = true := fun q => by
          rw [g_two_iff.mpr ⟨w, hA, q⟩] at c; cases c
        rw [if_neg (fun h => by cases h), if_neg hn, if_pos (by rw [g_any_iff.mpr ⟨w, hA⟩]; rfl)]
      · rw [if_pos rfl, if_pos (hu.2.1 c)]
    have hmem : d = a ∨ d = b := by
      rcases List.mem_cons.mp hd with e | e
      · exact Or.inl e
      · exact Or.inr (List.mem_singleton.mp e)
    rcases hmem with rfl | rfl
    · rw [g_er1]; exact go ((u_re hne hw1 hw).1.mp h) (Or.inl ⟨rfl, rfl⟩)
    · rw [g_er2 hne]; exact go ((u_re hne hw1 hw).2.mp h) (Or.inr ⟨rfl, rfl⟩)
theorem g_sum_z {F : Nat → Nat} : ∀ {n a : Nat}, g_sum F a n = 0 → ∀ i, a ≤ i → i < a + n → F i = 0
  | 0, a, _, i, h1, h2 => by omega
  | n + 1, a, h, i, h1, h2 => by
    have h : F a + g_sum F (a + 1) n = 0 := h
    rcases Nat.eq_or_lt_of_le h1 with q | q
    · subst q; omega
    · exact g_sum_z (n := n) (a := a + 1) (by omega) i (by omega) (by omega)
theorem g_sum_z0 {F : Nat → Nat} {n a : Nat} (h : ∀ i, a ≤ i → i < a + n → F i = 0) : g_sum F a n = 0 := by
  rw [g_sum_congr (G := fun _ => 0) h, g_sum_zero]
theorem poss_sum {ds : List Nat} {P : GP} (hds : ds ∈ d_all) : g_poss ds P = g_sum (fun w => g_sum (fun d => g_c0 ds P d w) 1 6) 1 17 := by
  unfold g_poss
  exact g_sum_congr (fun w _ _ => (g_cw_sum hds).symm)
theorem poss_0 {ds : List Nat} {P : GP} (hds : ds ∈ d_all) : g_poss ds P = 0 ↔ g_R ds P = 0 := by
  rw [poss_sum hds]
  constructor
  · intro h
    rcases Nat.eq_zero_or_pos (g_R ds P) with q | q
    · exact q
    · obtain ⟨d, w, h1, h2, h3, h4⟩ := R_pos hds q
      have hr := d_range ds hds d h1
      have h5 := g_sum_z (g_sum_z h w h2 (by omega)) d (by omega) (by omega)
      unfold g_c0 at h5
      rw [if_pos h4] at h5; omega
  · intro h
    refine g_sum_z0 (fun w h1 h2 => g_sum_z0 (fun d h3 h4 => ?_))
    unfold g_c0
    refine if_neg (fun q => ?_)
    have := R_step hds h1 (by omega) q
    omega
