/-! the class and the reference count the same plays -/
theorem l_map_nd {α β γ : Type} {f : α → β} {g : α → γ} : ∀ {Y : List α}, (Y.map f).Nodup → (∀ a ∈ Y, ∀ b ∈ Y, g a = g b → f a = f b) → (Y.map g).Nodup := by
  intro Y
  induction Y with
  | nil => intro _ _; exact List.nodup_nil
  | cons a Y ih =>
    intro h hi
    rw [List.map_cons, List.nodup_cons] at h ⊢
    refine ⟨fun q => ?_, ih h.2 (fun x hx y hy => hi x (List.mem_cons_of_mem _ hx) y (List.mem_cons_of_mem _ hy))⟩
    rw [List.mem_map] at q
    obtain ⟨b, b1, b2⟩ := q
    apply h.1
    rw [List.mem_map]
    exact ⟨b, b1, hi b (List.mem_cons_of_mem _ b1) a (List.mem_cons_self ..) b2⟩
theorem cnt_eq {p : Nat} {B : GP → Prop} (hB : ∀ Q, B Q → g_ok Q) {E : List KS} {M : List KP} (hE : E.Nodup) (hE2 : ∀ y, y ∈ E ↔ ∃ Q, B Q ∧ y = s_of (Q, [])) (hM : M.Nodup) (hM2 : ∀ y, y ∈ M ↔ ∃ Q, B Q ∧ y = r_of p Q) : E.length = M.length := by
  obtain ⟨Y, y1, y2⟩ := l_pre (f := fun Q => s_of (Q, [])) (p := B) (fun y hy => (hE2 y).mp hy)
  have hn : (Y.map (r_of p)).Nodup := l_map_nd (f := fun Q => s_of (Q, [])) (by rw [y1]; exact hE) (fun a ha b hb h => by rw [r_inj (hB a (y2 a ha)) (hB b (y2 b hb)) h])
  have hl : (Y.map (r_of p)).length = M.length := l_eq hn hM (fun y => by
    rw [hM2, List.mem_map]
    constructor
    · rintro ⟨Q, q1, q2⟩; exact ⟨Q, y2 Q q1, q2.symm⟩
    · rintro ⟨Q, q1, q2⟩
      have h5 : s_of (Q, []) ∈ E := (hE2 _).mpr ⟨Q, q1, rfl⟩
      rw [← y1, List.mem_map] at h5
      obtain ⟨Q', w1, w2⟩ := h5
      have h6 : (Q', ([] : List Nat)) = (Q, []) := s_inj ⟨hB Q' (y2 Q' w1), d_nil⟩ ⟨hB Q q1, d_nil⟩ w2
      have h7 : Q' = Q := congrArg Prod.fst h6
      exact ⟨Q', w1, by rw [q2, h7]⟩)
  rw [← hl, ← y1, List.length_map, List.length_map]
theorem cnt_one {B : GP → Prop} {P : GP} (hB : ∀ Q, B Q ↔ Q = P) {E : List KS} (hE : E.Nodup) (hE2 : ∀ y, y ∈ E ↔ ∃ Q, B Q ∧ y = s_of (Q, [])) : E.length = 1 := by
  have := l_eq (l1 := E) (l2 := [s_of (P, [])]) hE (List.nodup_cons.mpr ⟨by simp, List.nodup_nil⟩) (fun y => by
    rw [hE2, List.mem_singleton]
    constructor
    · rintro ⟨Q, q1, q2⟩; rw [q2, (hB Q).mp q1]
    · intro q; exact ⟨P, (hB P).mpr rfl, q⟩)
  exact this
theorem d_cases : ∀ ds ∈ d_all, (ds = List.replicate ds.length (ds.getD 0 1) ∧ ds.length ≤ 4 ∧ 1 ≤ ds.getD 0 1 ∧ ds.getD 0 1 < 7) ∨ (ds = [ds.getD 0 0, ds.getD 1 0] ∧ ds.getD 0 0 ≠ ds.getD 1 0 ∧ 1 ≤ ds.getD 0 0 ∧ ds.getD 0 0 < 7 ∧ 1 ≤ ds.getD 1 0 ∧ ds.getD 1 0 < 7) := by decide +kernel
theorem d_reps : ∀ d, d < 7 → ∀ k, k < 5 → (1 ≤ d → List.replicate k d ∈ d_all) := by decide +kernel
theorem d_abs : ∀ a, a < 7 → ∀ b, b < 7 → (1 ≤ a ∧ 1 ≤ b ∧ a ≠ b → [a, b] ∈ d_all) := by decide +kernel
theorem d_tu_rep {n d : Nat} (hd : 1 ≤ d) (hd7 : d < 7) (hn : n ≤ 4) : mX0_turned (d_I (List.replicate n d)) = some (d_I (List.replicate n d)) := by
  have h := d_turned _ (d_reps d hd7 n (by omega) hd)
  have h2 : ¬ (d_ks (List.replicate n d)).length = 2 := by
    cases n with
    | zero => show ¬ 0 = 2; omega
    | succ n => rw [d_ks_rep]; show ¬ 1 = 2; omega
  rw [if_neg h2] at h; exact h
theorem d_tu_ab {a b : Nat} (h : a ≠ b) (hab : [a, b] ∈ d_all) : mX0_turned (d_I [a, b]) = some (d_I [b, a]) := by
  have h1 := d_turned _ hab
  rw [d_ks_two h, if_pos (show [a, b].length = 2 from rfl)] at h1
  exact h1
theorem u_B_ok {gr le : Nat} {P Q : GP} (hP : g_ok P) (h : u_B gr le P Q) : g_ok Q := by
  unfold u_B at h
  split at h
  · rcases h with ⟨w, h1, v, h2, rfl⟩ | ⟨w, h1, v, h2, rfl⟩
    · exact g_ok_st (g_ok_st hP h1) h2
    · exact g_ok_st (g_ok_st hP h1) h2
  · split at h
    · obtain ⟨w, h1, rfl⟩ := h; exact g_ok_st hP h1
    · split at h
      · obtain ⟨w, h1, rfl⟩ := h; exact g_ok_st hP h1
      · rw [h]; exact hP
theorem u_class {a6 : Bool} {a b gr le : Nat} {P : GP} (h : a ≠ b) (ha1 : 1 ≤ a) (ha7 : a < 7) (hb1 : 1 ≤ b) (hb7 : b < 7) (hP : g_ok P) (hlt : le < gr) (hgl : (gr = a ∧ le = b) ∨ (gr = b ∧ le = a)) : ∃ E : List KS, pE (b_L P.1) (b_L P.2) (d_I [a, b]) a6 = some (nI E.length) ∧ E.Nodup ∧ ∀ y, y ∈ E ↔ ∃ Q, u_B gr le P Q ∧ y = s_of (Q, []) := by
  have hab := d_abs a ha7 b hb7 ⟨ha1, hb1, h⟩
  have hba := d_abs b hb7 a ha7 ⟨hb1, ha1, Ne.symm h⟩
  have hsa : [a] ∈ d_all := d_reps a ha7 1 (by omega) ha1
  have hsb : [b] ∈ d_all := d_reps b hb7 1 (by omega) hb1
  obtain ⟨E, e1, e2, e3⟩ := u_ends (a6 := a6) h ha1 hb1 hP hab hba hsa hsb (d_tu_ab h hab)
  refine ⟨E, e1, e2, fun y => ?_⟩
  rw [e3]
  rcases hgl with ⟨rfl, rfl⟩ | ⟨rfl, rfl⟩
  · exact ⟨fun q => u_fin1 hlt q, fun ⟨Q, q1, q2⟩ => by rw [q2]; exact u_fin2 hlt q1⟩
  · exact ⟨fun q => u_fin1 hlt (u_E_comm q), fun ⟨Q, q1, q2⟩ => by rw [q2]; exact u_E_comm (u_fin2 hlt q1)⟩
def q_cap2 (p : Nat) (P : GP) (d o : Nat) : List KP := (g_cn d 1 17 P).flatMap (fun Q => (g_cn o 1 17 Q).map (r_of p))
theorem q_cap2_len {p : Nat} {P : GP} {d o : Nat} (hd : 1 ≤ d) (ho : 1 ≤ o) (hP : g_ok P) : (q_cap2 p P d o).length ≤ 36 := by
  have h1 : (g_cn d 1 17 P).length ≤ 6 := g_cn_126 (j := 1) hd (by omega) hP
  have h2 : (q_cap2 p P d o).length ≤ (g_cn d 1 17 P).length * 6 := l_fm_len (fun Q hQ => by
    obtain ⟨w, w1, rfl⟩ := g_cn_1' hQ
    rw [List.length_map]
    exact g_cn_126 (j := 1) ho (by omega) (g_ok_st hP w1))
  omega
theorem q_cap2_in {p : Nat} {P : GP} {d o : Nat} {y : KP} (hp : p < 2) (h : y ∈ r_ol2 p P d o 17 0) : y ∈ q_cap2 p P d o := by
  obtain ⟨w, h1, v, h2, rfl⟩ := (r_ol2_all hp).mp h
  exact List.mem_flatMap.mpr ⟨_, g_cn_1 h1, List.mem_map.mpr ⟨_, g_cn_1 h2, rfl⟩⟩
theorem q_cap1_in {p : Nat} {P : GP} {d : Nat} {y : KP} (hp : p < 2) (h : y ∈ r_ol p P d 17 0) : y ∈ (g_cn d 1 17 P).map (r_of p) := by
  obtain ⟨w, h1, rfl⟩ := (r_ol_all hp).mp h
  exact List.mem_map.mpr ⟨_, g_cn_1 h1, rfl⟩
theorem RK_0 {m t : Nat → Int64} {C : List KP} : RK m t 0 C [] := ⟨⟨nI_0.symm, Nat.zero_le _, fun i hi => by cases hi⟩, List.nodup_nil, fun x hx => by cases hx⟩
abbrev R9 := Int32 × (Nat → Int32) × (Nat → Int32) × (Nat → Int32) × (Nat → Int64) × (Nat → Int64) × Int32 × (Nat → Int64) × (Nat → Int64)
theorem r_117 {s aside laid : Nat → Int32} {p d : Nat} {P : GP} {m t f0 f1 : Nat → Int64} (hp : p < 2) (hP : g_ok P) (hB : RB s p P) (h36 : s 36 = nI p) (hd1 : 1 ≤ d) (hd : d < 7) : ∃ (M : List KP) (laid' : Nat → Int32) (m' t' : Nat → Int64) (many' : Int32), mX10_allPlays_117 (nI d) s aside laid m t 0 f0 f1 = some (nI M.length, s, aside, laid', m', t', many', f0, f1) ∧ M.Nodup ∧ ∀ y, y ∈ M ↔ ∃ Q, (∃ w, g_A P d w ∧ Q = g_st P d w) ∧ y = r_of p Q := by
  have hC : ((g_cn d 1 17 P).map (r_of p)).length ≤ 128 := by
    have h1 : (g_cn d 1 17 P).length ≤ 6 := g_cn_126 (j := 1) hd1 (by omega) hP
    rw [List.length_map]; omega
  obtain ⟨l1, m1, t1, many1, e1, k1⟩ := r_addsOne (laid := laid) (m := m) (t := t) hp hP hB h36 hd1 hd hC RK_0 (fun x hx => q_cap1_in hp hx)
  refine ⟨_, l1, m1, t1, many1, ?_, k1.2.1, fun y => ?_⟩
  · unfold mX10_allPlays_117 mX10_allPlays_120
    rw [k_bd5_some e1, k1.1.1]
  · rw [l_ads_mem, r_ol_all hp]
    constructor
    · rintro (q | ⟨w, w1, w2⟩)
      · cases q
      · exact ⟨_, ⟨w, w1, rfl⟩, w2⟩
    · rintro ⟨Q, ⟨w, w1, rfl⟩, w2⟩
      exact Or.inr ⟨w, w1, w2⟩
theorem r_57 {s aside laid : Nat → Int32} {p gr le R : Nat} {P : GP} {m t f0 f1 : Nat → Int64} (hp : p < 2) (hP : g_ok P) (hB : RB s p P) (h36 : s 36 = nI p) (hg1 : 1 ≤ gr) (hg : gr < 7) (hl1 : 1 ≤ le) (hl : le < 7) (hle : s 39 + s 40 - nI gr = nI le) (hR : R = if (g_two P gr le || g_two P le gr) = true then 2 else if (g_any P gr || g_any P le) = true then 1 else 0) (hR0 : R ≠ 0) : ∃ (M : List KP) (laid' : Nat → Int32) (m' t' : Nat → Int64) (many' : Int32), mX10_allPlays_57 (nI gr) (nI R) s aside laid m t 0 f0 f1 = some (nI M.length, s, aside, laid', m', t', many', f0, f1) ∧ M.Nodup ∧ ∀ y, y ∈ M ↔ ∃ Q, u_B gr le P Q ∧ y = r_of p Q := by
  unfold mX10_allPlays_57
  rw [hle]
  cases ht : (g_two P gr le || g_two P le gr)
  · rw [ht, if_neg (show ¬ false = true by decide)] at hR
    have hne : ¬ nI R = (2 : Int32) := fun e => by
      have : R = 2 := (nI_eq (by rw [hR]; split <;> omega) (by omega)).mp (show nI R = nI 2 from e)
      rw [hR] at this
      split at this <;> omega
    rw [if_neg hne, h36, k_bd_some (r_isAny hp hP hB hg1 hg)]
    have huB : ∀ Q, u_B gr le P Q ↔ if g_any P gr = true then ∃ w, g_A P gr w ∧ Q = g_st P gr w else if g_any P le = true then ∃ w, g_A P le w ∧ Q = g_st P le w else Q = P := fun Q => by
      unfold u_B
      rw [ht, if_neg (show ¬ false = true by decide)]
    cases hag : g_any P gr
    · rw [if_pos (show k_b false = 0 from rfl)]
      have hal : g_any P le = true := by
        cases q : g_any P le
        · rw [hag, q] at hR; exact absurd hR hR0
        · rfl
      obtain ⟨M, l1, m1, t1, many1, e1, k1, k2⟩ := r_117 (s := s) (aside := aside) (laid := laid) (m := m) (t := t) (f0 := f0) (f1 := f1) hp hP hB h36 hl1 hl
      refine ⟨M, l1, m1, t1, many1, e1, k1, fun y => ?_⟩
      rw [k2]
      constructor
      · rintro ⟨Q, q1, q2⟩
        refine ⟨Q, (huB Q).mpr ?_, q2⟩
        rw [hag, if_neg (show ¬ false = true by decide), if_pos hal]; exact q1
      · rintro ⟨Q, q1, q2⟩
        have q3 := (huB Q).mp q1
        rw [hag, if_neg (show ¬ false = true by decide), if_pos hal] at q3
        exact ⟨Q, q3, q2⟩
    · rw [if_neg (show ¬ k_b true = 0 by decide)]
      obtain ⟨M, l1, m1, t1, many1, e1, k1, k2⟩ := r_117 (s := s) (aside := aside) (laid := laid) (m := m) (t := t) (f0 := f0) (f1 := f1) hp hP hB h36 hg1 hg
      refine ⟨M, l1, m1, t1, many1, e1, k1, fun y => ?_⟩
      rw [k2]
      constructor
      · rintro ⟨Q, q1, q2⟩
        refine ⟨Q, (huB Q).mpr ?_, q2⟩
        rw [if_pos hag]; exact q1
      · rintro ⟨Q, q1, q2⟩
        have q3 := (huB Q).mp q1
        rw [if_pos hag] at q3
        exact ⟨Q, q3, q2⟩
  · rw [ht, if_pos rfl] at hR
    have hR2 : nI R = (2 : Int32) := by rw [hR]; rfl
    have c1 := q_cap2_len (p := p) hg1 hl1 hP
    have c2 := q_cap2_len (p := p) hl1 hg1 hP
    have hC : (q_cap2 p P gr le ++ q_cap2 p P le gr).length ≤ 128 := by rw [List.length_append]; omega
    obtain ⟨l1, m1, t1, many1, e1, k1⟩ := r_addsBoth (laid := laid) (m := m) (t := t) (C := q_cap2 p P gr le ++ q_cap2 p P le gr) hp hP hB h36 hg1 hg hl1 hl hC RK_0 (fun x hx => List.mem_append_left _ (q_cap2_in hp hx))
    obtain ⟨l2, m2, t2, many2, e2, k2⟩ := r_addsBoth (laid := l1) (C := q_cap2 p P gr le ++ q_cap2 p P le gr) hp hP hB h36 hl1 hl hg1 hg hC k1 (fun x hx => List.mem_append_right _ (q_cap2_in hp hx))
    refine ⟨_, l2, m2, t2, many2, ?_, k2.2.1, fun y => ?_⟩
    · rw [if_pos hR2, k_bd5_some e1, k_bd5_some e2]
      unfold mX10_allPlays_120
      rw [k2.1.1]
    · have huB : ∀ Q, u_B gr le P Q ↔ ((∃ w, g_A P gr w ∧ ∃ v, g_A (g_st P gr w) le v ∧ Q = g_st (g_st P gr w) le v) ∨ (∃ w, g_A P le w ∧ ∃ v, g_A (g_st P le w) gr v ∧ Q = g_st (g_st P le w) gr v)) := fun Q => by
        unfold u_B
        rw [ht, if_pos rfl]
      rw [l_ads_mem, l_ads_mem, r_ol2_all hp, r_ol2_all hp]
      constructor
      · rintro ((q | ⟨w, w1, v, v1, rfl⟩) | ⟨w, w1, v, v1, rfl⟩)
        · cases q
        · exact ⟨_, (huB _).mpr (Or.inl ⟨w, w1, v, v1, rfl⟩), rfl⟩
        · exact ⟨_, (huB _).mpr (Or.inr ⟨w, w1, v, v1, rfl⟩), rfl⟩
      · rintro ⟨Q, hq, rfl⟩
        rcases (huB Q).mp hq with ⟨w, w1, v, v1, rfl⟩ | ⟨w, w1, v, v1, rfl⟩
        · exact Or.inl (Or.inr ⟨w, w1, v, v1, rfl⟩)
        · exact Or.inr ⟨w, w1, v, v1, rfl⟩
theorem r_allPlays {s aside laid : Nat → Int32} {p : Nat} {ds : List Nat} {P : GP} {m t f0 f1 : Nat → Int64} {many : Int32} (hp : p < 2) (hP : g_ok P) (hB : RB s p P) (hds : ds ∈ d_all) (hD : RD s ds) (h36 : s 36 = nI p) : ∃ (N : Nat) (aside' laid' : Nat → Int32) (m' t' f0' f1' : Nat → Int64) (many' : Int32), mX10_allPlays s aside laid m t many f0 f1 = some (nI N, s, aside', laid', m', t', many', f0', f1') ∧ ∀ a6, pE (b_L P.1) (b_L P.2) (d_I ds) a6 = some (nI N) := by
  obtain ⟨l1, e1⟩ := r_reaches (laid := laid) hp hP hB hds hD h36
  have hun := r_areUnlike hds hD
  have hRlt : g_R ds P ≤ ds.length := g_rc_len
  have hdl := d_len ds hds
  rcases d_cases ds hds with ⟨hrep, h4, hd1, hd7⟩ | ⟨hab, hne, ha1, ha7, hb1, hb7⟩
  · generalize hn : ds.length = n at hrep h4
    generalize ds.getD 0 1 = d at hrep hd1 hd7
    have hall : ∀ k, k ≤ 4 → List.replicate k d ∈ d_all := fun k hk => d_reps d hd7 k (by omega) hd1
    have hR : g_R ds P = g_rl d n P := by rw [hrep]; exact g_rc_rep 4 n P h4
    have hcl := fun a6 => ends_like (a6 := a6) (n := n) (P := P) hd1 h4 hall (d_tu_rep hd1 hd7 h4) hP
    rw [← hrep] at hcl
    by_cases h0 : g_rl d n P = 0
    · refine ⟨1, aside, l1, m, t, f0, f1, 0, ?_, fun a6 => ?_⟩
      · unfold mX10_allPlays
        rw [k_bd3_some e1, hR, h0, if_pos nI_0]; rfl
      · obtain ⟨E, c1, c2, c3⟩ := hcl a6
        rw [c1, cnt_one (B := fun Q => Q ∈ g_lv d (g_rl d n P) P) (P := P) (fun Q => by rw [h0]; exact List.mem_singleton) c2 c3]
    · have hnpos : 0 < n := by
        have : g_rl d n P ≤ n := g_rl_leN
        omega
      have h39 : s 39 = nI d := by
        have h := hD.2 0 (by omega)
        rw [hrep] at h
        obtain ⟨k, rfl⟩ : ∃ k, n = k + 1 := ⟨n - 1, by omega⟩
        exact h
      have hr4 : g_rl d n P ≤ 4 := Nat.le_trans g_rl_leN h4
      obtain ⟨M, as', l2, m2, t2, f2, f3, many2, e2, k1, k2⟩ := r_likes (aside := aside) (laid := l1) (m := m) (t := t) (f0 := f0) (f1 := f1) hp hP hB h36 h39 hd1 hd7 hr4
      refine ⟨M.length, as', l2, m2, t2, f2, f3, many2, ?_, fun a6 => ?_⟩
      · unfold mX10_allPlays
        rw [k_bd3_some e1, hR, if_neg (show ¬ nI (g_rl d n P) = (0 : Int32) from nI_ne0 (by omega) (by omega)), k_bd_some hun]
        have hu : g_un ds = false := by rw [hrep]; exact g_un_rep d n (by omega)
        rw [hu, if_pos (show k_b false = 0 from rfl), k_bd9_some e2]
      · obtain ⟨E, c1, c2, c3⟩ := hcl a6
        rw [c1, cnt_eq (p := p) (B := fun Q => Q ∈ g_lv d (g_rl d n P) P) (fun Q hQ => g_lv_ok _ P Q hP hQ) c2 c3 k1 k2]
  · generalize ha : ds.getD 0 0 = a at hab hne ha1 ha7
    generalize hb : ds.getD 1 0 = b at hab hne hb1 hb7
    have s39 : s 39 = nI a := by have h := hD.2 0 (by omega); rw [ha] at h; exact h
    have s40 : s 40 = nI b := by have h := hD.2 1 (by omega); rw [hb] at h; exact h
    obtain ⟨gr, le, hlt, hgl⟩ : ∃ gr le, le < gr ∧ ((gr = a ∧ le = b) ∨ (gr = b ∧ le = a)) := by
      by_cases c : b < a
      · exact ⟨a, b, c, Or.inl ⟨rfl, rfl⟩⟩
      · exact ⟨b, a, by omega, Or.inr ⟨rfl, rfl⟩⟩
    have hg1 : 1 ≤ gr ∧ gr < 7 ∧ 1 ≤ le ∧ le < 7 := by omega
    have hcl := fun a6 => u_class (a6 := a6) (P := P) hne ha1 ha7 hb1 hb7 hP hlt hgl
    have hR : g_R ds P = if (g_two P gr le || g_two P le gr) = true then 2 else if (g_any P gr || g_any P le) = true then 1 else 0 := by
      rw [hab, g_R_un hne]
      rcases hgl with ⟨rfl, rfl⟩ | ⟨rfl, rfl⟩
      · rfl
      · rw [Bool.or_comm (g_two P le gr), Bool.or_comm (g_any P le)]
    rw [← hab] at hcl
    have hun2 : g_un ds = true := by rw [hab]; exact g_un_ab hne
    by_cases h0 : g_R ds P = 0
    · refine ⟨1, aside, l1, m, t, f0, f1, 0, ?_, fun a6 => ?_⟩
      · unfold mX10_allPlays
        rw [k_bd3_some e1, h0, if_pos nI_0]; rfl
      · obtain ⟨E, c1, c2, c3⟩ := hcl a6
        rw [c1, cnt_one (B := u_B gr le P) (P := P) (fun Q => by
          unfold u_B
          rw [h0] at hR
          cases ht : (g_two P gr le || g_two P le gr)
          · rw [ht, if_neg (show ¬ false = true by decide)] at hR
            have hn2 : (g_any P gr || g_any P le) = false := by
              cases q : (g_any P gr || g_any P le)
              · rfl
              · rw [q, if_pos rfl] at hR; cases hR
            rw [Bool.or_eq_false_iff] at hn2
            rw [if_neg (show ¬ false = true by decide), hn2.1, hn2.2, if_neg (show ¬ false = true by decide), if_neg (show ¬ false = true by decide)]
          · rw [ht, if_pos rfl] at hR; cases hR) c2 c3]
    · have hRle : g_R ds P ≤ 4 := by omega
      have hsum : nI a + nI b - nI gr = nI le := by
        rw [nI_add, pk_sub (by omega)]
        congr 1; omega
      obtain ⟨M, l2, m2, t2, many2, e2, k1, k2⟩ := r_57 (s := s) (aside := aside) (laid := l1) (m := m) (t := t) (f0 := f0) (f1 := f1) (R := g_R ds P) hp hP hB h36 hg1.1 hg1.2.1 hg1.2.2.1 hg1.2.2.2 (by rw [s39, s40]; exact hsum) hR h0
      refine ⟨M.length, aside, l2, m2, t2, f0, f1, many2, ?_, fun a6 => ?_⟩
      · unfold mX10_allPlays
        rw [k_bd3_some e1, if_neg (show ¬ nI (g_R ds P) = (0 : Int32) from nI_ne0 (by omega) (by omega)), k_bd_some hun, hun2, if_neg (show ¬ k_b true = 0 by decide), s39, s40]
        by_cases c : a ≤ b
        · have hgb : gr = b := by omega
          rw [if_pos (nI_le c (by omega)), ← hgb, e2]
        · have hga : gr = a := by omega
          rw [if_neg (nI_ge (by omega) (by omega)), ← hga, e2]
      · obtain ⟨E, c1, c2, c3⟩ := hcl a6
        rw [c1, cnt_eq (p := p) (B := u_B gr le P) (fun Q hQ => u_B_ok hP hQ) c2 c3 k1 k2]
