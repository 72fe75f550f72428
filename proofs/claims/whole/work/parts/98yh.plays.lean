/-! the ends of like dice -/
theorem c_sc_0 {a6 : Bool} {ds : List Nat} {P : GP} (h : d_ks ds = []) : c_sc a6 ds P = [] := by
  unfold c_sc; rw [h]; rfl
theorem c_sc_1 {a6 : Bool} {ds : List Nat} {P : GP} {d : Nat} (h : d_ks ds = [d]) : c_sc a6 ds P = c_wl ds P d 17 1 := by
  unfold c_sc
  rw [h]
  show (if a6 = true ∧ false = true then [] else c_wl ds P d 17 1 ++ []) = _
  rw [if_neg (fun q => by cases q.2), List.append_nil]
theorem c_sc_2 {a6 : Bool} {ds : List Nat} {P : GP} {a b : Nat} {y : KS} (h : d_ks ds = [a, b]) : y ∈ c_sc a6 ds P ↔ y ∈ c_wl ds P a 17 1 ∨ (y ∈ c_wl ds P b 17 1 ∧ ¬ (a6 = true ∧ c_wl ds P a 17 1 ≠ [])) := by
  unfold c_sc
  rw [h]
  have e : c_kl a6 ds P false [a, b] = c_wl ds P a 17 1 ++ (if a6 = true ∧ (false || !(c_wl ds P a 17 1).isEmpty) = true then [] else c_wl ds P b 17 1 ++ []) := by
    show (if a6 = true ∧ false = true then [] else _) = _
    rw [if_neg (fun q => by cases q.2)]
    rfl
  rw [e, List.mem_append, List.append_nil]
  have e2 : (false || !(c_wl ds P a 17 1).isEmpty) = true ↔ c_wl ds P a 17 1 ≠ [] := by
    cases c_wl ds P a 17 1 with
    | nil => exact ⟨fun q => (by cases q), fun q => absurd rfl q⟩
    | cons x l => exact ⟨fun _ q => (by cases q), fun _ => rfl⟩
  by_cases c : a6 = true ∧ (false || !(c_wl ds P a 17 1).isEmpty) = true
  · rw [if_pos c]
    constructor
    · rintro (q | q)
      · exact Or.inl q
      · cases q
    · rintro (q | ⟨-, q⟩)
      · exact Or.inl q
      · exact absurd ⟨c.1, e2.mp c.2⟩ q
  · rw [if_neg c]
    constructor
    · rintro (q | q)
      · exact Or.inl q
      · exact Or.inr ⟨q, fun z => c ⟨z.1, e2.mpr z.2⟩⟩
    · rintro (q | ⟨q, -⟩)
      · exact Or.inl q
      · exact Or.inr q
theorem g_un_rep (d : Nat) : ∀ k, k < 5 → g_un (List.replicate k d) = false := by
  intro k hk
  rcases (show k = 0 ∨ k = 1 ∨ k = 2 ∨ k = 3 ∨ k = 4 by omega) with rfl | rfl | rfl | rfl | rfl
  · rfl
  · rfl
  · show decide (d ≠ d) = false
    exact decide_eq_false (fun h => h rfl)
  · rfl
  · rfl
theorem g_re_rep {d m w : Nat} {P : GP} (hm : m < 4) : g_re (List.replicate (m + 1) d) P d w = 0 ↔ g_ban P.1 P.2 d w = 0 := by
  unfold g_re
  rw [if_pos (List.mem_replicate.mpr ⟨by omega, rfl⟩), g_un_rep d (m + 1) (by omega)]
  by_cases h : g_ban P.1 P.2 d w = 0
  · rw [if_pos h, if_neg (show ¬ false = true by decide)]; exact ⟨fun _ => h, fun _ => rfl⟩
  · rw [if_neg h]
theorem c_sc_rep {a6 : Bool} {d m : Nat} {P : GP} {y : KS} (hm : m < 4) : y ∈ c_sc a6 (List.replicate (m + 1) d) P ↔ ∃ v, g_A P d v ∧ y = s_of (g_st P d v, List.replicate m d) := by
  rw [c_sc_1 (d_ks_rep d m), c_wl_mem]
  constructor
  · rintro ⟨v, h1, h2, h3, h4⟩
    rw [g_er_rep] at h4
    exact ⟨v, ⟨h1, by omega, (g_re_rep hm).mp h3⟩, h4⟩
  · rintro ⟨v, ⟨h1, h2, h3⟩, h4⟩
    refine ⟨v, h1, by omega, (g_re_rep hm).mpr h3, ?_⟩
    rw [g_er_rep]; exact h4
theorem g_lv_last {d : Nat} : ∀ (k : Nat) (P Q : GP), Q ∈ g_lv d (k + 1) P ↔ ∃ Q0, Q0 ∈ g_lv d k P ∧ ∃ w, g_A Q0 d w ∧ Q = g_st Q0 d w := by
  intro k
  induction k with
  | zero =>
    intro P Q
    rw [g_lv_S]
    constructor
    · rintro ⟨w, h1, h2⟩
      exact ⟨P, List.mem_singleton.mpr rfl, w, h1, List.mem_singleton.mp h2⟩
    · rintro ⟨Q0, h0, w, h1, h2⟩
      have : Q0 = P := List.mem_singleton.mp h0
      subst this
      exact ⟨w, h1, List.mem_singleton.mpr h2⟩
  | succ k ih =>
    intro P Q
    rw [g_lv_S]
    constructor
    · rintro ⟨w, h1, h2⟩
      obtain ⟨Q0, q1, v, q2, q3⟩ := (ih _ _).mp h2
      exact ⟨Q0, g_lv_S.mpr ⟨w, h1, q1⟩, v, q2, q3⟩
    · rintro ⟨Q0, h0, v, q2, q3⟩
      obtain ⟨w, h1, h2⟩ := g_lv_S.mp h0
      exact ⟨w, h1, (ih _ _).mpr ⟨Q0, h2, v, q2, q3⟩⟩
theorem g_lv_ok {d : Nat} : ∀ (k : Nat) (P Q : GP), g_ok P → Q ∈ g_lv d k P → g_ok Q := by
  intro k
  induction k with
  | zero => intro P Q hP h; rw [List.mem_singleton.mp h]; exact hP
  | succ k ih =>
    intro P Q hP h
    obtain ⟨w, h1, h2⟩ := g_lv_S.mp h
    exact ih _ _ (g_ok_st hP h1) h2
theorem g_lv_rl {d : Nat} (hd : 1 ≤ d) : ∀ (k m : Nat) (P Q : GP), Q ∈ g_lv d k P → g_rl d (k + m) P = k + g_rl d m Q := by
  intro k
  induction k with
  | zero =>
    intro m P Q h
    rw [List.mem_singleton.mp h, Nat.zero_add, Nat.zero_add]
  | succ k ih =>
    intro m P Q h
    obtain ⟨w, h1, h2⟩ := g_lv_S.mp h
    rw [show k + 1 + m = (k + m) + 1 by omega, g_rl_step hd h1, ih m _ Q h2]
    omega
theorem g_rl_0 {d : Nat} {m : Nat} {Q : GP} : g_rl d (m + 1) Q = 0 ↔ ∀ w, ¬ g_A Q d w := by
  constructor
  · intro h w hw
    have := g_rl_ge (d := d) (n := m) hw
    omega
  · exact g_rl_none
theorem St_like {a6 : Bool} {n d : Nat} {P : GP} (hd : 1 ≤ d) (hn : n ≤ 4) (hall : ∀ k, k ≤ 4 → List.replicate k d ∈ d_all) (hP : g_ok P) {S0 : GP × List Nat → Prop} (hS0 : ∀ x, S0 x ↔ x = (P, List.replicate n d)) : ∀ (k : Nat) (x : GP × List Nat), St a6 S0 k x ↔ k ≤ n ∧ ∃ Q, Q ∈ g_lv d k P ∧ x = (Q, List.replicate (n - k) d) := by
  intro k
  induction k with
  | zero =>
    intro x
    constructor
    · rintro ⟨h1, -⟩
      exact ⟨Nat.zero_le _, P, List.mem_singleton.mpr rfl, (hS0 x).mp h1⟩
    · rintro ⟨-, Q, h1, h2⟩
      rw [List.mem_singleton.mp h1] at h2
      exact ⟨(hS0 x).mpr h2, by rw [h2]; exact ⟨hP, hall _ (by omega)⟩⟩
  | succ k ih =>
    intro x
    constructor
    · rintro ⟨hg, z, hz, hs⟩
      obtain ⟨k1, Q, q1, q2⟩ := (ih z).mp hz
      subst q2
      by_cases c : n - k = 0
      · have : c_sc a6 (List.replicate (n - k) d) Q = [] := c_sc_0 (by rw [c]; rfl)
        rw [this] at hs; cases hs
      · obtain ⟨m, hm⟩ : ∃ m, n - k = m + 1 := ⟨n - k - 1, by omega⟩
        rw [hm] at hs
        obtain ⟨v, v1, v2⟩ := (c_sc_rep (by omega)).mp hs
        have hgz : s_gd (g_st Q d v, List.replicate m d) := by
          have k1 : g_ok (g_st Q d v) := g_ok_st (g_lv_ok k P Q hP q1) v1
          generalize g_st Q d v = Q' at k1
          exact ⟨k1, hall m (by omega)⟩
        have hx := s_inj hg hgz v2
        refine ⟨by omega, g_st Q d v, (g_lv_last k P _).mpr ⟨Q, q1, v, v1, rfl⟩, ?_⟩
        rw [hx, show n - (k + 1) = m by omega]
    · rintro ⟨k1, Q, q1, q2⟩
      obtain ⟨Q0, z1, v, z2, z3⟩ := (g_lv_last k P Q).mp q1
      have hgx : s_gd x := by rw [q2]; exact ⟨g_lv_ok (k + 1) P Q hP q1, hall _ (by omega)⟩
      refine ⟨hgx, (Q0, List.replicate (n - k) d), (ih _).mpr ⟨by omega, Q0, z1, rfl⟩, ?_⟩
      obtain ⟨m, hm⟩ : ∃ m, n - k = m + 1 := ⟨n - k - 1, by omega⟩
      show s_of x ∈ c_sc a6 (List.replicate (n - k) d) Q0
      rw [hm]
      refine (c_sc_rep (by omega)).mpr ⟨v, z2, ?_⟩
      rw [q2, z3, show n - (k + 1) = m by omega]
theorem sc_like {a6 : Bool} {n k d : Nat} {P Q : GP} (hd : 1 ≤ d) (hn : n ≤ 4) (hk : k ≤ n) (hQ : Q ∈ g_lv d k P) : c_sc a6 (List.replicate (n - k) d) Q = [] ↔ k = g_rl d n P := by
  have h1 := g_lv_rl hd k (n - k) P Q hQ
  rw [show k + (n - k) = n by omega] at h1
  by_cases c : n - k = 0
  · rw [c] at h1 ⊢
    have h2 : g_rl d 0 Q = 0 := rfl
    constructor
    · intro _; omega
    · intro _; exact c_sc_0 rfl
  · obtain ⟨m, hm⟩ : ∃ m, n - k = m + 1 := ⟨n - k - 1, by omega⟩
    rw [hm] at h1 ⊢
    constructor
    · intro h
      have h0 : g_rl d (m + 1) Q = 0 := g_rl_0.mpr (fun w hw => by
        have : s_of (g_st Q d w, List.replicate m d) ∈ c_sc a6 (List.replicate (m + 1) d) Q := (c_sc_rep (by omega)).mpr ⟨w, hw, rfl⟩
        rw [h] at this; cases this)
      omega
    · intro h
      have h0 : g_rl d (m + 1) Q = 0 := by omega
      apply List.eq_nil_iff_forall_not_mem.mpr
      intro y hy
      obtain ⟨v, v1, -⟩ := (c_sc_rep (by omega)).mp hy
      exact g_rl_0.mp h0 v v1
theorem ends_like {a6 : Bool} {n d : Nat} {P : GP} (hd : 1 ≤ d) (hn : n ≤ 4) (hall : ∀ k, k ≤ 4 → List.replicate k d ∈ d_all) (htu : mX0_turned (d_I (List.replicate n d)) = some (d_I (List.replicate n d))) (hP : g_ok P) : ∃ E : List KS, pE (b_L P.1) (b_L P.2) (d_I (List.replicate n d)) a6 = some (nI E.length) ∧ E.Nodup ∧ ∀ y, y ∈ E ↔ ∃ Q, Q ∈ g_lv d (g_rl d n P) P ∧ y = s_of (Q, []) := by
  have hr : g_rl d n P ≤ n := g_rl_leN
  have hSt := St_like (a6 := a6) (S0 := fun x => x = (P, List.replicate n d)) hd hn hall hP (fun x => Iff.rfl)
  have hcap : s_cap a6 (fun x => x = (P, List.replicate n d)) (fun k => if k ≤ 4 then (g_cn d k 17 P).map (fun Q => s_of (Q, List.replicate (n - k) d)) else []) ((g_cn d (g_rl d n P) 17 P).map (fun Q => s_of (Q, []))) := by
    refine ⟨fun k hk => ?_, ?_, fun k x hk hx => ?_, fun k x hk hx hc => ?_⟩
    · by_cases c : k ≤ 4
      · have h1 := g_cn_126 (j := k) hd (by omega) hP
        have h2 := c_N_6 k (by omega)
        show (if k ≤ 4 then _ else _ : List KS).length ≤ 128
        rw [if_pos c, List.length_map]; omega
      · show (if k ≤ 4 then _ else _ : List KS).length ≤ 128
        rw [if_neg c]; exact Nat.zero_le _
    · have h1 := g_cn_126 (j := g_rl d n P) hd (by omega) hP
      have h2 := c_N_6 (g_rl d n P) (by omega)
      rw [List.length_map]; omega
    · obtain ⟨k1, Q, q1, q2⟩ := (hSt k x).mp hx
      show s_of x ∈ (if k ≤ 4 then _ else _ : List KS)
      rw [if_pos (by omega), q2]
      exact List.mem_map.mpr ⟨Q, g_lv_cn hd k P Q q1, rfl⟩
    · obtain ⟨k1, Q, q1, q2⟩ := (hSt k x).mp hx
      rw [q2] at hc ⊢
      have hk2 := (sc_like hd hn k1 q1).mp hc
      rw [← hk2]
      exact List.mem_map.mpr ⟨Q, g_lv_cn hd k P Q q1, rfl⟩
  obtain ⟨E, e1, e2, e3⟩ := c_ends (a6 := a6) (x0 := (P, List.replicate n d)) ⟨hP, hall n hn⟩ (hall n hn) htu (S0 := fun x => x = (P, List.replicate n d)) (fun x => ⟨fun h => Or.inl h, fun h => by
    rcases h with h | ⟨-, h⟩
    · exact h
    · exact h⟩) hcap
  refine ⟨E, e1, e2, fun y => ?_⟩
  rw [e3]
  constructor
  · rintro ⟨j, x, j1, j2, j3, j4⟩
    obtain ⟨k1, Q, q1, q2⟩ := (hSt j x).mp j2
    rw [q2] at j3 j4
    have hk2 := (sc_like hd hn k1 q1).mp j3
    rw [← hk2]
    exact ⟨Q, q1, j4⟩
  · rintro ⟨Q, q1, q2⟩
    exact ⟨g_rl d n P, (Q, List.replicate (n - g_rl d n P) d), by omega, (hSt _ _).mpr ⟨hr, Q, q1, rfl⟩, (sc_like hd hn hr q1).mpr rfl, q2⟩
