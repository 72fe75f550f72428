/-! the ends -/
theorem d_I_inj : ∀ a ∈ d_all, ∀ b ∈ d_all, d_I a = d_I b → a = b := by decide +kernel
theorem s_inj {x y : GP × List Nat} (hx : s_gd x) (hy : s_gd y) (h : s_of x = s_of y) : x = y := by
  obtain ⟨P, a⟩ := x
  obtain ⟨Q, b⟩ := y
  have h1 : b_L P.1 = b_L Q.1 := congrArg Prod.fst h
  have h2 : b_L P.2 = b_L Q.2 := congrArg (fun z => z.2.1) h
  have h3 : d_I a = d_I b := congrArg (fun z => z.2.2) h
  have e1 : P = Q := k_inj hx.1 hy.1 (by unfold k_of; rw [h1, h2])
  have e2 : a = b := d_I_inj a hx.2 b hy.2 h3
  rw [e1, e2]
theorem c_kl_mem {a6 : Bool} {ds : List Nat} {P : GP} {y : KS} : ∀ {ks : List Nat} {f : Bool}, y ∈ c_kl a6 ds P f ks → ∃ d ∈ ks, ∃ v, 1 ≤ v ∧ v < 18 ∧ g_re ds P d v = 0 ∧ y = s_of (g_st P d v, ds.erase d) := by
  intro ks
  induction ks with
  | nil => intro f h; cases h
  | cons d ks ih =>
    intro f h
    have h' : y ∈ (if a6 = true ∧ f = true then [] else c_wl ds P d 17 1 ++ c_kl a6 ds P (f || !(c_wl ds P d 17 1).isEmpty) ks) := h
    by_cases c : a6 = true ∧ f = true
    · rw [if_pos c] at h'; cases h'
    · rw [if_neg c, List.mem_append] at h'
      rcases h' with q | q
      · obtain ⟨v, h1, h2, h3, h4⟩ := c_wl_mem.mp q
        exact ⟨d, List.mem_cons_self .., v, h1, by omega, h3, h4⟩
      · obtain ⟨d', hd, r⟩ := ih q
        exact ⟨d', List.mem_cons_of_mem _ hd, r⟩
theorem c_sc_gd {a6 : Bool} {x : GP × List Nat} {y : KS} (hx : s_gd x) (h : y ∈ c_sc a6 x.2 x.1) : ∃ z, s_gd z ∧ y = s_of z := by
  obtain ⟨d, hd, v, h1, h2, h3, h4⟩ := c_kl_mem h
  obtain ⟨hd2, hA⟩ := g_re_A h1 (by omega) h3
  have k1 : g_ok (g_st x.1 d v) := g_ok_st hx.1 hA
  have k2 : x.2.erase d ∈ d_all := d_erase x.2 hx.2 d hd2
  generalize g_st x.1 d v = Q at k1 h4
  generalize x.2.erase d = e at k2 h4
  exact ⟨(Q, e), ⟨k1, k2⟩, h4⟩
def St (a6 : Bool) (S0 : GP × List Nat → Prop) : Nat → GP × List Nat → Prop
  | 0, x => S0 x ∧ s_gd x
  | k + 1, y => s_gd y ∧ ∃ x, St a6 S0 k x ∧ s_of y ∈ c_sc a6 x.2 x.1
theorem St_gd {a6 : Bool} {S0 : GP × List Nat → Prop} {k : Nat} {x : GP × List Nat} (h : St a6 S0 k x) : s_gd x := by
  cases k with
  | zero => exact h.2
  | succ k => exact h.1
theorem l_pre {α β : Type} {f : α → β} {p : α → Prop} : ∀ {K : List β}, (∀ y ∈ K, ∃ x, p x ∧ y = f x) → ∃ X : List α, X.map f = K ∧ ∀ x ∈ X, p x := by
  intro K
  induction K with
  | nil => intro _; exact ⟨[], rfl, fun x hx => by cases hx⟩
  | cons y K ih =>
    intro h
    obtain ⟨x, h1, h2⟩ := h y (List.mem_cons_self ..)
    obtain ⟨X, e1, e2⟩ := ih (fun z hz => h z (List.mem_cons_of_mem _ hz))
    refine ⟨x :: X, by rw [List.map_cons, e1, h2], fun z hz => ?_⟩
    rcases List.mem_cons.mp hz with rfl | hz
    · exact h1
    · exact e2 z hz
def s_cap (a6 : Bool) (S0 : GP × List Nat → Prop) (C : Nat → List KS) (CE : List KS) : Prop := (∀ k, k ≤ 5 → (C k).length ≤ 128) ∧ CE.length ≤ 128 ∧ (∀ k x, k ≤ 5 → St a6 S0 k x → s_of x ∈ C k) ∧ (∀ k x, k < 5 → St a6 S0 k x → c_sc a6 x.2 x.1 = [] → s_of (x.1, []) ∈ CE)
def s_inv (a6 : Bool) (S0 : GP × List Nat → Prop) (k : Nat) (X : List (GP × List Nat)) : Prop := (∀ x ∈ X, St a6 S0 k x) ∧ ∀ x, St a6 S0 k x → x ∈ X
def e_inv (a6 : Bool) (S0 : GP × List Nat → Prop) (k : Nat) (KE : List KS) : Prop := KE.Nodup ∧ ∀ y, y ∈ KE ↔ ∃ j x, j < k ∧ St a6 S0 j x ∧ c_sc a6 x.2 x.1 = [] ∧ y = s_of (x.1, [])
theorem c_47 {a6 : Bool} {S0 : GP × List Nat → Prop} {C : Nat → List KS} {CE : List KS} (hcap : s_cap a6 S0 C CE) {a1 a3 : Int64} {a5 : Int32} : ∀ (n k F : Nat) (X : List (GP × List Nat)) (KE : List KS) (pm pt : Nat → Int64) (pd : Nat → Int32) (pn : Int32) (fm ft : Nat → Int64) (fd : Nat → Int32) (fn : Int32) (em et : Nat → Int64) (ed : Nat → Int32) (en : Int32), k + n = 5 → n < F → s_inv a6 S0 k X → e_inv a6 S0 k KE → RR pm pt pd pn (X.map s_of) → RR em et ed en KE →
    ∃ (E : List KS) (j2 : JT), k_fix (fun _ _ _ _ _ _ _ _ _ _ _ _ _ => none) (mX4_countEnds_47 a1 a3 a5 a6) F (nI k) pm pt pd pn fm ft fd fn em et ed en = some (nI E.length, j2) ∧ e_inv a6 S0 5 E := by
  intro n
  induction n with
  | zero =>
    intro k F X KE pm pt pd pn fm ft fd fn em et ed en hk hF hX hE hp he
    obtain rfl : k = 5 := by omega
    refine ⟨KE, (pm, pt, pd, pn, fm, ft, fd, fn, em, et, ed, en), ?_, hE⟩
    rw [k_fix1 hF, mX4_countEnds_47, if_pos (show (4 : Int32) < nI 5 by decide), he.1]
  | succ n ih =>
    intro k F X KE pm pt pd pn fm ft fd fn em et ed en hk hF hX hE hp he
    obtain ⟨q1, q2, q3, q4⟩ := hcap
    have h4 : ¬ (4 : Int32) < nI k := nI_nlt (a := 4) (b := k) (by omega) (by omega)
    have hlen : X.length ≤ 128 := by have := hp.2.1; rw [List.length_map] at this; exact this
    have hpn : pn = nI X.length := by have := hp.1; rw [List.length_map] at this; exact this
    subst hpn
    have hgd : ∀ x ∈ X, s_gd x := fun x hx => St_gd (hX.1 x hx)
    have hCC : ∀ x ∈ X, ∀ y ∈ c_sc a6 x.2 x.1, y ∈ C (k + 1) := fun x hx y hy => by
      obtain ⟨z, z1, rfl⟩ := c_sc_gd (hgd x hx) hy
      exact q3 (k + 1) z (by omega) ⟨z1, x, hX.1 x hx, hy⟩
    have hcE : ∀ x ∈ X, c_sc a6 x.2 x.1 = [] → s_of (x.1, []) ∈ CE := fun x hx hc => q4 k x (by omega) (hX.1 x hx) hc
    have hEC : ∀ y ∈ KE, y ∈ CE := fun y hy => by
      obtain ⟨j, x, j1, j2, j3, rfl⟩ := (hE.2 y).mp hy
      exact q4 j x (by omega) j2 j3
    obtain ⟨j', e1, r1⟩ := c_72 (a6 := a6) (k47 := k_fix (fun _ _ _ _ _ _ _ _ _ _ _ _ _ => none) (mX4_countEnds_47 a1 a3 a5 a6) (F - 1)) (a1 := a1) (a3 := a3) (a5 := a5) (l7 := nI k) hp hgd (q1 (k + 1) (by omega)) q2 hCC hcE X.length 0 k_F (fm, ft, fd, 0, em, et, ed, en) [] KE (by omega) (by generalize hk : k_F = F; have : F = 4096 := hk.symm; omega) ⟨⟨nI_0.symm, Nat.zero_le _, fun i hi => by cases hi⟩, he⟩ List.nodup_nil hE.1 (fun y hy => by cases hy) hEC
    rw [List.drop_zero] at r1
    have hpre : ∀ y ∈ f_go a6 [] X, ∃ z, St a6 S0 (k + 1) z ∧ y = s_of z := fun y hy => by
      rcases f_go_mem.mp hy with q | ⟨x, x1, x2⟩
      · cases q
      · obtain ⟨z, z1, rfl⟩ := c_sc_gd (hgd x x1) x2
        exact ⟨z, ⟨z1, x, hX.1 x x1, x2⟩, rfl⟩
    obtain ⟨X', m1, m2⟩ := l_pre hpre
    have hX' : s_inv a6 S0 (k + 1) X' := by
      refine ⟨m2, fun z hz => ?_⟩
      obtain ⟨z1, x, x1, x2⟩ := hz
      have h5 : s_of z ∈ f_go a6 [] X := f_go_mem.mpr (Or.inr ⟨x, hX.2 x x1, x2⟩)
      rw [← m1, List.mem_map] at h5
      obtain ⟨z', w1, w2⟩ := h5
      rw [← s_inj (St_gd (m2 z' w1)) z1 w2]; exact w1
    have hE' : e_inv a6 S0 (k + 1) (e_go a6 KE X) := by
      refine ⟨e_go_nodup hE.1, fun y => ?_⟩
      rw [e_go_mem, hE.2]
      constructor
      · rintro (⟨j, x, j1, j2, j3, j4⟩ | ⟨x, x1, x2, x3⟩)
        · exact ⟨j, x, by omega, j2, j3, j4⟩
        · exact ⟨k, x, by omega, hX.1 x x1, x2, x3⟩
      · rintro ⟨j, x, j1, j2, j3, j4⟩
        by_cases c : j = k
        · rw [c] at j2
          exact Or.inr ⟨x, hX.2 x j2, j3, j4⟩
        · exact Or.inl ⟨j, x, by omega, j2, j3, j4⟩
    rw [← m1] at r1
    obtain ⟨E, j2, e2, r2⟩ := ih (k + 1) (F - 1) X' (e_go a6 KE X) j'.1 j'.2.1 j'.2.2.1 j'.2.2.2.1 pm pt pd (nI X.length) j'.2.2.2.2.1 j'.2.2.2.2.2.1 j'.2.2.2.2.2.2.1 j'.2.2.2.2.2.2.2 (by omega) (by omega) hX' hE' r1.1 r1.2
    refine ⟨E, j2, ?_, r2⟩
    rw [k_fix1 (by omega), mX4_countEnds_47, if_neg h4]
    unfold mX5_clear
    rw [k_bs]
    rw [nI_0, nI_1] at e1
    exact e1.trans e2
theorem c_ends {a6 : Bool} {x0 : GP × List Nat} (hx : s_gd x0) {t0 : List Nat} (ht : t0 ∈ d_all) (ht2 : mX0_turned (d_I x0.2) = some (d_I t0)) {S0 : GP × List Nat → Prop} (hS0 : ∀ x, S0 x ↔ x = x0 ∨ (a6 = true ∧ x = (x0.1, t0))) {C : Nat → List KS} {CE : List KS} (hcap : s_cap a6 S0 C CE) : ∃ E : List KS, pE (b_L x0.1.1) (b_L x0.1.2) (d_I x0.2) a6 = some (nI E.length) ∧ e_inv a6 S0 5 E := by
  have hmain : ∀ jk : JT, ∃ (E : List KS) (j2 : JT), p_all jk (b_L x0.1.1) (b_L x0.1.2) (d_I x0.2) a6 = some (nI E.length, j2) ∧ e_inv a6 S0 5 E := by
    intro jk
    have hR0 : ∀ (m t : Nat → Int64) (d : Nat → Int32), RR m t d 0 [] := fun m t d => ⟨nI_0.symm, Nat.zero_le _, fun i hi => by cases hi⟩
    have hE0 : e_inv a6 S0 0 [] := ⟨List.nodup_nil, fun y => ⟨(fun h => by cases h), fun ⟨j, x, h, _⟩ => by omega⟩⟩
    obtain ⟨m1, t1, d1, n1, e1, r1⟩ := c_add (a := s_of x0) (hR0 jk.1 jk.2.1 jk.2.2.1) (Or.inr (show 0 < 128 by omega))
    have e1' : mX5_add jk.1 jk.2.1 jk.2.2.1 0 (b_L x0.1.1) (b_L x0.1.2) (d_I x0.2) = some (m1, t1, d1, n1) := e1
    have hgt : s_gd (x0.1, t0) := ⟨hx.1, ht⟩
    unfold p_all mX4_countEnds mX5_clear
    rw [k_bs, k_bs, k_bd4_some e1']
    have hFk : 5 < k_F := by decide
    cases a6
    · rw [if_pos (show k_b false = 0 from rfl)]
      have hinv : s_inv false S0 0 [x0] := by
        refine ⟨fun x h => ?_, fun x h => ?_⟩
        · rw [List.mem_singleton] at h
          rw [h]; exact ⟨(hS0 x0).mpr (Or.inl rfl), hx⟩
        · rw [List.mem_singleton]
          rcases (hS0 x).mp h.1 with q | ⟨q, -⟩
          · exact q
          · cases q
      have r1' : RR m1 t1 d1 n1 ([x0].map s_of) := r1
      obtain ⟨E, j2, e2, r2⟩ := c_47 hcap (a1 := b_L x0.1.1) (a3 := b_L x0.1.2) (a5 := d_I x0.2) 5 0 k_F [x0] [] m1 t1 d1 n1 jk.2.2.2.2.1 jk.2.2.2.2.2.1 jk.2.2.2.2.2.2.1 jk.2.2.2.2.2.2.2.1 jk.2.2.2.2.2.2.2.2.1 jk.2.2.2.2.2.2.2.2.2.1 jk.2.2.2.2.2.2.2.2.2.2.1 0 (by omega) hFk hinv hE0 r1' (hR0 _ _ _)
      refine ⟨E, j2, ?_, r2⟩
      unfold mX4_countEnds_44
      rw [nI_0] at e2
      exact e2
    · rw [if_neg (show ¬ k_b true = 0 by decide), k_bd_some ht2]
      obtain ⟨m2, t2, d2, n2, e3, r3⟩ := c_add (a := s_of (x0.1, t0)) r1 (Or.inr (show 1 < 128 by omega))
      have e3' : mX5_add m1 t1 d1 n1 (b_L x0.1.1) (b_L x0.1.2) (d_I t0) = some (m2, t2, d2, n2) := e3
      rw [k_bd4_some e3']
      obtain ⟨X, hXm, hXi⟩ : ∃ X : List (GP × List Nat), X.map s_of = l_ad (l_ad [] (s_of x0)) (s_of (x0.1, t0)) ∧ s_inv true S0 0 X := by
        have hl : l_ad ([] : List KS) (s_of x0) = [s_of x0] := rfl
        rw [hl]
        unfold l_ad
        by_cases c : s_of (x0.1, t0) ∈ [s_of x0]
        · rw [if_pos c]
          rw [List.mem_singleton] at c
          have hxe : (x0.1, t0) = x0 := s_inj hgt hx c
          refine ⟨[x0], rfl, fun x h => ?_, fun x h => ?_⟩
          · rw [List.mem_singleton] at h
            rw [h]; exact ⟨(hS0 x0).mpr (Or.inl rfl), hx⟩
          · rw [List.mem_singleton]
            rcases (hS0 x).mp h.1 with q | ⟨-, q⟩
            · exact q
            · rw [q, hxe]
        · rw [if_neg c]
          refine ⟨[x0, (x0.1, t0)], rfl, fun x h => ?_, fun x h => ?_⟩
          · rcases List.mem_cons.mp h with rfl | h
            · exact ⟨(hS0 x).mpr (Or.inl rfl), hx⟩
            · rw [List.mem_singleton] at h
              rw [h]; exact ⟨(hS0 _).mpr (Or.inr ⟨rfl, rfl⟩), hgt⟩
          · rcases (hS0 x).mp h.1 with q | ⟨-, q⟩
            · rw [q]; exact List.mem_cons_self ..
            · rw [q]; exact List.mem_cons_of_mem _ (List.mem_cons_self ..)
      rw [← hXm] at r3
      obtain ⟨E, j2, e2, r2⟩ := c_47 hcap (a1 := b_L x0.1.1) (a3 := b_L x0.1.2) (a5 := d_I x0.2) 5 0 k_F X [] m2 t2 d2 n2 jk.2.2.2.2.1 jk.2.2.2.2.2.1 jk.2.2.2.2.2.2.1 jk.2.2.2.2.2.2.2.1 jk.2.2.2.2.2.2.2.2.1 jk.2.2.2.2.2.2.2.2.2.1 jk.2.2.2.2.2.2.2.2.2.2.1 0 (by omega) hFk hXi hE0 r3 (hR0 _ _ _)
      refine ⟨E, j2, ?_, r2⟩
      unfold mX4_countEnds_44
      rw [nI_0] at e2
      exact e2
  obtain ⟨E, -, -, hE⟩ := hmain ((fun _ => 0), (fun _ => 0), (fun _ => 0), 0, (fun _ => 0), (fun _ => 0), (fun _ => 0), 0, (fun _ => 0), (fun _ => 0), (fun _ => 0), 0)
  refine ⟨E, pE_of (fun jk => ?_), hE⟩
  obtain ⟨E2, j2, e2, hE2⟩ := hmain jk
  have hl : E2.length = E.length := l_eq hE2.1 hE.1 (fun y => by rw [hE2.2, hE.2])
  exact ⟨j2, by rw [e2, hl]⟩
theorem c_sc_0 {a6 : Bool} {ds : List Nat} {P : GP} (h : d_ks ds = []) : c_sc a6 ds P = [] := by
  unfold c_sc; rw [h]; rfl
theorem c_sc_1 {a6 : Bool} {ds : List Nat} {P : GP} {d : Nat} (h : d_ks ds = [d]) : c_sc a6 ds P = c_wl ds P d 17 1 := by
  unfold c_sc
  rw [h]
  show (if a6 = true ∧ false = true then [] else c_wl ds P d 17 1 ++ []) = _
  rw [if_neg (fun q => by cases q.2), List.append_nil]
theorem c_sc_2 {a6 : Bool} {ds : List Nat} {P : GP} {a b : Nat} {y : KS} (h : d_ks ds = [a, b]) : y ∈ c_sc a6 ds P ↔ y ∈ c_wl ds P a 17 1 ∨ (y ∈ c_wl ds P b 17 1 ∧ ¬ (a6 = true ∧ c_wl ds P a 17 1 ≠ [])) := by
  unfold c_sc
  rw [h]
  have e : c_kl a6 ds P false [a, b] = c_wl ds P a 17 1 ++ (if a6 = true ∧ (false || !(c_wl ds P a 17 1).isEmpty) = true then [] else c_wl ds P b 17 1 ++ []) := by
    show (if a6 = true ∧ false = true then [] else _) = _
    rw [if_neg (fun q => by cases q.2)]
    rfl
  rw [e, List.mem_append, List.append_nil]
  have e2 : (false || !(c_wl ds P a 17 1).isEmpty) = true ↔ c_wl ds P a 17 1 ≠ [] := by
    cases c_wl ds P a 17 1 with
    | nil => exact ⟨fun q => (by cases q), fun q => absurd rfl q⟩
    | cons x l => exact ⟨fun _ q => (by cases q), fun _ => rfl⟩
  by_cases c : a6 = true ∧ (false || !(c_wl ds P a 17 1).isEmpty) = true
  · rw [if_pos c]
    constructor
    · rintro (q | q)
      · exact Or.inl q
      · cases q
    · rintro (q | ⟨-, q⟩)
      · exact Or.inl q
      · exact absurd ⟨c.1, e2.mp c.2⟩ q
  · rw [if_neg c]
    constructor
    · rintro (q | q)
      · exact Or.inl q
      · exact Or.inr ⟨q, fun z => c ⟨z.1, e2.mpr z.2⟩⟩
    · rintro (q | ⟨q, -⟩)
      · exact Or.inl q
      · exact Or.inr q
theorem g_un_rep (d : Nat) : ∀ k, k < 5 → g_un (List.replicate k d) = false := by
  intro k hk
  rcases (show k = 0 ∨ k = 1 ∨ k = 2 ∨ k = 3 ∨ k = 4 by omega) with rfl | rfl | rfl | rfl | rfl
  · rfl
  · rfl
  · show decide (d ≠ d) = false
    exact decide_eq_false (fun h => h rfl)
  · rfl
  · rfl
theorem g_re_rep {d m w : Nat} {P : GP} (hm : m < 4) : g_re (List.replicate (m + 1) d) P d w = 0 ↔ g_ban P.1 P.2 d w = 0 := by
  unfold g_re
  rw [if_pos (List.mem_replicate.mpr ⟨by omega, rfl⟩), g_un_rep d (m + 1) (by omega)]
  by_cases h : g_ban P.1 P.2 d w = 0
  · rw [if_pos h, if_neg (show ¬ false = true by decide)]; exact ⟨fun _ => h, fun _ => rfl⟩
  · rw [if_neg h]
theorem c_sc_rep {a6 : Bool} {d m : Nat} {P : GP} {y : KS} (hm : m < 4) : y ∈ c_sc a6 (List.replicate (m + 1) d) P ↔ ∃ v, g_A P d v ∧ y = s_of (g_st P d v, List.replicate m d) := by
  rw [c_sc_1 (d_ks_rep d m), c_wl_mem]
  constructor
  · rintro ⟨v, h1, h2, h3, h4⟩
    rw [g_er_rep] at h4
    exact ⟨v, ⟨h1, by omega, (g_re_rep hm).mp h3⟩, h4⟩
  · rintro ⟨v, ⟨h1, h2, h3⟩, h4⟩
    refine ⟨v, h1, by omega, (g_re_rep hm).mpr h3, ?_⟩
    rw [g_er_rep]; exact h4
theorem g_lv_last {d : Nat} : ∀ (k : Nat) (P Q : GP), Q ∈ g_lv d (k + 1) P ↔ ∃ Q0, Q0 ∈ g_lv d k P ∧ ∃ w, g_A Q0 d w ∧ Q = g_st Q0 d w := by
  intro k
  induction k with
  | zero =>
    intro P Q
    rw [g_lv_S]
    constructor
    · rintro ⟨w, h1, h2⟩
      exact ⟨P, List.mem_singleton.mpr rfl, w, h1, List.mem_singleton.mp h2⟩
    · rintro ⟨Q0, h0, w, h1, h2⟩
      have : Q0 = P := List.mem_singleton.mp h0
      subst this
      exact ⟨w, h1, List.mem_singleton.mpr h2⟩
  | succ k ih =>
    intro P Q
    rw [g_lv_S]
    constructor
    · rintro ⟨w, h1, h2⟩
      obtain ⟨Q0, q1, v, q2, q3⟩ := (ih _ _).mp h2
      exact ⟨Q0, g_lv_S.mpr ⟨w, h1, q1⟩, v, q2, q3⟩
    · rintro ⟨Q0, h0, v, q2, q3⟩
      obtain ⟨w, h1, h2⟩ := g_lv_S.mp h0
      exact ⟨w, h1, (ih _ _).mpr ⟨Q0, h2, v, q2, q3⟩⟩
theorem g_lv_ok {d : Nat} : ∀ (k : Nat) (P Q : GP), g_ok P → Q ∈ g_lv d k P → g_ok Q := by
  intro k
  induction k with
  | zero => intro P Q hP h; rw [List.mem_singleton.mp h]; exact hP
  | succ k ih =>
    intro P Q hP h
    obtain ⟨w, h1, h2⟩ := g_lv_S.mp h
    exact ih _ _ (g_ok_st hP h1) h2
theorem g_lv_rl {d : Nat} (hd : 1 ≤ d) : ∀ (k m : Nat) (P Q : GP), Q ∈ g_lv d k P → g_rl d (k + m) P = k + g_rl d m Q := by
  intro k
  induction k with
  | zero =>
    intro m P Q h
    rw [List.mem_singleton.mp h, Nat.zero_add, Nat.zero_add]
  | succ k ih =>
    intro m P Q h
    obtain ⟨w, h1, h2⟩ := g_lv_S.mp h
    rw [show k + 1 + m = (k + m) + 1 by omega, g_rl_step hd h1, ih m _ Q h2]
    omega
theorem g_rl_0 {d : Nat} {m : Nat} {Q : GP} : g_rl d (m + 1) Q = 0 ↔ ∀ w, ¬ g_A Q d w := by
  constructor
  · intro h w hw
    have := g_rl_ge (d := d) (n := m) hw
    omega
  · exact g_rl_none
theorem St_like {a6 : Bool} {n d : Nat} {P : GP} (hd : 1 ≤ d) (hn : n ≤ 4) (hall : ∀ k, k ≤ 4 → List.replicate k d ∈ d_all) (hP : g_ok P) {S0 : GP × List Nat → Prop} (hS0 : ∀ x, S0 x ↔ x = (P, List.replicate n d)) : ∀ (k : Nat) (x : GP × List Nat), St a6 S0 k x ↔ k ≤ n ∧ ∃ Q, Q ∈ g_lv d k P ∧ x = (Q, List.replicate (n - k) d) := by
  intro k
  induction k with
  | zero =>
    intro x
    constructor
    · rintro ⟨h1, -⟩
      exact ⟨Nat.zero_le _, P, List.mem_singleton.mpr rfl, (hS0 x).mp h1⟩
    · rintro ⟨-, Q, h1, h2⟩
      rw [List.mem_singleton.mp h1] at h2
      exact ⟨(hS0 x).mpr h2, by rw [h2]; exact ⟨hP, hall _ (by omega)⟩⟩
  | succ k ih =>
    intro x
    constructor
    · rintro ⟨hg, z, hz, hs⟩
      obtain ⟨k1, Q, q1, q2⟩ := (ih z).mp hz
      subst q2
      by_cases c : n - k = 0
      · have : c_sc a6 (List.replicate (n - k) d) Q = [] := c_sc_0 (by rw [c]; rfl)
        rw [this] at hs; cases hs
      · obtain ⟨m, hm⟩ : ∃ m, n - k = m + 1 := ⟨n - k - 1, by omega⟩
        rw [hm] at hs
        obtain ⟨v, v1, v2⟩ := (c_sc_rep (by omega)).mp hs
        have hgz : s_gd (g_st Q d v, List.replicate m d) := by
          have k1 : g_ok (g_st Q d v) := g_ok_st (g_lv_ok k P Q hP q1) v1
          generalize g_st Q d v = Q' at k1
          exact ⟨k1, hall m (by omega)⟩
        have hx := s_inj hg hgz v2
        refine ⟨by omega, g_st Q d v, (g_lv_last k P _).mpr ⟨Q, q1, v, v1, rfl⟩, ?_⟩
        rw [hx, show n - (k + 1) = m by omega]
    · rintro ⟨k1, Q, q1, q2⟩
      obtain ⟨Q0, z1, v, z2, z3⟩ := (g_lv_last k P Q).mp q1
      have hgx : s_gd x := by rw [q2]; exact ⟨g_lv_ok (k + 1) P Q hP q1, hall _ (by omega)⟩
      refine ⟨hgx, (Q0, List.replicate (n - k) d), (ih _).mpr ⟨by omega, Q0, z1, rfl⟩, ?_⟩
      obtain ⟨m, hm⟩ : ∃ m, n - k = m + 1 := ⟨n - k - 1, by omega⟩
      show s_of x ∈ c_sc a6 (List.replicate (n - k) d) Q0
      rw [hm]
      refine (c_sc_rep (by omega)).mpr ⟨v, z2, ?_⟩
      rw [q2, z3, show n - (k + 1) = m by omega]
theorem sc_like {a6 : Bool} {n k d : Nat} {P Q : GP} (hd : 1 ≤ d) (hn : n ≤ 4) (hk : k ≤ n) (hQ : Q ∈ g_lv d k P) : c_sc a6 (List.replicate (n - k) d) Q = [] ↔ k = g_rl d n P := by
  have h1 := g_lv_rl hd k (n - k) P Q hQ
  rw [show k + (n - k) = n by omega] at h1
  by_cases c : n - k = 0
  · rw [c] at h1 ⊢
    have h2 : g_rl d 0 Q = 0 := rfl
    constructor
    · intro _; omega
    · intro _; exact c_sc_0 rfl
  · obtain ⟨m, hm⟩ : ∃ m, n - k = m + 1 := ⟨n - k - 1, by omega⟩
    rw [hm] at h1 ⊢
    constructor
    · intro h
      have h0 : g_rl d (m + 1) Q = 0 := g_rl_0.mpr (fun w hw => by
        have : s_of (g_st Q d w, List.replicate m d) ∈ c_sc a6 (List.replicate (m + 1) d) Q := (c_sc_rep (by omega)).mpr ⟨w, hw, rfl⟩
        rw [h] at this; cases this)
      omega
    · intro h
      have h0 : g_rl d (m + 1) Q = 0 := by omega
      apply List.eq_nil_iff_forall_not_mem.mpr
      intro y hy
      obtain ⟨v, v1, -⟩ := (c_sc_rep (by omega)).mp hy
      exact g_rl_0.mp h0 v v1
theorem ends_like {a6 : Bool} {n d : Nat} {P : GP} (hd : 1 ≤ d) (hn : n ≤ 4) (hall : ∀ k, k ≤ 4 → List.replicate k d ∈ d_all) (htu : mX0_turned (d_I (List.replicate n d)) = some (d_I (List.replicate n d))) (hP : g_ok P) : ∃ E : List KS, pE (b_L P.1) (b_L P.2) (d_I (List.replicate n d)) a6 = some (nI E.length) ∧ E.Nodup ∧ ∀ y, y ∈ E ↔ ∃ Q, Q ∈ g_lv d (g_rl d n P) P ∧ y = s_of (Q, []) := by
  have hr : g_rl d n P ≤ n := g_rl_leN
  have hSt := St_like (a6 := a6) (S0 := fun x => x = (P, List.replicate n d)) hd hn hall hP (fun x => Iff.rfl)
  have hcap : s_cap a6 (fun x => x = (P, List.replicate n d)) (fun k => if k ≤ 4 then (g_cn d k 17 P).map (fun Q => s_of (Q, List.replicate (n - k) d)) else []) ((g_cn d (g_rl d n P) 17 P).map (fun Q => s_of (Q, []))) := by
    refine ⟨fun k hk => ?_, ?_, fun k x hk hx => ?_, fun k x hk hx hc => ?_⟩
    · by_cases c : k ≤ 4
      · have h1 := g_cn_126 (j := k) hd (by omega) hP
        have h2 := c_N_6 k (by omega)
        show (if k ≤ 4 then _ else _ : List KS).length ≤ 128
        rw [if_pos c, List.length_map]; omega
      · show (if k ≤ 4 then _ else _ : List KS).length ≤ 128
        rw [if_neg c]; exact Nat.zero_le _
    · have h1 := g_cn_126 (j := g_rl d n P) hd (by omega) hP
      have h2 := c_N_6 (g_rl d n P) (by omega)
      rw [List.length_map]; omega
    · obtain ⟨k1, Q, q1, q2⟩ := (hSt k x).mp hx
      show s_of x ∈ (if k ≤ 4 then _ else _ : List KS)
      rw [if_pos (by omega), q2]
      exact List.mem_map.mpr ⟨Q, g_lv_cn hd k P Q q1, rfl⟩
    · obtain ⟨k1, Q, q1, q2⟩ := (hSt k x).mp hx
      rw [q2] at hc ⊢
      have hk2 := (sc_like hd hn k1 q1).mp hc
      rw [← hk2]
      exact List.mem_map.mpr ⟨Q, g_lv_cn hd k P Q q1, rfl⟩
  obtain ⟨E, e1, e2, e3⟩ := c_ends (a6 := a6) (x0 := (P, List.replicate n d)) ⟨hP, hall n hn⟩ (hall n hn) htu (S0 := fun x => x = (P, List.replicate n d)) (fun x => ⟨fun h => Or.inl h, fun h => by
    rcases h with h | ⟨-, h⟩
    · exact h
    · exact h⟩) hcap
  refine ⟨E, e1, e2, fun y => ?_⟩
  rw [e3]
  constructor
  · rintro ⟨j, x, j1, j2, j3, j4⟩
    obtain ⟨k1, Q, q1, q2⟩ := (hSt j x).mp j2
    rw [q2] at j3 j4
    have hk2 := (sc_like hd hn k1 q1).mp j3
    rw [← hk2]
    exact ⟨Q, q1, j4⟩
  · rintro ⟨Q, q1, q2⟩
    exact ⟨g_rl d n P, (Q, List.replicate (n - g_rl d n P) d), by omega, (hSt _ _).mpr ⟨hr, Q, q1, rfl⟩, (sc_like hd hn hr q1).mpr rfl, q2⟩
