/-! the class counts ends -/
theorem c_fl_eq {a6 : Bool} {ds : List Nat} {P : GP} : ∀ (ks : List Nat) (f : Bool), c_fl a6 ds P f ks = (f || !(c_kl a6 ds P f ks).isEmpty) := by
  intro ks
  induction ks with
  | nil => intro f; show f = (f || !true); cases f <;> rfl
  | cons d ks ih =>
    intro f
    show (if a6 = true ∧ f = true then f else c_fl a6 ds P (f || !(c_wl ds P d 17 1).isEmpty) ks) = (f || !(if a6 = true ∧ f = true then [] else c_wl ds P d 17 1 ++ c_kl a6 ds P (f || !(c_wl ds P d 17 1).isEmpty) ks).isEmpty)
    by_cases h : a6 = true ∧ f = true
    · rw [if_pos h, if_pos h, h.2]; rfl
    · rw [if_neg h, if_neg h, ih]
      generalize c_kl a6 ds P (f || !(c_wl ds P d 17 1).isEmpty) ks = L
      generalize c_wl ds P d 17 1 = M
      cases M with
      | nil => cases L <;> cases f <;> rfl
      | cons x M => cases L <;> cases f <;> rfl
def e_ad (a6 : Bool) (KE : List KS) (x : GP × List Nat) : List KS := c_116 (c_fl a6 x.2 x.1 false (d_ks x.2)) KE x.1
theorem c_fl_sc {a6 : Bool} {ds : List Nat} {P : GP} : c_fl a6 ds P false (d_ks ds) = false ↔ c_sc a6 ds P = [] := by
  rw [c_fl_eq, Bool.false_or]
  show (!(c_sc a6 ds P).isEmpty) = false ↔ _
  cases c_sc a6 ds P with
  | nil => exact ⟨fun _ => rfl, fun _ => rfl⟩
  | cons a l => exact ⟨fun h => (by cases h), fun h => (by cases h)⟩
theorem e_ad_mem {a6 : Bool} {KE : List KS} {x : GP × List Nat} {y : KS} : y ∈ e_ad a6 KE x ↔ y ∈ KE ∨ (c_sc a6 x.2 x.1 = [] ∧ y = s_of (x.1, [])) := by
  unfold e_ad c_116
  cases h : c_fl a6 x.2 x.1 false (d_ks x.2)
  · have h2 := c_fl_sc.mp h
    rw [if_neg (show ¬ false = true by decide), l_ad_mem]
    constructor
    · rintro (q | q)
      · exact Or.inl q
      · exact Or.inr ⟨h2, q⟩
    · rintro (q | ⟨-, q⟩)
      · exact Or.inl q
      · exact Or.inr q
  · rw [if_pos rfl]
    constructor
    · intro q; exact Or.inl q
    · rintro (q | ⟨q, -⟩)
      · exact q
      · rw [c_fl_sc.mpr q] at h; cases h
theorem e_ad_nodup {a6 : Bool} {KE : List KS} {x : GP × List Nat} (h : KE.Nodup) : (e_ad a6 KE x).Nodup := by
  unfold e_ad c_116
  split
  · exact h
  · exact l_ad_nodup h
theorem c_goOn {a6 : Bool} {x : GP × List Nat} (hds : x.2 ∈ d_all) (hP : g_ok x.1) {C CE : List KS} (hC : C.length ≤ 128) (hCE : CE.length ≤ 128) {j : JF} {KF KE : List KS} (hj : RF j KF KE) (hEn : KE.Nodup) (hEC : ∀ y ∈ KE, y ∈ CE) (hK : KF.Nodup) (hKC : ∀ y ∈ KF, y ∈ C) (hCC : ∀ y ∈ c_sc a6 x.2 x.1, y ∈ C) (hcE : c_sc a6 x.2 x.1 = [] → s_of (x.1, []) ∈ CE) :
    ∃ j' : JF, mX4_goOn j.1 j.2.1 j.2.2.1 j.2.2.2.1 j.2.2.2.2.1 j.2.2.2.2.2.1 j.2.2.2.2.2.2.1 j.2.2.2.2.2.2.2 (b_L x.1.1) (b_L x.1.2) (d_I x.2) a6 = some j' ∧ RF j' (l_ads KF (c_sc a6 x.2 x.1)) (e_ad a6 KE x) := by
  obtain ⟨j', e, r⟩ := c_goOn16 (a6 := a6) hds hP rfl hC hCE hj.2 hEn hEC (d_ks x.2).length 0 k_F false j.1 j.2.1 j.2.2.1 j.2.2.2.1 KF (by omega) (by have := d_ks_len x.2 hds; generalize hk : k_F = F; have : F = 4096 := hk.symm; omega) hK hKC (fun y hy => hCC y hy) (fun q => hcE (c_fl_sc.mp q)) hj.1
  refine ⟨j', ?_, r⟩
  have hrc : mX7_reachOf 6 (b_L x.1.1) (b_L x.1.2) (d_I x.2) (nI 4) = some (nI (g_R x.2 x.1)) := c_reach (P := x.1) hds hP
  unfold mX4_goOn
  rw [kn_4, k_bd_some hrc]
  rw [nI_0] at e
  exact e
theorem RR_at {m t : Nat → Int64} {d : Nat → Int32} {size : Int32} {X : List (GP × List Nat)} {i : Nat} (h : RR m t d size (X.map s_of)) (hi : i < X.length) : mX5_mineAt m size (nI i) = some (b_L (X.getD i ((fun _ => 0, fun _ => 0), [])).1.1) ∧ mX5_theirsAt t size (nI i) = some (b_L (X.getD i ((fun _ => 0, fun _ => 0), [])).1.2) ∧ mX5_diceAt d size (nI i) = some (d_I (X.getD i ((fun _ => 0, fun _ => 0), [])).2) := by
  obtain ⟨h1, h2, h3⟩ := h
  rw [List.length_map] at h1 h2 h3
  have e3 := h3 i hi
  have e4 : (X.map s_of).getD i (0, 0, 0) = s_of (X.getD i ((fun _ => 0, fun _ => 0), [])) := by
    rw [List.getD_eq_getElem?_getD, List.getD_eq_getElem?_getD, List.getElem?_map, List.getElem?_eq_getElem hi]
    rfl
  rw [e4] at e3
  have hin : mX5_isIn size (nI i) = some true := by
    unfold mX5_isIn
    rw [h1, if_neg (nI_pos (by omega)), if_neg (nI_ge hi (by omega)), if_neg (show ¬ (128 : Int32) ≤ nI i from nI_ge (a := i) (b := 128) (by omega) (by omega))]
  generalize X.getD i ((fun _ => 0, fun _ => 0), []) = x at e3
  have a1 : m i = b_L x.1.1 := congrArg Prod.fst e3
  have a2 : t i = b_L x.1.2 := congrArg (fun z => z.2.1) e3
  have a3 : d i = d_I x.2 := congrArg (fun z => z.2.2) e3
  refine ⟨?_, ?_, ?_⟩
  · unfold mX5_mineAt
    rw [k_bd_some hin, if_neg (show ¬ k_b true = 0 by decide), k_g_in (by omega) (by omega), nI_clamp (by omega), a1]
  · unfold mX5_theirsAt
    rw [k_bd_some hin, if_neg (show ¬ k_b true = 0 by decide), k_g_in (by omega) (by omega), nI_clamp (by omega), a2]
  · unfold mX5_diceAt
    rw [k_bd_some hin, if_neg (show ¬ k_b true = 0 by decide), k_g_in (by omega) (by omega), nI_clamp (by omega), a3]
def f_go (a6 : Bool) : List KS → List (GP × List Nat) → List KS
  | K, [] => K
  | K, x :: X => f_go a6 (l_ads K (c_sc a6 x.2 x.1)) X
def e_go (a6 : Bool) : List KS → List (GP × List Nat) → List KS
  | K, [] => K
  | K, x :: X => e_go a6 (e_ad a6 K x) X
theorem f_go_mem {a6 : Bool} : ∀ {X : List (GP × List Nat)} {K : List KS} {y : KS}, y ∈ f_go a6 K X ↔ y ∈ K ∨ ∃ x ∈ X, y ∈ c_sc a6 x.2 x.1 := by
  intro X
  induction X with
  | nil => intro K y; show y ∈ K ↔ _; simp
  | cons x X ih =>
    intro K y
    show y ∈ f_go a6 (l_ads K (c_sc a6 x.2 x.1)) X ↔ _
    rw [ih, l_ads_mem]
    constructor
    · rintro ((h | h) | ⟨z, h1, h2⟩)
      · exact Or.inl h
      · exact Or.inr ⟨x, List.mem_cons_self .., h⟩
      · exact Or.inr ⟨z, List.mem_cons_of_mem _ h1, h2⟩
    · rintro (h | ⟨z, h1, h2⟩)
      · exact Or.inl (Or.inl h)
      · rcases List.mem_cons.mp h1 with rfl | h1
        · exact Or.inl (Or.inr h2)
        · exact Or.inr ⟨z, h1, h2⟩
theorem f_go_nodup {a6 : Bool} : ∀ {X : List (GP × List Nat)} {K : List KS}, K.Nodup → (f_go a6 K X).Nodup := by
  intro X
  induction X with
  | nil => intro K h; exact h
  | cons x X ih => intro K h; exact ih (l_ads_nodup h)
theorem e_go_mem {a6 : Bool} : ∀ {X : List (GP × List Nat)} {K : List KS} {y : KS}, y ∈ e_go a6 K X ↔ y ∈ K ∨ ∃ x ∈ X, c_sc a6 x.2 x.1 = [] ∧ y = s_of (x.1, []) := by
  intro X
  induction X with
  | nil => intro K y; show y ∈ K ↔ _; simp
  | cons x X ih =>
    intro K y
    show y ∈ e_go a6 (e_ad a6 K x) X ↔ _
    rw [ih, e_ad_mem]
    constructor
    · rintro ((h | h) | ⟨z, h1, h2⟩)
      · exact Or.inl h
      · exact Or.inr ⟨x, List.mem_cons_self .., h⟩
      · exact Or.inr ⟨z, List.mem_cons_of_mem _ h1, h2⟩
    · rintro (h | ⟨z, h1, h2⟩)
      · exact Or.inl (Or.inl h)
      · rcases List.mem_cons.mp h1 with rfl | h1
        · exact Or.inl (Or.inr h2)
        · exact Or.inr ⟨z, h1, h2⟩
theorem e_go_nodup {a6 : Bool} : ∀ {X : List (GP × List Nat)} {K : List KS}, K.Nodup → (e_go a6 K X).Nodup := by
  intro X
  induction X with
  | nil => intro K h; exact h
  | cons x X ih => intro K h; exact ih (e_ad_nodup h)
abbrev K47 := Int32 → (Nat → Int64) → (Nat → Int64) → (Nat → Int32) → Int32 → (Nat → Int64) → (Nat → Int64) → (Nat → Int32) → Int32 → (Nat → Int64) → (Nat → Int64) → (Nat → Int32) → Int32 → Option JR
def s_gd (x : GP × List Nat) : Prop := g_ok x.1 ∧ x.2 ∈ d_all
theorem c_72 {a6 : Bool} {k47 : K47} {a1 a3 : Int64} {a5 : Int32} {l7 : Int32} {X : List (GP × List Nat)} {pm pt : Nat → Int64} {pd : Nat → Int32} {pn : Int32} (hp : RR pm pt pd pn (X.map s_of)) (hX : ∀ x ∈ X, s_gd x) {C CE : List KS} (hC : C.length ≤ 128) (hCE : CE.length ≤ 128) (hCC : ∀ x ∈ X, ∀ y ∈ c_sc a6 x.2 x.1, y ∈ C) (hcE : ∀ x ∈ X, c_sc a6 x.2 x.1 = [] → s_of (x.1, []) ∈ CE) : ∀ (n i F : Nat) (j : JF) (KF KE : List KS), i + n = X.length → n < F → RF j KF KE → KF.Nodup → KE.Nodup → (∀ y ∈ KF, y ∈ C) → (∀ y ∈ KE, y ∈ CE) →
    ∃ j' : JF, k_fix (fun _ _ _ _ _ _ _ _ _ _ _ _ _ _ _ => none) (mX4_countEnds_72 a1 a3 a5 a6 k47) F l7 (nI X.length) (nI i) pm pt pd pn j.1 j.2.1 j.2.2.1 j.2.2.2.1 j.2.2.2.2.1 j.2.2.2.2.2.1 j.2.2.2.2.2.2.1 j.2.2.2.2.2.2.2 = k47 (l7 + 1) j'.1 j'.2.1 j'.2.2.1 j'.2.2.2.1 pm pt pd pn j'.2.2.2.2.1 j'.2.2.2.2.2.1 j'.2.2.2.2.2.2.1 j'.2.2.2.2.2.2.2 ∧ RF j' (f_go a6 KF (X.drop i)) (e_go a6 KE (X.drop i)) := by
  have hlen : X.length ≤ 128 := by have := hp.2.1; rw [List.length_map] at this; exact this
  intro n
  induction n with
  | zero =>
    intro i F j KF KE hi hF hj _ _ _ _
    obtain rfl : i = X.length := by omega
    rw [List.drop_length]
    refine ⟨j, ?_, hj⟩
    rw [k_fix1 hF, mX4_countEnds_72, if_pos (nI_le (Nat.le_refl _) (by omega))]
  | succ n ih =>
    intro i F j KF KE hi hF hj hKn hEn hKC hEC
    have hil : i < X.length := by omega
    obtain ⟨b1, b2, b3⟩ := RR_at hp hil
    have hdrop := l_drop_cons (z := (((fun _ => 0, fun _ => 0), []) : GP × List Nat)) hil
    have hmem : X.getD i ((fun _ => 0, fun _ => 0), []) ∈ X := l_getD_mem hil
    generalize X.getD i ((fun _ => 0, fun _ => 0), []) = x at b1 b2 b3 hdrop hmem
    obtain ⟨g1, g2⟩ := hX x hmem
    obtain ⟨j1, e1, r1⟩ := c_goOn (a6 := a6) g2 g1 hC hCE hj hEn hEC hKn hKC (hCC x hmem) (hcE x hmem)
    obtain ⟨j2, e2, r2⟩ := ih (i + 1) (F - 1) j1 (l_ads KF (c_sc a6 x.2 x.1)) (e_ad a6 KE x) (by omega) (by omega) r1 (l_ads_nodup hKn) (e_ad_nodup hEn) (fun y hy => by
      rcases l_ads_mem.mp hy with q | q
      · exact hKC y q
      · exact hCC x hmem y q) (fun y hy => by
      rcases e_ad_mem.mp hy with q | ⟨q1, q2⟩
      · exact hEC y q
      · rw [q2]; exact hcE x hmem q1)
    rw [hdrop]
    refine ⟨j2, ?_, r2⟩
    rw [k_fix1 (by omega), mX4_countEnds_72, if_neg (nI_ge hil (by omega)), k_bd_some b1, k_bd_some b2, k_bd_some b3, k_bd8_some e1, nI_1, e2]
