/-! plays, as the class tells them -/
def s_of (x : GP × List Nat) : KS := (b_L x.1.1, b_L x.1.2, d_I x.2)
def c_wl (ds : List Nat) (P : GP) (d : Nat) : Nat → Nat → List KS
  | 0, _ => []
  | n + 1, w => (if g_re ds P d w = 0 then [s_of (g_st P d w, ds.erase d)] else []) ++ c_wl ds P d n (w + 1)
theorem c_wl_mem {ds : List Nat} {P : GP} {d : Nat} {y : KS} : ∀ {n w : Nat}, y ∈ c_wl ds P d n w ↔ ∃ v, w ≤ v ∧ v < w + n ∧ g_re ds P d v = 0 ∧ y = s_of (g_st P d v, ds.erase d) := by
  intro n
  induction n with
  | zero =>
    intro w
    constructor
    · intro h; cases h
    · rintro ⟨v, h1, h2, -⟩; omega
  | succ n ih =>
    intro w
    show y ∈ (if g_re ds P d w = 0 then [s_of (g_st P d w, ds.erase d)] else []) ++ c_wl ds P d n (w + 1) ↔ _
    rw [List.mem_append, ih]
    constructor
    · rintro (h | ⟨v, h1, h2, h3, h4⟩)
      · by_cases c : g_re ds P d w = 0
        · rw [if_pos c, List.mem_singleton] at h
          exact ⟨w, Nat.le_refl _, by omega, c, h⟩
        · rw [if_neg c] at h; cases h
      · exact ⟨v, by omega, by omega, h3, h4⟩
    · rintro ⟨v, h1, h2, h3, h4⟩
      by_cases c : v = w
      · subst c
        rw [if_pos h3, List.mem_singleton]
        exact Or.inl h4
      · exact Or.inr ⟨v, by omega, by omega, h3, h4⟩
def c_kl (a6 : Bool) (ds : List Nat) (P : GP) : Bool → List Nat → List KS
  | _, [] => []
  | f, d :: ks => if a6 = true ∧ f = true then [] else c_wl ds P d 17 1 ++ c_kl a6 ds P (f || !(c_wl ds P d 17 1).isEmpty) ks
def c_sc (a6 : Bool) (ds : List Nat) (P : GP) : List KS := c_kl a6 ds P false (d_ks ds)
abbrev JF := (Nat → Int64) × (Nat → Int64) × (Nat → Int32) × Int32 × (Nat → Int64) × (Nat → Int64) × (Nat → Int32) × Int32
def RF (j : JF) (KF KE : List KS) : Prop := RR j.1 j.2.1 j.2.2.1 j.2.2.2.1 KF ∧ RR j.2.2.2.2.1 j.2.2.2.2.2.1 j.2.2.2.2.2.2.1 j.2.2.2.2.2.2.2 KE
abbrev K16 := Int32 → Bool → Int32 → (Nat → Int64) → (Nat → Int64) → (Nat → Int32) → Int32 → (Nat → Int64) → (Nat → Int64) → (Nat → Int32) → Int32 → Option JF
theorem r_th (P : GP) (d w : Nat) : s_of (g_st P d w, ([] : List Nat)) = s_of (g_st P d w, []) := rfl
theorem c_goOn48 {a6 : Bool} {k16 : K16} {ds : List Nat} {P : GP} {d l9 : Nat} {R : Nat} (hds : ds ∈ d_all) (hP : g_ok P) (hd : d ∈ ds) (hR : R = g_R ds P) {C : List KS} (hC : C.length ≤ 128) {em et : Nat → Int64} {ed : Nat → Int32} {en : Int32} : ∀ (n w F : Nat) (l8 : Bool) (fm ft : Nat → Int64) (fd : Nat → Int32) (fn : Int32) (KF : List KS), 1 ≤ w → w + n = 18 → n < F → KF.Nodup → (∀ x ∈ KF, x ∈ C) → (∀ x ∈ c_wl ds P d n w, x ∈ C) → RR fm ft fd fn KF →
    ∃ fm' ft' fd' fn', k_fix (fun _ _ _ _ _ _ _ _ _ _ _ _ _ => none) (mX4_goOn_48 (b_L P.1) (b_L P.2) (d_I ds) a6 k16) F (nI R) l8 (nI l9) (nI d) (nI w) fm ft fd fn em et ed en = k16 (nI R) (l8 || !(c_wl ds P d n w).isEmpty) (nI l9 + 1) fm' ft' fd' fn' em et ed en ∧ RR fm' ft' fd' fn' (l_ads KF (c_wl ds P d n w)) := by
  have hr := d_range ds hds d hd
  intro n
  induction n with
  | zero =>
    intro w F l8 fm ft fd fn KF hw1 hw hF hK hKC hCC hR'
    obtain rfl : w = 18 := by omega
    refine ⟨fm, ft, fd, fn, ?_, hR'⟩
    rw [k_fix1 hF, mX4_goOn_48, if_pos (show (17 : Int32) < nI 18 by decide)]
    show _ = k16 (nI R) (l8 || !([] : List KS).isEmpty) (nI l9 + 1) fm ft fd fn em et ed en
    rw [show (l8 || !([] : List KS).isEmpty) = l8 from by cases l8 <;> rfl]
  | succ n ih =>
    intro w F l8 fm ft fd fn KF hw1 hw hF hK hKC hCC hR'
    have hre : mX7_reason (b_L P.1) (b_L P.2) (d_I ds) (nI w) (nI d) (nI R) = some (nI (g_re ds P d w)) := by rw [hR]; exact c_reason (P := P) hds hP hr.1 hr.2 hw1 (by omega)
    have h17 : ¬ (17 : Int32) < nI w := nI_nlt (a := 17) (b := w) (by omega) (by omega)
    have hlt := g_re_lt (ds := ds) (P := P) (d := d) (w := w)
    by_cases h0 : g_re ds P d w = 0
    · have hA := (g_re_A hw1 (by omega) h0).2
      have hpos : 0 < P.1 w := (g_ban0.mp hA.2.2).1
      have hwl : c_wl ds P d (n + 1) w = s_of (g_st P d w, ds.erase d) :: c_wl ds P d n (w + 1) := by
        show (if g_re ds P d w = 0 then [s_of (g_st P d w, ds.erase d)] else []) ++ c_wl ds P d n (w + 1) = _
        rw [if_pos h0]; rfl
      rw [hwl] at hCC ⊢
      obtain ⟨fm1, ft1, fd1, fn1, e1, R1⟩ := c_add (a := s_of (g_st P d w, ds.erase d)) hR' (l_room hK hKC (hCC _ (List.mem_cons_self ..)) hC)
      have e1' : mX5_add fm ft fd fn (b_L (g_mv P.1 d w)) (b_L (g_th P.2 d w)) (d_I (ds.erase d)) = some (fm1, ft1, fd1, fn1) := e1
      obtain ⟨fm2, ft2, fd2, fn2, e2, R2⟩ := ih (w + 1) (F - 1) true fm1 ft1 fd1 fn1 (l_ad KF (s_of (g_st P d w, ds.erase d))) (by omega) (by omega) (by omega) (l_ad_nodup hK) (fun x hx => by
        rcases l_ad_mem.mp hx with q | q
        · exact hKC x q
        · rw [q]; exact hCC _ (List.mem_cons_self ..)) (fun x hx => hCC x (List.mem_cons_of_mem _ hx)) R1
      refine ⟨fm2, ft2, fd2, fn2, ?_, R2⟩
      rw [k_fix1 (by omega), mX4_goOn_48, if_neg h17, k_bd_some hre, h0, if_pos nI_0, k_bd_some (c_mine (f := P.1) hP.1 hr.2 (by omega) hpos), k_bd_some (c_theirs (g := P.2) hP.2.1 hr.2 (by omega)), k_bd_some (d_without ds hds d hd), k_bd4_some e1', nI_1, e2]
      show k16 (nI R) (true || _) _ _ _ _ _ _ _ _ _ = k16 (nI R) (l8 || !(List.isEmpty (_ :: _))) _ _ _ _ _ _ _ _ _
      rw [Bool.true_or]
      show _ = k16 (nI R) (l8 || true) _ _ _ _ _ _ _ _ _
      rw [Bool.or_true]
    · have hwl : c_wl ds P d (n + 1) w = c_wl ds P d n (w + 1) := by
        show (if g_re ds P d w = 0 then [s_of (g_st P d w, ds.erase d)] else []) ++ c_wl ds P d n (w + 1) = _
        rw [if_neg h0]; rfl
      rw [hwl] at hCC ⊢
      obtain ⟨fm2, ft2, fd2, fn2, e2, R2⟩ := ih (w + 1) (F - 1) l8 fm ft fd fn KF (by omega) (by omega) (by omega) hK hKC hCC hR'
      refine ⟨fm2, ft2, fd2, fn2, ?_, R2⟩
      rw [k_fix1 (by omega), mX4_goOn_48, if_neg h17, k_bd_some hre, if_neg (show ¬ nI (g_re ds P d w) = (0 : Int32) from nI_ne0 (by omega) (by omega)), nI_1, e2]
theorem d_ks_len : ∀ ds ∈ d_all, (d_ks ds).length ≤ 2 := by decide +kernel
theorem l_drop_cons {α : Type} {l : List α} {i : Nat} {z : α} (h : i < l.length) : l.drop i = l.getD i z :: l.drop (i + 1) := by
  rw [List.drop_eq_getElem_cons h, List.getD_eq_getElem?_getD, List.getElem?_eq_getElem h]
  rfl
theorem l_ads_nil {α : Type} [DecidableEq α] {K : List α} : l_ads K [] = K := rfl
def c_116 (f : Bool) (KE : List KS) (P : GP) : List KS := if f = true then KE else l_ad KE (s_of (P, []))
def c_fl (a6 : Bool) (ds : List Nat) (P : GP) : Bool → List Nat → Bool
  | f, [] => f
  | f, d :: ks => if a6 = true ∧ f = true then f else c_fl a6 ds P (f || !(c_wl ds P d 17 1).isEmpty) ks
theorem c_goOn16 {a6 : Bool} {ds : List Nat} {P : GP} {R : Nat} (hds : ds ∈ d_all) (hP : g_ok P) (hR : R = g_R ds P) {C CE : List KS} (hC : C.length ≤ 128) (hCE : CE.length ≤ 128) {em et : Nat → Int64} {ed : Nat → Int32} {en : Int32} {KE : List KS} (hE : RR em et ed en KE) (hEn : KE.Nodup) (hEC : ∀ x ∈ KE, x ∈ CE) : ∀ (n i F : Nat) (l8 : Bool) (fm ft : Nat → Int64) (fd : Nat → Int32) (fn : Int32) (KF : List KS), i + n = (d_ks ds).length → n < F → KF.Nodup → (∀ x ∈ KF, x ∈ C) → (∀ x ∈ c_kl a6 ds P l8 ((d_ks ds).drop i), x ∈ C) → (c_fl a6 ds P l8 ((d_ks ds).drop i) = false → s_of (P, []) ∈ CE) → RR fm ft fd fn KF →
    ∃ j : JF, k_fix (fun _ _ _ _ _ _ _ _ _ _ _ => none) (mX4_goOn_16 (b_L P.1) (b_L P.2) (d_I ds) a6) F (nI R) l8 (nI i) fm ft fd fn em et ed en = some j ∧ RF j (l_ads KF (c_kl a6 ds P l8 ((d_ks ds).drop i))) (c_116 (c_fl a6 ds P l8 ((d_ks ds).drop i)) KE P) := by
  have hk := d_kinds ds hds
  have hl2 := d_ks_len ds hds
  have h116 : ∀ (l8 : Bool) (fm ft : Nat → Int64) (fd : Nat → Int32) (fn : Int32) (KF : List KS), RR fm ft fd fn KF → (l8 = false → s_of (P, []) ∈ CE) → ∃ j : JF, mX4_goOn_116 (b_L P.1) (b_L P.2) (d_I ds) a6 l8 fm ft fd fn em et ed en = some j ∧ RF j KF (c_116 l8 KE P) := by
    intro l8 fm ft fd fn KF hF hc
    unfold mX4_goOn_116 c_116
    cases l8
    · obtain ⟨m', t', d', n', e1, R1⟩ := c_add (a := s_of (P, [])) hE (l_room hEn hEC (hc rfl) hCE)
      have hd0 : d_I [] = 0 := by decide +kernel
      have e1' : mX5_add em et ed en (b_L P.1) (b_L P.2) 0 = some (m', t', d', n') := by rw [← hd0]; exact e1
      rw [if_pos (show k_b false = 0 from rfl), k_bd4_some e1', if_neg (show ¬ false = true by decide)]
      exact ⟨_, rfl, hF, R1⟩
    · rw [if_neg (show ¬ k_b true = 0 by decide), if_pos rfl]
      exact ⟨_, rfl, hF, hE⟩
  intro n
  induction n with
  | zero =>
    intro i F l8 fm ft fd fn KF hi hF hK hKC hCC hcE hR'
    obtain rfl : i = (d_ks ds).length := by omega
    rw [List.drop_length] at hcE ⊢
    obtain ⟨j, e, r⟩ := h116 l8 fm ft fd fn KF hR' hcE
    refine ⟨j, ?_, r⟩
    rw [k_fix1 hF, mX4_goOn_16, k_bd_some hk, if_pos (nI_le (Nat.le_refl _) (by omega)), e]
  | succ n ih =>
    intro i F l8 fm ft fd fn KF hi hF hK hKC hCC hcE hR'
    have hil : i < (d_ks ds).length := by omega
    have hdrop := l_drop_cons (z := 0) hil
    have hat := d_ksat ds hds i hil
    have hdin : (d_ks ds).getD i 0 ∈ ds := d_ks_sub (l_getD_mem hil)
    generalize (d_ks ds).getD i 0 = d at hdrop hat hdin
    rw [hdrop] at hCC hcE ⊢
    have hlen : ¬ nI (d_ks ds).length ≤ nI i := nI_ge hil (by omega)
    by_cases hst : a6 = true ∧ l8 = true
    · have e1 : c_kl a6 ds P l8 (d :: (d_ks ds).drop (i + 1)) = [] := by
        show (if a6 = true ∧ l8 = true then [] else _) = _
        rw [if_pos hst]
      have e2 : c_fl a6 ds P l8 (d :: (d_ks ds).drop (i + 1)) = l8 := by
        show (if a6 = true ∧ l8 = true then l8 else _) = _
        rw [if_pos hst]
      rw [e1, e2]
      rw [e2] at hcE
      obtain ⟨j, e, r⟩ := h116 l8 fm ft fd fn KF hR' hcE
      refine ⟨j, ?_, r⟩
      rw [k_fix1 (by omega), mX4_goOn_16, k_bd_some hk, if_neg hlen, hst.1, hst.2, if_neg (show ¬ k_b true = 0 by decide), if_neg (show ¬ k_b true = 0 by decide)]
      rw [hst.1, hst.2] at e
      exact e
    · have e1 : c_kl a6 ds P l8 (d :: (d_ks ds).drop (i + 1)) = c_wl ds P d 17 1 ++ c_kl a6 ds P (l8 || !(c_wl ds P d 17 1).isEmpty) ((d_ks ds).drop (i + 1)) := by
        show (if a6 = true ∧ l8 = true then [] else _) = _
        rw [if_neg hst]
      have e2 : c_fl a6 ds P l8 (d :: (d_ks ds).drop (i + 1)) = c_fl a6 ds P (l8 || !(c_wl ds P d 17 1).isEmpty) ((d_ks ds).drop (i + 1)) := by
        show (if a6 = true ∧ l8 = true then l8 else _) = _
        rw [if_neg hst]
      rw [e1] at hCC ⊢
      rw [e2] at hcE ⊢
      rw [l_ads_app]
      obtain ⟨fm1, ft1, fd1, fn1, y1, y2⟩ := c_goOn48 (a6 := a6) (k16 := k_fix (fun _ _ _ _ _ _ _ _ _ _ _ => none) (mX4_goOn_16 (b_L P.1) (b_L P.2) (d_I ds) a6) (F - 1)) (l9 := i) hds hP hdin hR hC (em := em) (et := et) (ed := ed) (en := en) 17 1 k_F l8 fm ft fd fn KF (by omega) (by omega) (by generalize hk : k_F = F; have : F = 4096 := hk.symm; omega) hK hKC (fun x hx => hCC x (List.mem_append_left _ hx)) hR'
      obtain ⟨j, z1, z2⟩ := ih (i + 1) (F - 1) (l8 || !(c_wl ds P d 17 1).isEmpty) fm1 ft1 fd1 fn1 (l_ads KF (c_wl ds P d 17 1)) (by omega) (by omega) (l_ads_nodup hK) (fun x hx => by
        rcases l_ads_mem.mp hx with q | q
        · exact hKC x q
        · exact hCC x (List.mem_append_left _ q)) (fun x hx => hCC x (List.mem_append_right _ hx)) hcE y2
      refine ⟨j, ?_, z2⟩
      have h36 : mX4_goOn_36 (b_L P.1) (b_L P.2) (d_I ds) a6 (k_fix (fun _ _ _ _ _ _ _ _ _ _ _ => none) (mX4_goOn_16 (b_L P.1) (b_L P.2) (d_I ds) a6) (F - 1)) (nI R) l8 (nI i) fm ft fd fn em et ed en = some j := by
        unfold mX4_goOn_36
        rw [k_bd_some hat]
        rw [nI_1] at y1
        rw [show (1 : Int32) = nI 1 from rfl, y1, z1]
      rw [k_fix1 (by omega), mX4_goOn_16, k_bd_some hk, if_neg hlen, h36]
      cases a6
      · rw [if_pos (show k_b false = 0 from rfl)]
      · cases l8
        · rw [if_neg (show ¬ k_b true = 0 by decide), if_pos (show k_b false = 0 from rfl)]
        · exact absurd ⟨rfl, rfl⟩ hst
theorem c_fl_eq {a6 : Bool} {ds : List Nat} {P : GP} : ∀ (ks : List Nat) (f : Bool), c_fl a6 ds P f ks = (f || !(c_kl a6 ds P f ks).isEmpty) := by
  intro ks
  induction ks with
  | nil => intro f; show f = (f || !true); cases f <;> rfl
  | cons d ks ih =>
    intro f
    show (if a6 = true ∧ f = true then f else c_fl a6 ds P (f || !(c_wl ds P d 17 1).isEmpty) ks) = (f || !(if a6 = true ∧ f = true then [] else c_wl ds P d 17 1 ++ c_kl a6 ds P (f || !(c_wl ds P d 17 1).isEmpty) ks).isEmpty)
    by_cases h : a6 = true ∧ f = true
    · rw [if_pos h, if_pos h, h.2]; rfl
    · rw [if_neg h, if_neg h, ih]
      generalize c_kl a6 ds P (f || !(c_wl ds P d 17 1).isEmpty) ks = L
      generalize c_wl ds P d 17 1 = M
      cases M with
      | nil => cases L <;> cases f <;> rfl
      | cons x M => cases L <;> cases f <;> rfl
def e_ad (a6 : Bool) (KE : List KS) (x : GP × List Nat) : List KS := c_116 (c_fl a6 x.2 x.1 false (d_ks x.2)) KE x.1
theorem c_fl_sc {a6 : Bool} {ds : List Nat} {P : GP} : c_fl a6 ds P false (d_ks ds) = false ↔ c_sc a6 ds P = [] := by
  rw [c_fl_eq, Bool.false_or]
  show (!(c_sc a6 ds P).isEmpty) = false ↔ _
  cases c_sc a6 ds P with
  | nil => exact ⟨fun _ => rfl, fun _ => rfl⟩
  | cons a l => exact ⟨fun h => (by cases h), fun h => (by cases h)⟩
theorem e_ad_mem {a6 : Bool} {KE : List KS} {x : GP × List Nat} {y : KS} : y ∈ e_ad a6 KE x ↔ y ∈ KE ∨ (c_sc a6 x.2 x.1 = [] ∧ y = s_of (x.1, [])) := by
  unfold e_ad c_116
  cases h : c_fl a6 x.2 x.1 false (d_ks x.2)
  · have h2 := c_fl_sc.mp h
    rw [if_neg (show ¬ false = true by decide), l_ad_mem]
    constructor
    · rintro (q | q)
      · exact Or.inl q
      · exact Or.inr ⟨h2, q⟩
    · rintro (q | ⟨-, q⟩)
      · exact Or.inl q
      · exact Or.inr q
  · rw [if_pos rfl]
    constructor
    · intro q; exact Or.inl q
    · rintro (q | ⟨q, -⟩)
      · exact q
      · rw [c_fl_sc.mpr q] at h; cases h
theorem e_ad_nodup {a6 : Bool} {KE : List KS} {x : GP × List Nat} (h : KE.Nodup) : (e_ad a6 KE x).Nodup := by
  unfold e_ad c_116
  split
  · exact h
  · exact l_ad_nodup h
theorem c_goOn {a6 : Bool} {x : GP × List Nat} (hds : x.2 ∈ d_all) (hP : g_ok x.1) {C CE : List KS} (hC : C.length ≤ 128) (hCE : CE.length ≤ 128) {j : JF} {KF KE : List KS} (hj : RF j KF KE) (hEn : KE.Nodup) (hEC : ∀ y ∈ KE, y ∈ CE) (hK : KF.Nodup) (hKC : ∀ y ∈ KF, y ∈ C) (hCC : ∀ y ∈ c_sc a6 x.2 x.1, y ∈ C) (hcE : c_sc a6 x.2 x.1 = [] → s_of (x.1, []) ∈ CE) :
    ∃ j' : JF, mX4_goOn j.1 j.2.1 j.2.2.1 j.2.2.2.1 j.2.2.2.2.1 j.2.2.2.2.2.1 j.2.2.2.2.2.2.1 j.2.2.2.2.2.2.2 (b_L x.1.1) (b_L x.1.2) (d_I x.2) a6 = some j' ∧ RF j' (l_ads KF (c_sc a6 x.2 x.1)) (e_ad a6 KE x) := by
  obtain ⟨j', e, r⟩ := c_goOn16 (a6 := a6) hds hP rfl hC hCE hj.2 hEn hEC (d_ks x.2).length 0 k_F false j.1 j.2.1 j.2.2.1 j.2.2.2.1 KF (by omega) (by have := d_ks_len x.2 hds; generalize hk : k_F = F; have : F = 4096 := hk.symm; omega) hK hKC (fun y hy => hCC y hy) (fun q => hcE (c_fl_sc.mp q)) hj.1
  refine ⟨j', ?_, r⟩
  have hrc : mX7_reachOf 6 (b_L x.1.1) (b_L x.1.2) (d_I x.2) (nI 4) = some (nI (g_R x.2 x.1)) := c_reach (P := x.1) hds hP
  unfold mX4_goOn
  rw [kn_4, k_bd_some hrc]
  rw [nI_0] at e
  exact e
theorem RR_at {m t : Nat → Int64} {d : Nat → Int32} {size : Int32} {X : List (GP × List Nat)} {i : Nat} (h : RR m t d size (X.map s_of)) (hi : i < X.length) : mX5_mineAt m size (nI i) = some (b_L (X.getD i ((fun _ => 0, fun _ => 0), [])).1.1) ∧ mX5_theirsAt t size (nI i) = some (b_L (X.getD i ((fun _ => 0, fun _ => 0), [])).1.2) ∧ mX5_diceAt d size (nI i) = some (d_I (X.getD i ((fun _ => 0, fun _ => 0), [])).2) := by
  obtain ⟨h1, h2, h3⟩ := h
  rw [List.length_map] at h1 h2 h3
  have e3 := h3 i hi
  have e4 : (X.map s_of).getD i (0, 0, 0) = s_of (X.getD i ((fun _ => 0, fun _ => 0), [])) := by
    rw [List.getD_eq_getElem?_getD, List.getD_eq_getElem?_getD, List.getElem?_map, List.getElem?_eq_getElem hi]
    rfl
  rw [e4] at e3
  have hin : mX5_isIn size (nI i) = some true := by
    unfold mX5_isIn
    rw [h1, if_neg (nI_pos (by omega)), if_neg (nI_ge hi (by omega)), if_neg (show ¬ (128 : Int32) ≤ nI i from nI_ge (a := i) (b := 128) (by omega) (by omega))]
  generalize X.getD i ((fun _ => 0, fun _ => 0), []) = x at e3
  have a1 : m i = b_L x.1.1 := congrArg Prod.fst e3
  have a2 : t i = b_L x.1.2 := congrArg (fun z => z.2.1) e3
  have a3 : d i = d_I x.2 := congrArg (fun z => z.2.2) e3
  refine ⟨?_, ?_, ?_⟩
  · unfold mX5_mineAt
    rw [k_bd_some hin, if_neg (show ¬ k_b true = 0 by decide), k_g_in (by omega) (by omega), nI_clamp (by omega), a1]
  · unfold mX5_theirsAt
    rw [k_bd_some hin, if_neg (show ¬ k_b true = 0 by decide), k_g_in (by omega) (by omega), nI_clamp (by omega), a2]
  · unfold mX5_diceAt
    rw [k_bd_some hin, if_neg (show ¬ k_b true = 0 by decide), k_g_in (by omega) (by omega), nI_clamp (by omega), a3]
def f_go (a6 : Bool) : List KS → List (GP × List Nat) → List KS
  | K, [] => K
  | K, x :: X => f_go a6 (l_ads K (c_sc a6 x.2 x.1)) X
def e_go (a6 : Bool) : List KS → List (GP × List Nat) → List KS
  | K, [] => K
  | K, x :: X => e_go a6 (e_ad a6 K x) X
theorem f_go_mem {a6 : Bool} : ∀ {X : List (GP × List Nat)} {K : List KS} {y : KS}, y ∈ f_go a6 K X ↔ y ∈ K ∨ ∃ x ∈ X, y ∈ c_sc a6 x.2 x.1 := by
  intro X
  induction X with
  | nil => intro K y; show y ∈ K ↔ _; simp
  | cons x X ih =>
    intro K y
    show y ∈ f_go a6 (l_ads K (c_sc a6 x.2 x.1)) X ↔ _
    rw [ih, l_ads_mem]
    constructor
    · rintro ((h | h) | ⟨z, h1, h2⟩)
      · exact Or.inl h
      · exact Or.inr ⟨x, List.mem_cons_self .., h⟩
      · exact Or.inr ⟨z, List.mem_cons_of_mem _ h1, h2⟩
    · rintro (h | ⟨z, h1, h2⟩)
      · exact Or.inl (Or.inl h)
      · rcases List.mem_cons.mp h1 with rfl | h1
        · exact Or.inl (Or.inr h2)
        · exact Or.inr ⟨z, h1, h2⟩
theorem f_go_nodup {a6 : Bool} : ∀ {X : List (GP × List Nat)} {K : List KS}, K.Nodup → (f_go a6 K X).Nodup := by
  intro X
  induction X with
  | nil => intro K h; exact h
  | cons x X ih => intro K h; exact ih (l_ads_nodup h)
theorem e_go_mem {a6 : Bool} : ∀ {X : List (GP × List Nat)} {K : List KS} {y : KS}, y ∈ e_go a6 K X ↔ y ∈ K ∨ ∃ x ∈ X, c_sc a6 x.2 x.1 = [] ∧ y = s_of (x.1, []) := by
  intro X
  induction X with
  | nil => intro K y; show y ∈ K ↔ _; simp
  | cons x X ih =>
    intro K y
    show y ∈ e_go a6 (e_ad a6 K x) X ↔ _
    rw [ih, e_ad_mem]
    constructor
    · rintro ((h | h) | ⟨z, h1, h2⟩)
      · exact Or.inl h
      · exact Or.inr ⟨x, List.mem_cons_self .., h⟩
      · exact Or.inr ⟨z, List.mem_cons_of_mem _ h1, h2⟩
    · rintro (h | ⟨z, h1, h2⟩)
      · exact Or.inl (Or.inl h)
      · rcases List.mem_cons.mp h1 with rfl | h1
        · exact Or.inl (Or.inr h2)
        · exact Or.inr ⟨z, h1, h2⟩
theorem e_go_nodup {a6 : Bool} : ∀ {X : List (GP × List Nat)} {K : List KS}, K.Nodup → (e_go a6 K X).Nodup := by
  intro X
  induction X with
  | nil => intro K h; exact h
  | cons x X ih => intro K h; exact ih (e_ad_nodup h)
abbrev K47 := Int32 → (Nat → Int64) → (Nat → Int64) → (Nat → Int32) → Int32 → (Nat → Int64) → (Nat → Int64) → (Nat → Int32) → Int32 → (Nat → Int64) → (Nat → Int64) → (Nat → Int32) → Int32 → Option JR
def s_gd (x : GP × List Nat) : Prop := g_ok x.1 ∧ x.2 ∈ d_all
theorem c_72 {a6 : Bool} {k47 : K47} {a1 a3 : Int64} {a5 : Int32} {l7 : Int32} {X : List (GP × List Nat)} {pm pt : Nat → Int64} {pd : Nat → Int32} {pn : Int32} (hp : RR pm pt pd pn (X.map s_of)) (hX : ∀ x ∈ X, s_gd x) {C CE : List KS} (hC : C.length ≤ 128) (hCE : CE.length ≤ 128) (hCC : ∀ x ∈ X, ∀ y ∈ c_sc a6 x.2 x.1, y ∈ C) (hcE : ∀ x ∈ X, c_sc a6 x.2 x.1 = [] → s_of (x.1, []) ∈ CE) : ∀ (n i F : Nat) (j : JF) (KF KE : List KS), i + n = X.length → n < F → RF j KF KE → KF.Nodup → KE.Nodup → (∀ y ∈ KF, y ∈ C) → (∀ y ∈ KE, y ∈ CE) →
    ∃ j' : JF, k_fix (fun _ _ _ _ _ _ _ _ _ _ _ _ _ _ _ => none) (mX4_countEnds_72 a1 a3 a5 a6 k47) F l7 (nI X.length) (nI i) pm pt pd pn j.1 j.2.1 j.2.2.1 j.2.2.2.1 j.2.2.2.2.1 j.2.2.2.2.2.1 j.2.2.2.2.2.2.1 j.2.2.2.2.2.2.2 = k47 (l7 + 1) j'.1 j'.2.1 j'.2.2.1 j'.2.2.2.1 pm pt pd pn j'.2.2.2.2.1 j'.2.2.2.2.2.1 j'.2.2.2.2.2.2.1 j'.2.2.2.2.2.2.2 ∧ RF j' (f_go a6 KF (X.drop i)) (e_go a6 KE (X.drop i)) := by
  have hlen : X.length ≤ 128 := by have := hp.2.1; rw [List.length_map] at this; exact this
  intro n
  induction n with
  | zero =>
    intro i F j KF KE hi hF hj _ _ _ _
    obtain rfl : i = X.length := by omega
    rw [List.drop_length]
    refine ⟨j, ?_, hj⟩
    rw [k_fix1 hF, mX4_countEnds_72, if_pos (nI_le (Nat.le_refl _) (by omega))]
  | succ n ih =>
    intro i F j KF KE hi hF hj hKn hEn hKC hEC
    have hil : i < X.length := by omega
    obtain ⟨b1, b2, b3⟩ := RR_at hp hil
    have hdrop := l_drop_cons (z := (((fun _ => 0, fun _ => 0), []) : GP × List Nat)) hil
    have hmem : X.getD i ((fun _ => 0, fun _ => 0), []) ∈ X := l_getD_mem hil
    generalize X.getD i ((fun _ => 0, fun _ => 0), []) = x at b1 b2 b3 hdrop hmem
    obtain ⟨g1, g2⟩ := hX x hmem
    obtain ⟨j1, e1, r1⟩ := c_goOn (a6 := a6) g2 g1 hC hCE hj hEn hEC hKn hKC (hCC x hmem) (hcE x hmem)
    obtain ⟨j2, e2, r2⟩ := ih (i + 1) (F - 1) j1 (l_ads KF (c_sc a6 x.2 x.1)) (e_ad a6 KE x) (by omega) (by omega) r1 (l_ads_nodup hKn) (e_ad_nodup hEn) (fun y hy => by
      rcases l_ads_mem.mp hy with q | q
      · exact hKC y q
      · exact hCC x hmem y q) (fun y hy => by
      rcases e_ad_mem.mp hy with q | ⟨q1, q2⟩
      · exact hEC y q
      · rw [q2]; exact hcE x hmem q1)
    rw [hdrop]
    refine ⟨j2, ?_, r2⟩
    rw [k_fix1 (by omega), mX4_countEnds_72, if_neg (nI_ge hil (by omega)), k_bd_some b1, k_bd_some b2, k_bd_some b3, k_bd8_some e1, nI_1, e2]
