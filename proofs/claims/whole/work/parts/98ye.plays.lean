/-! the class goes on from a position -/
def s_of (x : GP × List Nat) : KS := (b_L x.1.1, b_L x.1.2, d_I x.2)
def c_wl (ds : List Nat) (P : GP) (d : Nat) : Nat → Nat → List KS
  | 0, _ => []
  | n + 1, w => (if g_re ds P d w = 0 then [s_of (g_st P d w, ds.erase d)] else []) ++ c_wl ds P d n (w + 1)
theorem c_wl_mem {ds : List Nat} {P : GP} {d : Nat} {y : KS} : ∀ {n w : Nat}, y ∈ c_wl ds P d n w ↔ ∃ v, w ≤ v ∧ v < w + n ∧ g_re ds P d v = 0 ∧ y = s_of (g_st P d v, ds.erase d) := by
  intro n
  induction n with
  | zero =>
    intro w
    constructor
    · intro h; cases h
    · rintro ⟨v, h1, h2, -⟩; omega
  | succ n ih =>
    intro w
    show y ∈ (if g_re ds P d w = 0 then [s_of (g_st P d w, ds.erase d)] else []) ++ c_wl ds P d n (w + 1) ↔ _
    rw [List.mem_append, ih]
    constructor
    · rintro (h | ⟨v, h1, h2, h3, h4⟩)
      · by_cases c : g_re ds P d w = 0
        · rw [if_pos c, List.mem_singleton] at h
          exact ⟨w, Nat.le_refl _, by omega, c, h⟩
        · rw [if_neg c] at h; cases h
      · exact ⟨v, by omega, by omega, h3, h4⟩
    · rintro ⟨v, h1, h2, h3, h4⟩
      by_cases c : v = w
      · subst c
        rw [if_pos h3, List.mem_singleton]
        exact Or.inl h4
      · exact Or.inr ⟨v, by omega, by omega, h3, h4⟩
def c_kl (a6 : Bool) (ds : List Nat) (P : GP) : Bool → List Nat → List KS
  | _, [] => []
  | f, d :: ks => if a6 = true ∧ f = true then [] else c_wl ds P d 17 1 ++ c_kl a6 ds P (f || !(c_wl ds P d 17 1).isEmpty) ks
def c_sc (a6 : Bool) (ds : List Nat) (P : GP) : List KS := c_kl a6 ds P false (d_ks ds)
abbrev JF := (Nat → Int64) × (Nat → Int64) × (Nat → Int32) × Int32 × (Nat → Int64) × (Nat → Int64) × (Nat → Int32) × Int32
def RF (j : JF) (KF KE : List KS) : Prop := RR j.1 j.2.1 j.2.2.1 j.2.2.2.1 KF ∧ RR j.2.2.2.2.1 j.2.2.2.2.2.1 j.2.2.2.2.2.2.1 j.2.2.2.2.2.2.2 KE
abbrev K16 := Int32 → Bool → Int32 → (Nat → Int64) → (Nat → Int64) → (Nat → Int32) → Int32 → (Nat → Int64) → (Nat → Int64) → (Nat → Int32) → Int32 → Option JF
theorem r_th (P : GP) (d w : Nat) : s_of (g_st P d w, ([] : List Nat)) = s_of (g_st P d w, []) := rfl
theorem c_goOn48 {a6 : Bool} {k16 : K16} {ds : List Nat} {P : GP} {d l9 : Nat} {R : Nat} (hds : ds ∈ d_all) (hP : g_ok P) (hd : d ∈ ds) (hR : R = g_R ds P) {C : List KS} (hC : C.length ≤ 128) {em et : Nat → Int64} {ed : Nat → Int32} {en : Int32} : ∀ (n w F : Nat) (l8 : Bool) (fm ft : Nat → Int64) (fd : Nat → Int32) (fn : Int32) (KF : List KS), 1 ≤ w → w + n = 18 → n < F → KF.Nodup → (∀ x ∈ KF, x ∈ C) → (∀ x ∈ c_wl ds P d n w, x ∈ C) → RR fm ft fd fn KF →
    ∃ fm' ft' fd' fn', k_fix (fun _ _ _ _ _ _ _ _ _ _ _ _ _ => none) (mX4_goOn_48 (b_L P.1) (b_L P.2) (d_I ds) a6 k16) F (nI R) l8 (nI l9) (nI d) (nI w) fm ft fd fn em et ed en = k16 (nI R) (l8 || !(c_wl ds P d n w).isEmpty) (nI l9 + 1) fm' ft' fd' fn' em et ed en ∧ RR fm' ft' fd' fn' (l_ads KF (c_wl ds P d n w)) := by
  have hr := d_range ds hds d hd
  intro n
  induction n with
  | zero =>
    intro w F l8 fm ft fd fn KF hw1 hw hF hK hKC hCC hR'
    obtain rfl : w = 18 := by omega
    refine ⟨fm, ft, fd, fn, ?_, hR'⟩
    rw [k_fix1 hF, mX4_goOn_48, if_pos (show (17 : Int32) < nI 18 by decide)]
    show _ = k16 (nI R) (l8 || !([] : List KS).isEmpty) (nI l9 + 1) fm ft fd fn em et ed en
    rw [show (l8 || !([] : List KS).isEmpty) = l8 from by cases l8 <;> rfl]
  | succ n ih =>
    intro w F l8 fm ft fd fn KF hw1 hw hF hK hKC hCC hR'
    have hre : mX7_reason (b_L P.1) (b_L P.2) (d_I ds) (nI w) (nI d) (nI R) = some (nI (g_re ds P d w)) := by rw [hR]; exact c_reason (P := P) hds hP hr.1 hr.2 hw1 (by omega)
    have h17 : ¬ (17 : Int32) < nI w := nI_nlt (a := 17) (b := w) (by omega) (by omega)
    have hlt := g_re_lt (ds := ds) (P := P) (d := d) (w := w)
    by_cases h0 : g_re ds P d w = 0
    · have hA := (g_re_A hw1 (by omega) h0).2
      have hpos : 0 < P.1 w := (g_ban0.mp hA.2.2).1
      have hwl : c_wl ds P d (n + 1) w = s_of (g_st P d w, ds.erase d) :: c_wl ds P d n (w + 1) := by
        show (if g_re ds P d w = 0 then [s_of (g_st P d w, ds.erase d)] else []) ++ c_wl ds P d n (w + 1) = _
        rw [if_pos h0]; rfl
      rw [hwl] at hCC ⊢
      obtain ⟨fm1, ft1, fd1, fn1, e1, R1⟩ := c_add (a := s_of (g_st P d w, ds.erase d)) hR' (l_room hK hKC (hCC _ (List.mem_cons_self ..)) hC)
      have e1' : mX5_add fm ft fd fn (b_L (g_mv P.1 d w)) (b_L (g_th P.2 d w)) (d_I (ds.erase d)) = some (fm1, ft1, fd1, fn1) := e1
      obtain ⟨fm2, ft2, fd2, fn2, e2, R2⟩ := ih (w + 1) (F - 1) true fm1 ft1 fd1 fn1 (l_ad KF (s_of (g_st P d w, ds.erase d))) (by omega) (by omega) (by omega) (l_ad_nodup hK) (fun x hx => by
        rcases l_ad_mem.mp hx with q | q
        · exact hKC x q
        · rw [q]; exact hCC _ (List.mem_cons_self ..)) (fun x hx => hCC x (List.mem_cons_of_mem _ hx)) R1
      refine ⟨fm2, ft2, fd2, fn2, ?_, R2⟩
      rw [k_fix1 (by omega), mX4_goOn_48, if_neg h17, k_bd_some hre, h0, if_pos nI_0, k_bd_some (c_mine (f := P.1) hP.1 hr.2 (by omega) hpos), k_bd_some (c_theirs (g := P.2) hP.2.1 hr.2 (by omega)), k_bd_some (d_without ds hds d hd), k_bd4_some e1', nI_1, e2]
      show k16 (nI R) (true || _) _ _ _ _ _ _ _ _ _ = k16 (nI R) (l8 || !(List.isEmpty (_ :: _))) _ _ _ _ _ _ _ _ _
      rw [Bool.true_or]
      show _ = k16 (nI R) (l8 || true) _ _ _ _ _ _ _ _ _
      rw [Bool.or_true]
    · have hwl : c_wl ds P d (n + 1) w = c_wl ds P d n (w + 1) := by
        show (if g_re ds P d w = 0 then [s_of (g_st P d w, ds.erase d)] else []) ++ c_wl ds P d n (w + 1) = _
        rw [if_neg h0]; rfl
      rw [hwl] at hCC ⊢
      obtain ⟨fm2, ft2, fd2, fn2, e2, R2⟩ := ih (w + 1) (F - 1) l8 fm ft fd fn KF (by omega) (by omega) (by omega) hK hKC hCC hR'
      refine ⟨fm2, ft2, fd2, fn2, ?_, R2⟩
      rw [k_fix1 (by omega), mX4_goOn_48, if_neg h17, k_bd_some hre, if_neg (show ¬ nI (g_re ds P d w) = (0 : Int32) from nI_ne0 (by omega) (by omega)), nI_1, e2]
theorem d_ks_len : ∀ ds ∈ d_all, (d_ks ds).length ≤ 2 := by decide +kernel
theorem l_drop_cons {α : Type} {l : List α} {i : Nat} {z : α} (h : i < l.length) : l.drop i = l.getD i z :: l.drop (i + 1) := by
  rw [List.drop_eq_getElem_cons h, List.getD_eq_getElem?_getD, List.getElem?_eq_getElem h]
  rfl
theorem l_ads_nil {α : Type} [DecidableEq α] {K : List α} : l_ads K [] = K := rfl
def c_116 (f : Bool) (KE : List KS) (P : GP) : List KS := if f = true then KE else l_ad KE (s_of (P, []))
def c_fl (a6 : Bool) (ds : List Nat) (P : GP) : Bool → List Nat → Bool
  | f, [] => f
  | f, d :: ks => if a6 = true ∧ f = true then f else c_fl a6 ds P (f || !(c_wl ds P d 17 1).isEmpty) ks
theorem c_goOn16 {a6 : Bool} {ds : List Nat} {P : GP} {R : Nat} (hds : ds ∈ d_all) (hP : g_ok P) (hR : R = g_R ds P) {C CE : List KS} (hC : C.length ≤ 128) (hCE : CE.length ≤ 128) {em et : Nat → Int64} {ed : Nat → Int32} {en : Int32} {KE : List KS} (hE : RR em et ed en KE) (hEn : KE.Nodup) (hEC : ∀ x ∈ KE, x ∈ CE) : ∀ (n i F : Nat) (l8 : Bool) (fm ft : Nat → Int64) (fd : Nat → Int32) (fn : Int32) (KF : List KS), i + n = (d_ks ds).length → n < F → KF.Nodup → (∀ x ∈ KF, x ∈ C) → (∀ x ∈ c_kl a6 ds P l8 ((d_ks ds).drop i), x ∈ C) → (c_fl a6 ds P l8 ((d_ks ds).drop i) = false → s_of (P, []) ∈ CE) → RR fm ft fd fn KF →
    ∃ j : JF, k_fix (fun _ _ _ _ _ _ _ _ _ _ _ => none) (mX4_goOn_16 (b_L P.1) (b_L P.2) (d_I ds) a6) F (nI R) l8 (nI i) fm ft fd fn em et ed en = some j ∧ RF j (l_ads KF (c_kl a6 ds P l8 ((d_ks ds).drop i))) (c_116 (c_fl a6 ds P l8 ((d_ks ds).drop i)) KE P) := by
  have hk := d_kinds ds hds
  have hl2 := d_ks_len ds hds
  have h116 : ∀ (l8 : Bool) (fm ft : Nat → Int64) (fd : Nat → Int32) (fn : Int32) (KF : List KS), RR fm ft fd fn KF → (l8 = false → s_of (P, []) ∈ CE) → ∃ j : JF, mX4_goOn_116 (b_L P.1) (b_L P.2) (d_I ds) a6 l8 fm ft fd fn em et ed en = some j ∧ RF j KF (c_116 l8 KE P) := by
    intro l8 fm ft fd fn KF hF hc
    unfold mX4_goOn_116 c_116
    cases l8
    · obtain ⟨m', t', d', n', e1, R1⟩ := c_add (a := s_of (P, [])) hE (l_room hEn hEC (hc rfl) hCE)
      have hd0 : d_I [] = 0 := by decide +kernel
      have e1' : mX5_add em et ed en (b_L P.1) (b_L P.2) 0 = some (m', t', d', n') := by rw [← hd0]; exact e1
      rw [if_pos (show k_b false = 0 from rfl), k_bd4_some e1', if_neg (show ¬ false = true by decide)]
      exact ⟨_, rfl, hF, R1⟩
    · rw [if_neg (show ¬ k_b true = 0 by decide), if_pos rfl]
      exact ⟨_, rfl, hF, hE⟩
  intro n
  induction n with
  | zero =>
    intro i F l8 fm ft fd fn KF hi hF hK hKC hCC hcE hR'
    obtain rfl : i = (d_ks ds).length := by omega
    rw [List.drop_length] at hcE ⊢
    obtain ⟨j, e, r⟩ := h116 l8 fm ft fd fn KF hR' hcE
    refine ⟨j, ?_, r⟩
    rw [k_fix1 hF, mX4_goOn_16, k_bd_some hk, if_pos (nI_le (Nat.le_refl _) (by omega)), e]
  | succ n ih =>
    intro i F l8 fm ft fd fn KF hi hF hK hKC hCC hcE hR'
    have hil : i < (d_ks ds).length := by omega
    have hdrop := l_drop_cons (z := 0) hil
    have hat := d_ksat ds hds i hil
    have hdin : (d_ks ds).getD i 0 ∈ ds := d_ks_sub (l_getD_mem hil)
    generalize (d_ks ds).getD i 0 = d at hdrop hat hdin
    rw [hdrop] at hCC hcE ⊢
    have hlen : ¬ nI (d_ks ds).length ≤ nI i := nI_ge hil (by omega)
    by_cases hst : a6 = true ∧ l8 = true
    · have e1 : c_kl a6 ds P l8 (d :: (d_ks ds).drop (i + 1)) = [] := by
        show (if a6 = true ∧ l8 = true then [] else _) = _
        rw [if_pos hst]
      have e2 : c_fl a6 ds P l8 (d :: (d_ks ds).drop (i + 1)) = l8 := by
        show (if a6 = true ∧ l8 = true then l8 else _) = _
        rw [if_pos hst]
      rw [e1, e2]
      rw [e2] at hcE
      obtain ⟨j, e, r⟩ := h116 l8 fm ft fd fn KF hR' hcE
      refine ⟨j, ?_, r⟩
      rw [k_fix1 (by omega), mX4_goOn_16, k_bd_some hk, if_neg hlen, hst.1, hst.2, if_neg (show ¬ k_b true = 0 by decide), if_neg (show ¬ k_b true = 0 by decide)]
      rw [hst.1, hst.2] at e
      exact e
    · have e1 : c_kl a6 ds P l8 (d :: (d_ks ds).drop (i + 1)) = c_wl ds P d 17 1 ++ c_kl a6 ds P (l8 || !(c_wl ds P d 17 1).isEmpty) ((d_ks ds).drop (i + 1)) := by
        show (if a6 = true ∧ l8 = true then [] else _) = _
        rw [if_neg hst]
      have e2 : c_fl a6 ds P l8 (d :: (d_ks ds).drop (i + 1)) = c_fl a6 ds P (l8 || !(c_wl ds P d 17 1).isEmpty) ((d_ks ds).drop (i + 1)) := by
        show (if a6 = true ∧ l8 = true then l8 else _) = _
        rw [if_neg hst]
      rw [e1] at hCC ⊢
      rw [e2] at hcE ⊢
      rw [l_ads_app]
      obtain ⟨fm1, ft1, fd1, fn1, y1, y2⟩ := c_goOn48 (a6 := a6) (k16 := k_fix (fun _ _ _ _ _ _ _ _ _ _ _ => none) (mX4_goOn_16 (b_L P.1) (b_L P.2) (d_I ds) a6) (F - 1)) (l9 := i) hds hP hdin hR hC (em := em) (et := et) (ed := ed) (en := en) 17 1 k_F l8 fm ft fd fn KF (by omega) (by omega) (by generalize hk : k_F = F; have : F = 4096 := hk.symm; omega) hK hKC (fun x hx => hCC x (List.mem_append_left _ hx)) hR'
      obtain ⟨j, z1, z2⟩ := ih (i + 1) (F - 1) (l8 || !(c_wl ds P d 17 1).isEmpty) fm1 ft1 fd1 fn1 (l_ads KF (c_wl ds P d 17 1)) (by omega) (by omega) (l_ads_nodup hK) (fun x hx => by
        rcases l_ads_mem.mp hx with q | q
        · exact hKC x q
        · exact hCC x (List.mem_append_left _ q)) (fun x hx => hCC x (List.mem_append_right _ hx)) hcE y2
      refine ⟨j, ?_, z2⟩
      have h36 : mX4_goOn_36 (b_L P.1) (b_L P.2) (d_I ds) a6 (k_fix (fun _ _ _ _ _ _ _ _ _ _ _ => none) (mX4_goOn_16 (b_L P.1) (b_L P.2) (d_I ds) a6) (F - 1)) (nI R) l8 (nI i) fm ft fd fn em et ed en = some j := by
        unfold mX4_goOn_36
        rw [k_bd_some hat]
        rw [nI_1] at y1
        rw [show (1 : Int32) = nI 1 from rfl, y1, z1]
      rw [k_fix1 (by omega), mX4_goOn_16, k_bd_some hk, if_neg hlen, h36]
      cases a6
      · rw [if_pos (show k_b false = 0 from rfl)]
      · cases l8
        · rw [if_neg (show ¬ k_b true = 0 by decide), if_pos (show k_b false = 0 from rfl)]
        · exact absurd ⟨rfl, rfl⟩ hst
