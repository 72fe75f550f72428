/-! the class's steps, in the game's numbers -/
theorem c_ban {f g : Nat → Nat} {ds : List Nat} {d w : Nat} (hf : b_ok f) (hg : b_ok g) (hds : ds ∈ d_all) (hd : 0 < d) (hd7 : d < 7) (hw : w < 18) :
    mX7_ban (b_L f) (b_L g) (d_I ds) (nI w) (nI d) = some (nI (if d ∈ ds then g_ban f g d w else 1)) := by
  have hl := b_ok_le hf hw
  have hl17 := b_ok_le hf (i := 17) (by omega)
  have e4 : mX3_anyBeyond (b_L f) (nI 4) = some (b_ab f 4) := b_anyBeyond hf (w := 4) (by omega)
  have ew : mX3_anyBeyond (b_L f) (nI w) = some (b_ab f w) := b_anyBeyond hf hw
  have e41 : mX7_ban_41 (b_L f) (b_L g) (d_I ds) (nI w) (nI d) = some (nI (if d < w then (if 2 ≤ g (17 - (w - d)) then 4 else 0) else if b_ab f 4 = true ∨ (w < d ∧ b_ab f w = true) then 5 else 0)) := by
    unfold mX7_ban_41 mX7_ban_87 mX7_ban_88
    try simp only [kn_0, kn_1, kn_2, kn_3, kn_4, kn_5, kn_6, kn_7, kn_16, kn_17, kn_18, kn_36, k_b1]
    rw [e4, ew]
    by_cases c : d < w
    · rw [if_neg (nI_ge c (by omega)), if_pos c, pk_sub (by omega), b_across hg (by omega), k_bs]
      have hg2 := b_ok_le hg (i := 17 - (w - d)) (by omega)
      by_cases c2 : 2 ≤ g (17 - (w - d))
      · rw [if_neg (nI_nlt c2 (by omega)), if_pos c2]; try rfl
      · rw [if_pos (nI_lt (b := 2) (by omega) (by omega)), if_neg c2]; try rfl
    · rw [if_pos (nI_le (by omega) (by omega)), if_neg c]
      by_cases c3 : w < d
      · rw [if_neg (nI_ge c3 (by omega))]
        cases h4 : b_ab f 4 <;> cases hw' : b_ab f w <;> simp [k_bd, c3]
      · rw [if_pos (nI_le (by omega) (by omega))]
        cases h4 : b_ab f 4 <;> simp [k_bd, c3]
  unfold mX7_ban
  try simp only [kn_0, kn_1, kn_2, kn_3, kn_4, kn_5, kn_6, kn_7, kn_16, kn_17, kn_18, kn_36, k_b1]
  rw [d_has ds hds d hd7 hd, k_bs, b_on hf hw, b_on hf (by omega), k_bs]
  by_cases hm : d ∈ ds
  · rw [if_pos hm, decide_eq_true hm, if_neg (fun h => (nomatch h)), k_bs, e41]
    unfold g_ban
    by_cases c1 : f w = 0
    · rw [if_pos (by rw [c1]), if_pos c1]; try rfl
    · rw [if_neg (kI_ne0 (by omega) (by omega)), if_neg c1]
      by_cases c2 : w = 17
      · rw [if_pos (by rw [c2]), if_neg (c := w ≠ 17 ∧ 0 < f 17) (by omega)]
      · rw [if_neg (fun h => c2 ((nI_eq (by omega) (by omega)).mp h))]
        by_cases c3 : 0 < f 17
        · rw [if_neg (kI_nle c3 (by omega)), if_pos (c := w ≠ 17 ∧ 0 < f 17) ⟨c2, c3⟩]; try rfl
        · rw [if_pos (by rw [show f 17 = 0 by omega]; decide), if_neg (c := w ≠ 17 ∧ 0 < f 17) (by omega)]
  · rw [if_neg hm, decide_eq_false hm, if_pos rfl]; try rfl
theorem c_mine {f : Nat → Nat} {d w : Nat} (hf : b_ok f) (hd7 : d < 7) (hw : w < 18) (hp : 0 < f w) : mX7_mineBehind (b_L f) (nI w) (nI d) = some (b_L (g_mv f d w)) := by
  unfold mX7_mineBehind
  try simp only [kn_0, kn_1, kn_2, kn_3, kn_4, kn_5, kn_6, kn_7, kn_16, kn_17, kn_18, kn_36, k_b1]
  rw [k_mx0 (by omega) (by omega), b_moved hf hw (by omega) hp]
  rfl
theorem c_theirs {g : Nat → Nat} {d w : Nat} (hg : b_ok g) (hd7 : d < 7) (hw : w < 18) : mX7_theirsBehind (b_L g) (nI w) (nI d) = some (b_L (g_th g d w)) := by
  unfold mX7_theirsBehind g_th
  try simp only [kn_0, kn_1, kn_2, kn_3, kn_4, kn_5, kn_6, kn_7, kn_16, kn_17, kn_18, kn_36, k_b1]
  by_cases c : d < w
  · rw [if_neg (nI_ge c (by omega)), pk_sub (by omega), b_across hg (by omega), k_bs]
    have hg2 := b_ok_le hg (i := 17 - (w - d)) (by omega)
    by_cases c2 : g (17 - (w - d)) = 1
    · rw [if_pos (by rw [c2]), if_pos ⟨c, c2⟩, pk_sub (by omega), b_moved hg (by omega) (by omega) (by omega)]
      rfl
    · rw [if_neg (fun h => c2 ((nI_eq (b := 1) (by omega) (by omega)).mp h)), if_neg (fun h => c2 h.2)]
  · rw [if_pos (nI_le (by omega) (by omega)), if_neg (fun h => c h.1)]
theorem d_len : ∀ ds ∈ d_all, ds.length < 5 := by decide +kernel
theorem d_zero : ∀ ds ∈ d_all, (d_I ds = nI 0 ↔ ds = []) := by decide +kernel
theorem d_kslt : ∀ ds ∈ d_all, (d_ks ds).length < 3 := by decide +kernel
def c_vl (n : Nat) (ds : List Nat) (P : GP) (w d : Nat) : Nat := if g_A P d w then 1 + g_rc n (ds.erase d) (g_st P d w) else 0
def c_b2 (n : Nat) (ds : List Nat) (P : GP) (w : Nat) : List Nat → Nat → Nat
  | [], b => b
  | d :: l, b => c_b2 n ds P w l (Nat.max b (c_vl n ds P w d))
theorem c_b2_le {n : Nat} {ds : List Nat} {P : GP} {w m : Nat} : ∀ {l : List Nat} {b : Nat}, b ≤ m → (∀ d ∈ l, c_vl n ds P w d ≤ m) → c_b2 n ds P w l b ≤ m
  | [], _, h, _ => h
  | d :: l, b, h, h2 => c_b2_le (l := l) (b := Nat.max b (c_vl n ds P w d)) (Nat.max_le.mpr ⟨h, h2 d List.mem_cons_self⟩) (fun e he => h2 e (List.mem_cons_of_mem _ he))
theorem c_b2_ge {n : Nat} {ds : List Nat} {P : GP} {w : Nat} : ∀ {l : List Nat} {b : Nat}, b ≤ c_b2 n ds P w l b ∧ ∀ d ∈ l, c_vl n ds P w d ≤ c_b2 n ds P w l b
  | [], _ => ⟨Nat.le_refl _, fun _ h => nomatch h⟩
  | d :: l, b => by
    obtain ⟨h1, h2⟩ := c_b2_ge (n := n) (ds := ds) (P := P) (w := w) (l := l) (b := Nat.max b (c_vl n ds P w d))
    refine ⟨Nat.le_trans (Nat.le_max_left _ _) h1, fun e he => ?_⟩
    rcases List.mem_cons.mp he with q | q
    · subst q; exact Nat.le_trans (Nat.le_max_right _ _) h1
    · exact h2 e q
theorem c_vl_le {n : Nat} {ds : List Nat} {P : GP} {w d : Nat} (h : d ∈ ds) : c_vl n ds P w d ≤ ds.length := by
  unfold c_vl
  by_cases c : g_A P d w
  · rw [if_pos c]
    have h1 := g_rc_len (n := n) (ds := ds.erase d) (P := g_st P d w)
    have h2 := List.length_erase_of_mem h
    have h3 : 0 < ds.length := List.length_pos_of_mem h
    omega
  · rw [if_neg c]; omega
theorem c_reach42 {n k : Nat} {ds : List Nat} {P : GP} (hds : ds ∈ d_all) (hP : g_ok P) (hk : k < 5) (hk0 : 0 < k)
    {kR : Int64 → Int64 → Int32 → Int32 → Option Int32} (hR : ∀ d ∈ ds, ∀ w, g_A P d w → kR (b_L (g_st P d w).1) (b_L (g_st P d w).2) (d_I (ds.erase d)) (nI (k - 1)) = some (nI (g_rc n (ds.erase d) (g_st P d w))))
    {k26 : Int32 → Int32 → Int32 → Option Int32} {w most : Nat} (hw1 : 1 ≤ w) (hw : w ≤ 17) :
    ∀ (j i b m : Nat), j + i = (d_ks ds).length → j < m → b ≤ ds.length →
      k_fix (fun _ _ _ _ => none) (mX7_reachOf_42 kR (b_L P.1) (b_L P.2) (d_I ds) (nI k) k26) m (nI most) (nI b) (nI w) (nI i) = k26 (nI most) (nI (c_b2 n ds P w ((d_ks ds).drop i) b)) (nI (w - 1)) := by
  have hks := d_kslt ds hds
  have hlen := d_len ds hds
  intro j
  induction j with
  | zero =>
    intro i b m hji hm hb
    rw [k_fix1 (by omega)]
    rw [mX7_reachOf_42]
    try simp only [kn_0, kn_1, kn_2, kn_3, kn_4, kn_5, kn_6, kn_7, kn_16, kn_17, kn_18, kn_36, k_b1]
    rw [d_kinds ds hds, k_bs, if_pos (nI_le (by omega) (by omega)), kn_m (by omega), List.drop_of_length_le (by omega)]
    rfl
  | succ j ih =>
    intro i b m hji hm hb
    have hi : i < (d_ks ds).length := by omega
    rw [k_fix1 (by omega)]
    rw [mX7_reachOf_42]
    try simp only [kn_0, kn_1, kn_2, kn_3, kn_4, kn_5, kn_6, kn_7, kn_16, kn_17, kn_18, kn_36, k_b1]
    rw [d_kinds ds hds, k_bs, if_neg (nI_ge hi (by omega)), d_ksat ds hds i hi, k_bs]
    obtain ⟨d, hdq⟩ : ∃ d, d = (d_ks ds).getD i 0 := ⟨_, rfl⟩
    have hd0 : (d_ks ds)[i]? = some d := by rw [hdq, List.getD_eq_getElem?_getD, List.getElem?_eq_getElem hi]; try rfl
    have hdm : d ∈ d_ks ds := List.mem_of_getElem? hd0
    have hdrop : (d_ks ds).drop i = d :: (d_ks ds).drop (i + 1) := by
      rw [List.drop_eq_getElem_cons hi]
      congr 1
      rw [List.getElem?_eq_getElem hi] at hd0
      exact Option.some.inj hd0
    have hds2 := d_ks_sub hdm
    obtain ⟨r1, r2⟩ := d_range ds hds d hds2
    rw [← hdq, c_ban hP.1 hP.2.1 hds r1 r2 (by omega), if_pos hds2, k_bs, nI_add i 1, hdrop]
    have hv := c_vl_le (n := n) (P := P) (w := w) hds2
    by_cases c : g_ban P.1 P.2 d w = 0
    · have hA : g_A P d w := ⟨hw1, hw, c⟩
      have hpos := (g_ban0.mp c).1
      rw [if_pos (by rw [c]), c_mine hP.1 r2 (by omega) hpos, k_bs, c_theirs hP.2.1 r2 (by omega), k_bs, d_without ds hds d hds2, k_bs, pk_sub (by omega), show kR (b_L (g_mv P.1 d w)) (b_L (g_th P.2 d w)) (d_I (ds.erase d)) (nI (k - 1)) = _ from hR d hds2 w hA, k_bs, nI_add, k_mx (by omega) (by have := g_rc_len (n := n) (ds := ds.erase d) (P := g_st P d w); have := List.length_erase_of_mem hds2; omega)]
      have e : 1 + g_rc n (ds.erase d) (g_st P d w) = c_vl n ds P w d := (if_pos hA).symm
      rw [e, ih (i + 1) _ (m - 1) (by omega) (by omega) (Nat.max_le.mpr ⟨hb, hv⟩)]
      rfl
    · have hA : ¬ g_A P d w := fun h => c h.2.2
      have hbn : g_ban P.1 P.2 d w < 6 := by unfold g_ban; (repeat' split) <;> omega
      rw [if_neg (kI_ne0 (by omega) (by omega)), ih (i + 1) b (m - 1) (by omega) (by omega) hb]
      have e : c_vl n ds P w d = 0 := if_neg hA
      show _ = k26 (nI most) (nI (c_b2 n ds P w ((d_ks ds).drop (i + 1)) (Nat.max b (c_vl n ds P w d)))) (nI (w - 1))
      rw [e, show Nat.max b 0 = b from Nat.max_eq_left (Nat.zero_le _)]
def c_up (n : Nat) (ds : List Nat) (P : GP) : Nat → Nat → Nat
  | 0, b => b
  | w + 1, b => c_up n ds P w (c_b2 n ds P (w + 1) (d_ks ds) b)
theorem c_up_le {n : Nat} {ds : List Nat} {P : GP} {m : Nat} : ∀ {w b : Nat}, b ≤ m → (∀ v, ∀ d ∈ d_ks ds, c_vl n ds P v d ≤ m) → c_up n ds P w b ≤ m
  | 0, _, h, _ => h
  | w + 1, b, h, h2 => c_up_le (w := w) (b := c_b2 n ds P (w + 1) (d_ks ds) b) (c_b2_le h (h2 (w + 1))) h2
theorem c_up_ge {n : Nat} {ds : List Nat} {P : GP} : ∀ {w b : Nat}, b ≤ c_up n ds P w b ∧ ∀ v, 1 ≤ v → v ≤ w → ∀ d ∈ d_ks ds, c_vl n ds P v d ≤ c_up n ds P w b
  | 0, b => ⟨Nat.le_refl _, fun v h1 h2 => by omega⟩
  | w + 1, b => by
    obtain ⟨h1, h2⟩ := c_up_ge (n := n) (ds := ds) (P := P) (w := w) (b := c_b2 n ds P (w + 1) (d_ks ds) b)
    obtain ⟨h3, h4⟩ := c_b2_ge (n := n) (ds := ds) (P := P) (w := w + 1) (l := d_ks ds) (b := b)
    refine ⟨Nat.le_trans h3 h1, fun v v1 v2 d hd => ?_⟩
    rcases Nat.lt_or_ge v (w + 1) with q | q
    · exact h2 v v1 (by omega) d hd
    · have : v = w + 1 := by omega
      subst this; exact Nat.le_trans (h4 d hd) h1
theorem c_reach26 {n k : Nat} {ds : List Nat} {P : GP} (hds : ds ∈ d_all) (hP : g_ok P) (hk : k < 5) (hk0 : 0 < k)
    {kR : Int64 → Int64 → Int32 → Int32 → Option Int32} (hR : ∀ d ∈ ds, ∀ w, g_A P d w → kR (b_L (g_st P d w).1) (b_L (g_st P d w).2) (d_I (ds.erase d)) (nI (k - 1)) = some (nI (g_rc n (ds.erase d) (g_st P d w)))) :
    ∀ (w b m : Nat), w ≤ 17 → w < m → b ≤ ds.length →
      k_fix (fun _ _ _ => none) (mX7_reachOf_26 kR (b_L P.1) (b_L P.2) (d_I ds) (nI k)) m (nI ds.length) (nI b) (nI w) = some (nI (c_up n ds P w b)) := by
  have hlen := d_len ds hds
  intro w
  induction w with
  | zero =>
    intro b m _ hm hb
    rw [k_fix1 (by omega)]
    rw [mX7_reachOf_26]
    try simp only [kn_0, kn_1, kn_2, kn_3, kn_4, kn_5, kn_6, kn_7, kn_16, kn_17, kn_18, kn_36, k_b1]
    rw [if_pos (nI_lt (a := 0) (b := 1) (by omega) (by omega))]
    rfl
  | succ w ih =>
    intro b m hw hm hb
    have hle : ∀ v, ∀ d ∈ d_ks ds, c_vl n ds P v d ≤ ds.length := fun v d hd => c_vl_le (d_ks_sub hd)
    rw [k_fix1 (by omega)]
    rw [mX7_reachOf_26]
    try simp only [kn_0, kn_1, kn_2, kn_3, kn_4, kn_5, kn_6, kn_7, kn_16, kn_17, kn_18, kn_36, k_b1]
    rw [if_neg (nI_nlt (a := w + 1) (b := 1) (by omega) (by omega))]
    by_cases c : ds.length ≤ b
    · rw [if_pos (nI_le c (by omega))]
      have e : b = ds.length := by omega
      have h1 := c_up_le (n := n) (P := P) (w := w + 1) (b := b) (m := ds.length) hb hle
      have h2 := (c_up_ge (n := n) (ds := ds) (P := P) (w := w + 1) (b := b)).1
      rw [show c_up n ds P (w + 1) b = b by omega]
    · rw [if_neg (nI_ge (by omega) (by omega))]
      have hks := d_kslt ds hds
      have := c_reach42 (k26 := k_fix (fun _ _ _ => none) (mX7_reachOf_26 kR (b_L P.1) (b_L P.2) (d_I ds) (nI k)) (m - 1)) (most := ds.length) hds hP hk hk0 hR (by omega) hw (d_ks ds).length 0 b k_F (by omega) (by unfold k_F; omega) hb
      rw [this, List.drop_zero, show w + 1 - 1 = w from rfl, ih _ (m - 1) (by omega) (by omega) (c_b2_le hb (hle _))]
      rfl
theorem c_reachN : ∀ (n k fu : Nat) (ds : List Nat) (P : GP), ds ∈ d_all → g_ok P → ds.length ≤ n → n ≤ k → k < 5 → n < fu → mX7_reachOf fu (b_L P.1) (b_L P.2) (d_I ds) (nI k) = some (nI (g_rc n ds P)) := by
  intro n
  induction n with
  | zero =>
    intro k fu ds P hds hP hl hk hk5 hfu
    have : ds = [] := List.length_eq_zero_iff.mp (by omega)
    subst this
    unfold mX7_reachOf
    try simp only [kn_0, kn_1, kn_2, kn_3, kn_4, kn_5, kn_6, kn_7, kn_16, kn_17, kn_18, kn_36, k_b1]
    rw [k_fix1 (by omega)]
    rw [mX7_reachOf_S]
    try simp only [kn_0, kn_1, kn_2, kn_3, kn_4, kn_5, kn_6, kn_7, kn_16, kn_17, kn_18, kn_36, k_b1]
    rw [if_pos ((d_zero [] hds).mpr rfl)]
    rfl
  | succ n ih =>
    intro k fu ds P hds hP hl hk hk5 hfu
    unfold mX7_reachOf
    try simp only [kn_0, kn_1, kn_2, kn_3, kn_4, kn_5, kn_6, kn_7, kn_16, kn_17, kn_18, kn_36, k_b1]
    rw [k_fix1 (by omega)]
    rw [mX7_reachOf_S]
    try simp only [kn_0, kn_1, kn_2, kn_3, kn_4, kn_5, kn_6, kn_7, kn_16, kn_17, kn_18, kn_36, k_b1]
    by_cases c : ds = []
    · subst c; rw [if_pos ((d_zero [] hds).mpr rfl), g_rc_nil]; try rfl
    · rw [if_neg (fun h => c ((d_zero ds hds).mp h)), if_pos (nI_lt (a := 0) (by omega) (by omega)), d_count ds hds, k_bs]
      have hR : ∀ d ∈ ds, ∀ w, g_A P d w → k_fix (fun _ _ _ _ => none) mX7_reachOf_S (fu - 1) (b_L (g_st P d w).1) (b_L (g_st P d w).2) (d_I (ds.erase d)) (nI (k - 1)) = some (nI (g_rc n (ds.erase d) (g_st P d w))) := fun d hd w hw =>
        ih (k - 1) (fu - 1) (ds.erase d) (g_st P d w) (d_erase ds hds d hd) (g_ok_st hP hw) (by have := List.length_erase_of_mem hd; omega) (by omega) (by omega) (by omega)
      have h17 := c_reach26 hds hP hk5 (by omega) hR 17 0 k_F (by omega) (by unfold k_F; omega) (Nat.zero_le _)
      rw [h17]
      congr 2
      apply Nat.le_antisymm
      · refine c_up_le (Nat.zero_le _) (fun v d hd => ?_)
        unfold c_vl
        by_cases q : g_A P d v
        · rw [if_pos q]; exact g_rc_ge hd q
        · rw [if_neg q]; omega
      · refine g_rc_le (fun d hd w hw => ?_)
        have := (c_up_ge (n := n) (ds := ds) (P := P) (w := 17) (b := 0)).2 w hw.1 hw.2.1 d hd
        unfold c_vl at this
        rwa [if_pos hw] at this
theorem c_reach {ds : List Nat} {P : GP} (hds : ds ∈ d_all) (hP : g_ok P) : mX7_reachOf 6 (b_L P.1) (b_L P.2) (d_I ds) (nI 4) = some (nI (g_R ds P)) :=
  c_reachN 4 4 6 ds P hds hP (by have := d_len ds hds; omega) (by omega) (by omega) (by omega)
