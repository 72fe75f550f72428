/-! questions of the class -/
def g_sum (F : Nat → Nat) : Nat → Nat → Nat
  | _, 0 => 0
  | a, n + 1 => F a + g_sum F (a + 1) n
theorem g_sum_congr {F G : Nat → Nat} : ∀ {n a : Nat}, (∀ i, a ≤ i → i < a + n → F i = G i) → g_sum F a n = g_sum G a n
  | 0, _, _ => rfl
  | n + 1, a, h => by
    show F a + _ = G a + _
    rw [h a (by omega) (by omega), g_sum_congr (fun i h1 h2 => h i (by omega) (by omega))]
theorem k_sumL {α : Type} {z : Int32 → Int32 → Option α} {st : (Int32 → Int32 → Option α) → Int32 → Int32 → Option α} (F : Nat → Nat) (E : Nat → Option α) (lo N : Nat) (hend : ∀ k a, st k (nI a) (nI N) = E a)
    (hstep : ∀ k a i, lo ≤ i → i < N → st k (nI a) (nI i) = k (nI (a + F i)) (nI (i + 1))) : ∀ (j i a m : Nat), lo ≤ i → i + j = N → j < m → k_fix z st m (nI a) (nI i) = E (a + g_sum F i j)
  | 0, i, a, m, _, hN, hm => by
    rw [k_fix1 hm, show i = N by omega, hend]
    rfl
  | j + 1, i, a, m, hlo, hN, hm => by
    rw [k_fix1 (by omega), hstep _ _ _ hlo (by omega), k_sumL F E lo N hend hstep j (i + 1) _ (m - 1) (by omega) (by omega) (by omega)]
    show E _ = E (a + (F i + g_sum F (i + 1) j))
    rw [Nat.add_assoc]
def g_pip (f : Nat → Nat) : Nat := g_sum (fun w => w * f w) 1 17
def g_blot (f : Nat → Nat) : Nat := g_sum (fun w => if f w = 1 then 1 else 0) 1 16
def g_bar (g : Nat → Nat) : Nat := g_sum (fun d => if 2 ≤ g d then 1 else 0) 1 6
theorem c_pip {f : Nat → Nat} (hf : b_ok f) : mX3_sumOfWays (b_L f) = some (nI (g_pip f)) := by
  have h := k_sumL (z := fun _ _ => none) (st := mX3_sumOfWays_4 (b_L f)) (fun w => w * f w) (fun a => some (nI a)) 1 18 (fun k a => by
      unfold mX3_sumOfWays_4
      try simp only [kn_0, kn_1, kn_2, kn_3, kn_4, kn_5, kn_6, kn_7, kn_16, kn_17, kn_18, kn_36, k_b1]
      rw [if_pos (nI_lt (a := 17) (by omega) (by omega))])
    (fun k a i h1 h2 => by
      unfold mX3_sumOfWays_4
      try simp only [kn_0, kn_1, kn_2, kn_3, kn_4, kn_5, kn_6, kn_7, kn_16, kn_17, kn_18, kn_36, k_b1]
      rw [if_neg (nI_nlt (b := i) (a := 17) (by omega) (by omega)), b_on hf (by omega), k_bs, pk_mul, nI_add, nI_add _ 1])
    17 1 0 k_F (by omega) (by omega) (by unfold k_F; omega)
  unfold mX3_sumOfWays
  try simp only [kn_0, kn_1, kn_2, kn_3, kn_4, kn_5, kn_6, kn_7, kn_16, kn_17, kn_18, kn_36, k_b1]
  rw [h, Nat.zero_add]
  rfl
theorem c_blot {f : Nat → Nat} (hf : b_ok f) : mX3_singles (b_L f) = some (nI (g_blot f)) := by
  have h := k_sumL (z := fun _ _ => none) (st := mX3_singles_4 (b_L f)) (fun w => if f w = 1 then 1 else 0) (fun a => some (nI a)) 1 17 (fun k a => by
      unfold mX3_singles_4
      try simp only [kn_0, kn_1, kn_2, kn_3, kn_4, kn_5, kn_6, kn_7, kn_16, kn_17, kn_18, kn_36, k_b1]
      rw [if_pos (nI_lt (a := 16) (by omega) (by omega))])
    (fun k a i h1 h2 => by
      unfold mX3_singles_4
      try simp only [kn_0, kn_1, kn_2, kn_3, kn_4, kn_5, kn_6, kn_7, kn_16, kn_17, kn_18, kn_36, k_b1]
      have hl := b_ok_le hf (i := i) (by omega)
      rw [if_neg (nI_nlt (b := i) (a := 16) (by omega) (by omega)), b_on hf (by omega), k_bs]
      by_cases c : f i = 1
      · rw [if_pos (by rw [c]), if_pos c, nI_add _ 1, nI_add _ 1]
      · rw [if_neg (fun h => c ((nI_eq (b := 1) (by omega) (by omega)).mp h)), if_neg c, nI_add, nI_add _ 1])
    16 1 0 k_F (by omega) (by omega) (by unfold k_F; omega)
  unfold mX3_singles
  try simp only [kn_0, kn_1, kn_2, kn_3, kn_4, kn_5, kn_6, kn_7, kn_16, kn_17, kn_18, kn_36, k_b1]
  rw [h, Nat.zero_add]
  rfl
theorem g_sum_le {F : Nat → Nat} : ∀ {n a : Nat}, (∀ i, a ≤ i → i < a + n → F i ≤ 1) → g_sum F a n ≤ n
  | 0, _, _ => Nat.le_refl _
  | n + 1, a, h => by
    have h1 := h a (by omega) (by omega)
    have h2 := g_sum_le (F := F) (n := n) (a := a + 1) (fun i h1 h2 => h i (by omega) (by omega))
    show F a + g_sum F (a + 1) n ≤ n + 1
    omega
theorem g_bar_le {g : Nat → Nat} : g_bar g ≤ 6 := g_sum_le (fun i _ _ => by show (if 2 ≤ g i then 1 else 0) ≤ 1; split <;> omega)
theorem c_enter {g : Nat → Nat} (hg : b_ok g) : mX6_rollsThatEnter (b_L g) = some (nI (36 - g_bar g * g_bar g)) := by
  have h := k_sumL (z := fun _ _ => none) (st := mX6_rollsThatEnter_4 (b_L g)) (fun d => if 2 ≤ g d then 1 else 0) (fun a => some (nI 36 - nI a * nI a)) 1 7 (fun k a => by
      unfold mX6_rollsThatEnter_4
      try simp only [kn_0, kn_1, kn_2, kn_3, kn_4, kn_5, kn_6, kn_7, kn_16, kn_17, kn_18, kn_36, k_b1]
      rw [if_pos (nI_lt (a := 6) (by omega) (by omega))])
    (fun k a i h1 h2 => by
      unfold mX6_rollsThatEnter_4
      try simp only [kn_0, kn_1, kn_2, kn_3, kn_4, kn_5, kn_6, kn_7, kn_16, kn_17, kn_18, kn_36, k_b1]
      have hl := b_ok_le hg (i := i) (by omega)
      rw [if_neg (nI_nlt (b := i) (a := 6) (by omega) (by omega)), pk_sub (by omega), b_across hg (by omega), k_bs, show 17 - (17 - i) = i by omega]
      by_cases c : 2 ≤ g i
      · rw [if_neg (nI_nlt (b := 2) c (by omega)), if_pos c, nI_add _ 1, nI_add _ 1]
      · rw [if_pos (nI_lt (b := 2) (by omega) (by omega)), if_neg c, nI_add, nI_add _ 1])
    6 1 0 k_F (by omega) (by omega) (by unfold k_F; omega)
  have hb := g_bar_le (g := g)
  have hb2 : g_bar g * g_bar g ≤ 6 * 6 := Nat.mul_le_mul hb hb
  unfold mX6_rollsThatEnter
  try simp only [kn_0, kn_1, kn_2, kn_3, kn_4, kn_5, kn_6, kn_7, kn_16, kn_17, kn_18, kn_36, k_b1]
  rw [h, Nat.zero_add]
  show some (nI 36 - nI (g_bar g) * nI (g_bar g)) = _
  rw [pk_mul, pk_sub hb2]
def g_run (B : Nat → Bool) (N k : Nat) : Prop := ∃ a, a + k ≤ N ∧ ∀ i, i < k → B (a + i) = true
def g_mw (B : Nat → Bool) (N r : Nat) : Prop := g_run B N r ∧ ∀ k, g_run B N k → k ≤ r
theorem g_mw_uniq {B : Nat → Bool} {N r r' : Nat} (h : g_mw B N r) (h' : g_mw B N r') : r = r' := Nat.le_antisymm (h'.2 r h.1) (h.2 r' h'.1)
theorem g_mw_le {B : Nat → Bool} {N r : Nat} (h : g_mw B N r) : r ≤ N := by obtain ⟨⟨a, h1, -⟩, -⟩ := h; omega
theorem g_mw_rev {B C : Nat → Bool} {N r : Nat} (hBC : ∀ i, i < N → C i = B (N - 1 - i)) (h : g_mw B N r) : g_mw C N r := by
  have fl : ∀ {B C : Nat → Bool} {k : Nat}, (∀ i, i < N → C i = B (N - 1 - i)) → g_run B N k → g_run C N k := fun {B C k} hBC ⟨a, h1, h2⟩ =>
    ⟨N - a - k, by omega, fun i hi => by rw [hBC _ (by omega), show N - 1 - (N - a - k + i) = a + (k - 1 - i) by omega]; exact h2 _ (by omega)⟩
  exact ⟨fl hBC h.1, fun k hk => h.2 k (fl (fun i hi => by rw [hBC _ (by omega)]; congr 1; omega) hk)⟩
theorem g_mw_congr {B C : Nat → Bool} {N r : Nat} (hBC : ∀ i, i < N → C i = B i) (h : g_mw B N r) : g_mw C N r := by
  have fl : ∀ {B C : Nat → Bool} {k : Nat}, (∀ i, i < N → C i = B i) → g_run B N k → g_run C N k := fun {B C k} hBC ⟨a, h1, h2⟩ =>
    ⟨a, h1, fun i hi => by rw [hBC _ (by omega)]; exact h2 _ hi⟩
  exact ⟨fl hBC h.1, fun k hk => h.2 k (fl (fun i hi => (hBC i hi).symm) hk)⟩
def g_wi (B : Nat → Bool) (i len best : Nat) : Prop := (len ≤ i ∧ (∀ j, i - len ≤ j → j < i → B j = true) ∧ (len = i ∨ B (i - len - 1) = false)) ∧ g_mw B i best
theorem g_wi_0 {B : Nat → Bool} : g_wi B 0 0 0 := ⟨⟨Nat.le_refl _, fun j _ h => by omega, Or.inl rfl⟩, ⟨0, by omega, fun i h => by omega⟩, fun k ⟨a, h, _⟩ => by omega⟩
theorem g_wi_s {B : Nat → Bool} {i len best : Nat} (h : g_wi B i len best) : g_wi B (i + 1) (if B i = true then len + 1 else 0) (Nat.max best (if B i = true then len + 1 else 0)) := by
  obtain ⟨⟨h1, h2, h3⟩, h4, h5⟩ := h
  have keep : ∀ k, g_run B i k → g_run B (i + 1) k := fun k ⟨a, x, y⟩ => ⟨a, by omega, y⟩
  by_cases c : B i = true
  · rw [if_pos c]
    have hr : g_run B (i + 1) (len + 1) := ⟨i - len, by omega, fun j hj => by
      rcases Nat.lt_or_ge (i - len + j) i with q | q
      · exact h2 _ (by omega) q
      · rw [show i - len + j = i by omega]; exact c⟩
    refine ⟨⟨by omega, fun j x y => ?_, ?_⟩, ?_, fun k ⟨a, x, y⟩ => ?_⟩
    · rcases Nat.lt_or_ge j i with q | q
      · exact h2 j (by omega) q
      · rw [show j = i by omega]; exact c
    · rcases h3 with h3 | h3
      · left; omega
      · right; rw [show i + 1 - (len + 1) - 1 = i - len - 1 by omega]; exact h3
    · rcases Nat.le_total best (len + 1) with q | q
      · rw [show Nat.max best (len + 1) = len + 1 from Nat.max_eq_right q]; exact hr
      · rw [show Nat.max best (len + 1) = best from Nat.max_eq_left q]; exact keep _ h4
    · rcases Nat.lt_or_ge i (a + k) with q | q
      · refine Nat.le_trans ?_ (Nat.le_max_right _ _)
        rcases h3 with h3 | h3
        · omega
        · rcases Nat.lt_or_ge a (i - len) with z | z
          · have := y (i - len - 1 - a) (by omega)
            rw [show a + (i - len - 1 - a) = i - len - 1 by omega, h3] at this
            cases this
          · omega
      · exact Nat.le_trans (h5 k ⟨a, q, y⟩) (Nat.le_max_left _ _)
  · rw [if_neg c, show Nat.max best 0 = best from Nat.max_eq_left (Nat.zero_le _)]
    refine ⟨⟨by omega, fun j x y => by omega, Or.inr ?_⟩, keep _ h4, fun k ⟨a, x, y⟩ => ?_⟩
    · rw [show i + 1 - 0 - 1 = i by omega]
      cases q : B i
      · rfl
      · exact absurd q c
    · rcases Nat.lt_or_ge i (a + k) with q | q
      · rcases Nat.eq_zero_or_pos k with z | z
        · omega
        · have := y (i - a) (by omega)
          rw [show a + (i - a) = i by omega] at this
          exact absurd this c
      · exact h5 k ⟨a, q, y⟩
def g_blk (f : Nat → Nat) (i : Nat) : Bool := decide (2 ≤ f (i + 1))
theorem c_wall {f : Nat → Nat} (hf : b_ok f) : ∃ r, mX3_longestWall (b_L f) = some (nI r) ∧ g_mw (g_blk f) 16 r := by
  have key : ∀ (j i len best m : Nat), i + j = 16 → j < m → g_wi (g_blk f) i len best → ∃ r, k_fix (fun _ _ _ => none) (mX3_longestWall_7 (b_L f)) m (nI best) (nI len) (nI (i + 1)) = some (nI r) ∧ g_mw (g_blk f) 16 r := by
    intro j
    induction j with
    | zero =>
      intro i len best m hi hm hw
      have e : i = 16 := by omega
      subst e
      refine ⟨best, ?_, hw.2⟩
      rw [k_fix1 hm]
      rw [mX3_longestWall_7]
      try simp only [kn_0, kn_1, kn_2, kn_3, kn_4, kn_5, kn_6, kn_7, kn_16, kn_17, kn_18, kn_36, k_b1]
      rw [if_pos (nI_lt (a := 16) (by omega) (by omega))]
    | succ j ih =>
      intro i len best m hi hm hw
      have hl := b_ok_le hf (i := i + 1) (by omega)
      have hbest := g_mw_le hw.2
      have hlen := hw.1.1
      obtain ⟨r, h1, h2⟩ := ih (i + 1) _ _ (m - 1) (by omega) (by omega) (g_wi_s hw)
      refine ⟨r, ?_, h2⟩
      rw [k_fix1 (by omega)]
      rw [mX3_longestWall_7]
      unfold mX3_longestWall_31
      try simp only [kn_0, kn_1, kn_2, kn_3, kn_4, kn_5, kn_6, kn_7, kn_16, kn_17, kn_18, kn_36, k_b1]
      rw [if_neg (nI_nlt (b := i + 1) (a := 16) (by omega) (by omega)), b_on hf (by omega), k_bs]
      by_cases c : 2 ≤ f (i + 1)
      · have cb : g_blk f i = true := decide_eq_true c
        rw [if_pos cb] at h1
        rw [if_neg (nI_nlt (b := 2) c (by omega)), nI_add _ 1, nI_add _ 1, k_mx (by omega) (by omega)]
        exact h1
      · have cb : ¬ g_blk f i = true := fun h => c (of_decide_eq_true h)
        rw [if_neg cb] at h1
        rw [if_pos (nI_lt (b := 2) (by omega) (by omega)), nI_add _ 1, k_mx (by omega) (by omega)]
        exact h1
  exact key 16 0 0 0 k_F (by omega) (by unfold k_F; omega) g_wi_0
def g_af (P : GP) (d : Nat) : Nat → Nat → Bool
  | _, 0 => false
  | w, j + 1 => decide (g_A P d w) || g_af P d (w + 1) j
theorem g_af_iff {P : GP} {d : Nat} : ∀ {j w : Nat}, g_af P d w j = true ↔ ∃ v, w ≤ v ∧ v < w + j ∧ g_A P d v
  | 0, w => ⟨fun h => (nomatch h), fun ⟨v, h1, h2, _⟩ => by omega⟩
  | j + 1, w => by
    show (decide (g_A P d w) || g_af P d (w + 1) j) = true ↔ _
    rw [Bool.or_eq_true, decide_eq_true_eq, g_af_iff]
    constructor
    · rintro (h | ⟨v, h1, h2, h3⟩)
      · exact ⟨w, Nat.le_refl _, by omega, h⟩
      · exact ⟨v, by omega, by omega, h3⟩
    · intro ⟨v, h1, h2, h3⟩
      rcases Nat.lt_or_ge w v with q | q
      · exact Or.inr ⟨v, q, by omega, h3⟩
      · left; rw [show w = v by omega]; exact h3
theorem g_af_any {P : GP} {d : Nat} : g_af P d 1 17 = g_any P d := by
  rw [Bool.eq_iff_iff, g_af_iff, g_any_iff]
  exact ⟨fun ⟨v, _, _, h⟩ => ⟨v, h⟩, fun ⟨v, h⟩ => ⟨v, h.1, by have := h.2.1; omega, h⟩⟩
theorem g_ban_lt {f g : Nat → Nat} {d w : Nat} : g_ban f g d w < 6 := by unfold g_ban; (repeat' split) <;> omega
theorem c_any {ds : List Nat} {P : GP} {d : Nat} (hds : ds ∈ d_all) (hP : g_ok P) (hd : d ∈ ds) : mX7_isAnyAllowed (b_L P.1) (b_L P.2) (d_I ds) (nI d) = some (g_any P d) := by
  obtain ⟨r1, r2⟩ := d_range ds hds d hd
  have key : ∀ (j w m : Nat), 1 ≤ w → w + j = 18 → j < m → k_fix (fun _ => none) (mX7_isAnyAllowed_3 (b_L P.1) (b_L P.2) (d_I ds) (nI d)) m (nI w) = some (g_af P d w j) := by
    intro j
    induction j with
    | zero =>
      intro w m h1 h2 hm
      rw [k_fix1 hm]
      rw [mX7_isAnyAllowed_3]
      try simp only [kn_0, kn_1, kn_2, kn_3, kn_4, kn_5, kn_6, kn_7, kn_16, kn_17, kn_18, kn_36, k_b1]
      rw [if_pos (nI_lt (a := 17) (by omega) (by omega))]
      rfl
    | succ j ih =>
      intro w m h1 h2 hm
      rw [k_fix1 (by omega)]
      rw [mX7_isAnyAllowed_3]
      try simp only [kn_0, kn_1, kn_2, kn_3, kn_4, kn_5, kn_6, kn_7, kn_16, kn_17, kn_18, kn_36, k_b1]
      rw [if_neg (nI_nlt (b := w) (a := 17) (by omega) (by omega)), c_ban hP.1 hP.2.1 hds r1 r2 (by omega), if_pos hd, k_bs]
      have hb := g_ban_lt (f := P.1) (g := P.2) (d := d) (w := w)
      by_cases c : g_ban P.1 P.2 d w = 0
      · have hA : g_A P d w := ⟨h1, by omega, c⟩
        rw [if_pos (by rw [c])]
        show _ = some (decide (g_A P d w) || g_af P d (w + 1) j)
        rw [decide_eq_true hA]
        rfl
      · have hA : ¬ g_A P d w := fun h => c h.2.2
        rw [if_neg (kI_ne0 (by omega) (by omega)), nI_add _ 1, ih (w + 1) (m - 1) (by omega) (by omega) (by omega)]
        show _ = some (decide (g_A P d w) || g_af P d (w + 1) j)
        rw [decide_eq_false hA]
        rfl
  unfold mX7_isAnyAllowed
  try simp only [kn_0, kn_1, kn_2, kn_3, kn_4, kn_5, kn_6, kn_7, kn_16, kn_17, kn_18, kn_36, k_b1]
  rw [key 17 1 k_F (by omega) (by omega) (by unfold k_F; omega), g_af_any]
theorem d_shape : ∀ ds ∈ d_all, (g_un ds = true ∧ ds = [ds.getD 0 0, ds.getD 1 0] ∧ ds.getD 0 0 ≠ ds.getD 1 0 ∧ (d_ks ds).length = 2) ∨ (g_un ds = false ∧ ds = List.replicate ds.length (ds.getD 0 0) ∧ (d_ks ds).length < 2) := by decide +kernel
theorem g_R_like {d k : Nat} {P : GP} (h : k < 5) : g_R (List.replicate k d) P = g_rl d k P := g_rc_rep 4 k P (by omega)
theorem g_R_two {a b : Nat} {P : GP} (h : a ≠ b) : g_R [a, b] P = if (g_two P a b || g_two P b a) = true then 2 else if (g_any P a || g_any P b) = true then 1 else 0 := g_rc_two (n := 2) h
theorem g_R_one {a : Nat} {P : GP} : g_R [a] P = if g_any P a = true then 1 else 0 := g_rc_one (n := 3)
theorem g_R_le {ds : List Nat} {P : GP} : g_R ds P ≤ ds.length := g_rc_len
set_option maxHeartbeats 1000000 in
theorem c_reason {ds : List Nat} {P : GP} {d w : Nat} (hds : ds ∈ d_all) (hP : g_ok P) (hd : 0 < d) (hd7 : d < 7) (hw1 : 1 ≤ w) (hw : w ≤ 17) :
    mX7_reason (b_L P.1) (b_L P.2) (d_I ds) (nI w) (nI d) (nI (g_R ds P)) = some (nI (g_re ds P d w)) := by
  unfold mX7_reason g_re
  try simp only [kn_0, kn_1, kn_2, kn_3, kn_4, kn_5, kn_6, kn_7, kn_16, kn_17, kn_18, kn_36, k_b1]
  rw [c_ban hP.1 hP.2.1 hds hd hd7 (by omega)]
  by_cases hm : d ∈ ds
  rotate_left
  · rw [if_neg hm, if_neg hm]; try rfl
  rw [if_pos hm, if_pos hm, k_bs]
  have hb := g_ban_lt (f := P.1) (g := P.2) (d := d) (w := w)
  by_cases c : g_ban P.1 P.2 d w = 0
  rotate_left
  · rw [if_neg (kI_ne0 (by omega) (by omega)), if_neg c]
  have hA : g_A P d w := ⟨hw1, hw, c⟩
  have hlen := d_len ds hds
  have hRl := g_R_le (ds := ds) (P := P)
  have hR1 : 1 ≤ g_R ds P := by
    have h1 : d_ks ds ≠ [] ∧ d ∈ d_ks ds := by
      rcases d_shape ds hds with ⟨-, e, h2, -⟩ | ⟨-, e, -⟩
      · have h3 : d ∈ d_ks [ds.getD 0 0, ds.getD 1 0] := by rw [d_ks_two h2, ← e]; exact hm
        rw [← e] at h3
        exact ⟨fun h => (by rw [h] at h3; cases h3), h3⟩
      · have h3 : d = ds.getD 0 0 := List.eq_of_mem_replicate (by rw [← e]; exact hm)
        have h4 : 0 < ds.length := List.length_pos_of_mem hm
        have h5 : d_ks ds = [ds.getD 0 0] := by
          have := d_ks_rep (ds.getD 0 0) (ds.length - 1)
          rwa [show ds.length - 1 + 1 = ds.length by omega, ← e] at this
        rw [h5, h3]
        exact ⟨fun h => (nomatch h), List.mem_singleton.mpr rfl⟩
    have := g_rc_ge (n := 3) h1.2 hA
    show 1 ≤ g_rc (3 + 1) ds P
    omega
  have hst := g_ok_st hP hA
  have her := d_erase ds hds d hm
  rw [if_pos (by rw [c]), if_pos c, c_mine hP.1 hd7 (by omega) (g_ban0.mp c).1, k_bs, c_theirs hP.2.1 hd7 (by omega), k_bs, d_without ds hds d hm, k_bs]
  have hr := c_reach her hst
  have hrl := g_R_le (ds := ds.erase d) (P := g_st P d w)
  have hel := List.length_erase_of_mem hm
  rw [show mX7_reachOf 6 (b_L (g_mv P.1 d w)) (b_L (g_th P.2 d w)) (d_I (ds.erase d)) (nI 4) = _ from hr, k_bs, pk_sub hR1, d_kinds ds hds]
  rcases d_shape ds hds with ⟨u1, u2, u3, u4⟩ | ⟨u1, u2, u3⟩
  · rw [if_pos u1]
    obtain ⟨a, ha⟩ : ∃ a, a = ds.getD 0 0 := ⟨_, rfl⟩
    obtain ⟨b, hbb⟩ : ∃ b, b = ds.getD 1 0 := ⟨_, rfl⟩
    rw [← ha, ← hbb] at u2 u3
    subst u2
    have hab : d = a ∨ d = b := by
      rcases List.mem_cons.mp hm with e | e
      · exact Or.inl e
      · exact Or.inr (List.mem_singleton.mp e)
    have hot : ∃ o, g_ot [a, b] d = o ∧ [a, b].erase d = [o] ∧ o ∈ [a, b] ∧ Nat.max a b = Nat.max d o ∧ d ≠ o := by
      rcases hab with e | e
      · subst e; exact ⟨b, by show d + b - d = b; omega, g_er1 _ _, List.mem_cons_of_mem _ List.mem_cons_self, rfl, u3⟩
      · subst e; exact ⟨a, by show a + d - d = a; omega, g_er2 u3, List.mem_cons_self, Nat.max_comm _ _, fun h => u3 h.symm⟩
    obtain ⟨o, ho1, ho2, ho3, ho4, ho5⟩ := hot
    obtain ⟨or1, or2⟩ := d_range _ hds o ho3
    rw [ho1, ho2, g_R_one, u4]
    have hR2 : g_R [a, b] P = 2 ∨ g_R [a, b] P = 1 := by
      have : g_R [a, b] P ≤ 2 := hRl
      omega
    rcases hR2 with hR2 | hR2
    · rw [hR2, if_pos rfl]
      by_cases q : g_any (g_st P d w) o = true
      · rw [if_pos q, if_pos q, if_pos (Int32.le_refl _), k_bs, if_pos rfl, if_neg (by decide)]
        unfold mX7_reason_81 mX7_reason_82
        try simp only [kn_0, kn_1, kn_2, kn_3, kn_4, kn_5, kn_6, kn_7, kn_16, kn_17, kn_18, kn_36, k_b1]
        rfl
      · rw [if_neg q, if_neg q, if_neg (by decide)]; try rfl
    · rw [hR2, if_neg (c := (1 : Nat) = 2) (by omega), if_pos (nI_le (Nat.zero_le _) (by split <;> omega)), k_bs, if_pos rfl, if_pos rfl]
      unfold mX7_reason_82
      try simp only [kn_0, kn_1, kn_2, kn_3, kn_4, kn_5, kn_6, kn_7, kn_16, kn_17, kn_18, kn_36, k_b1]
      rw [if_neg (by decide), d_greater _ hds, k_bs, ← hbb, ← ha, ho4, k_bs]
      by_cases q : d < o
      · rw [show Nat.max d o = o from Nat.max_eq_right (by omega), if_neg (nI_ge q (by omega)), c_any hds hP ho3, k_bs]
        cases z : g_any P o
        · rw [if_pos rfl, if_neg (fun h => (nomatch h.2))]; try rfl
        · rw [if_neg (fun h => (nomatch h)), if_pos ⟨q, rfl⟩]; try rfl
      · rw [show Nat.max d o = d from Nat.max_eq_left (by omega), if_pos (Int32.le_refl _), if_neg (fun h => q h.1)]; try rfl
  · rw [if_neg (c := g_un ds = true) (by rw [u1]; exact fun h => (nomatch h))]
    obtain ⟨a, ha⟩ : ∃ a, a = ds.getD 0 0 := ⟨_, rfl⟩
    obtain ⟨k, hk⟩ : ∃ k, k + 1 = ds.length := ⟨ds.length - 1, by have := List.length_pos_of_mem hm; omega⟩
    have e : d = a := by rw [ha]; exact List.eq_of_mem_replicate (by rw [← u2]; exact hm)
    rw [← ha, ← hk, ← e] at u2
    have h1 : g_R ds P = 1 + g_R (ds.erase d) (g_st P d w) := by
      rw [u2, g_er_rep, g_R_like (by omega), g_R_like (by omega)]
      exact g_rl_step hd hA
    rw [if_pos (nI_le (by omega) (by omega)), k_bs, if_neg (fun h => by have := (nI_eq (b := 2) (by omega) (by omega)).mp h; omega)]
    unfold mX7_reason_81 mX7_reason_82
    try simp only [kn_0, kn_1, kn_2, kn_3, kn_4, kn_5, kn_6, kn_7, kn_16, kn_17, kn_18, kn_36, k_b1]
    rfl
def g_cw (ds : List Nat) (P : GP) (w : Nat) : List Nat → Nat
  | [] => 0
  | d :: l => (if g_re ds P d w = 0 then 1 else 0) + g_cw ds P w l
theorem c_count {ds : List Nat} {P : GP} (hds : ds ∈ d_all) (hP : g_ok P) : mX7_countPossible (b_L P.1) (b_L P.2) (d_I ds) = some (nI (g_sum (fun w => g_cw ds P w (d_ks ds)) 1 17)) := by
  have hks := d_kslt ds hds
  have in26 : ∀ (k16 : Int32 → Int32 → Int32 → Option Int32) (w : Nat), 1 ≤ w → w ≤ 17 → ∀ (j i c m : Nat), i + j = (d_ks ds).length → j < m →
      k_fix (fun _ _ _ _ => none) (mX7_countPossible_26 (b_L P.1) (b_L P.2) (d_I ds) k16) m (nI (g_R ds P)) (nI c) (nI w) (nI i) = k16 (nI (g_R ds P)) (nI (c + g_cw ds P w ((d_ks ds).drop i))) (nI (w + 1)) := by
    intro k16 w hw1 hw j
    induction j with
    | zero =>
      intro i c m hi hm
      rw [k_fix1 hm]
      rw [mX7_countPossible_26]
      try simp only [kn_0, kn_1, kn_2, kn_3, kn_4, kn_5, kn_6, kn_7, kn_16, kn_17, kn_18, kn_36, k_b1]
      rw [d_kinds ds hds, k_bs, if_pos (nI_le (by omega) (by omega)), List.drop_of_length_le (by omega), nI_add _ 1]
      rfl
    | succ j ih =>
      intro i c m hi hm
      have hil : i < (d_ks ds).length := by omega
      obtain ⟨d, hdq⟩ : ∃ d, d = (d_ks ds).getD i 0 := ⟨_, rfl⟩
      have hd0 : (d_ks ds)[i]? = some d := by rw [hdq, List.getD_eq_getElem?_getD, List.getElem?_eq_getElem hil]; try rfl
      have hdm : d ∈ d_ks ds := List.mem_of_getElem? hd0
      have hdrop : (d_ks ds).drop i = d :: (d_ks ds).drop (i + 1) := by
        rw [List.drop_eq_getElem_cons hil]
        congr 1
        rw [List.getElem?_eq_getElem hil] at hd0
        exact Option.some.inj hd0
      obtain ⟨r1, r2⟩ := d_range ds hds d (d_ks_sub hdm)
      have hre : g_re ds P d w < 100 := by
        have := g_ban_lt (f := P.1) (g := P.2) (d := d) (w := w)
        unfold g_re; (repeat' split) <;> omega
      rw [k_fix1 (by omega)]
      rw [mX7_countPossible_26]
      try simp only [kn_0, kn_1, kn_2, kn_3, kn_4, kn_5, kn_6, kn_7, kn_16, kn_17, kn_18, kn_36, k_b1]
      rw [d_kinds ds hds, k_bs, if_neg (nI_ge hil (by omega)), d_ksat ds hds i hil, k_bs, ← hdq, c_reason hds hP r1 r2 hw1 hw, k_bs, hdrop, nI_add _ 1, nI_add _ 1, nI_add]
      show _ = k16 (nI (g_R ds P)) (nI (c + ((if g_re ds P d w = 0 then 1 else 0) + g_cw ds P w ((d_ks ds).drop (i + 1))))) (nI (w + 1))
      by_cases q : g_re ds P d w = 0
      · rw [if_pos (by rw [q]), if_pos q, ih (i + 1) (c + 1) (m - 1) (by omega) (by omega), Nat.add_assoc]
      · rw [if_neg (fun h => q ((nI_eq (b := 0) (by omega) (by omega)).mp h)), if_neg q, ih (i + 1) (c + 0) (m - 1) (by omega) (by omega), Nat.add_assoc]
  have out : ∀ (j w c m : Nat), 1 ≤ w → w + j = 18 → j < m → k_fix (fun _ _ _ => none) (mX7_countPossible_16 (b_L P.1) (b_L P.2) (d_I ds)) m (nI (g_R ds P)) (nI c) (nI w) = some (nI (c + g_sum (fun w => g_cw ds P w (d_ks ds)) w j)) := by
    intro j
    induction j with
    | zero =>
      intro w c m h1 h2 hm
      rw [k_fix1 hm]
      rw [mX7_countPossible_16]
      try simp only [kn_0, kn_1, kn_2, kn_3, kn_4, kn_5, kn_6, kn_7, kn_16, kn_17, kn_18, kn_36, k_b1]
      rw [if_pos (nI_lt (a := 17) (by omega) (by omega))]
      rfl
    | succ j ih =>
      intro w c m h1 h2 hm
      rw [k_fix1 (by omega)]
      rw [mX7_countPossible_16]
      try simp only [kn_0, kn_1, kn_2, kn_3, kn_4, kn_5, kn_6, kn_7, kn_16, kn_17, kn_18, kn_36, k_b1]
      rw [if_neg (nI_nlt (b := w) (a := 17) (by omega) (by omega)), in26 _ w h1 (by omega) (d_ks ds).length 0 c k_F (by omega) (by unfold k_F; omega), ih (w + 1) _ (m - 1) (by omega) (by omega) (by omega)]
      show _ = some (nI (c + (g_cw ds P w (d_ks ds) + g_sum _ (w + 1) j)))
      rw [Nat.add_assoc]
      rfl
  unfold mX7_countPossible
  try simp only [kn_0, kn_1, kn_2, kn_3, kn_4, kn_5, kn_6, kn_7, kn_16, kn_17, kn_18, kn_36, k_b1]
  rw [c_reach hds hP, k_bs, out 17 1 0 k_F (by omega) (by omega) (by unfold k_F; omega), Nat.zero_add]
