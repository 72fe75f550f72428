/-! the reference's sums -/
theorem k_sumQ {α : Type} {z : Int32 → Int32 → Option α} {st : (Int32 → Int32 → Option α) → Int32 → Int32 → Option α} (F : Nat → Nat) (E : Nat → Option α) (lo N : Nat) (hend : ∀ k a, st k (nI a) (qm N) = E a)
    (hstep : ∀ k a i, lo ≤ i → i < N → st k (nI a) (qm i) = k (nI (a + F i)) (qm (i + 1))) : ∀ (j i a m : Nat), lo ≤ i → i + j = N → j < m → k_fix z st m (nI a) (qm i) = E (a + g_sum F i j)
  | 0, i, a, m, _, hN, hm => by
    rw [k_fix1 hm, show i = N by omega, hend]
    rfl
  | j + 1, i, a, m, hlo, hN, hm => by
    rw [k_fix1 (by omega), hstep _ _ _ hlo (by omega), k_sumQ F E lo N hend hstep j (i + 1) _ (m - 1) (by omega) (by omega) (by omega)]
    show E _ = E (a + (F i + g_sum F (i + 1) j))
    rw [Nat.add_assoc]
theorem g_sum_tr {p : Nat} (hp : p < 2) (G : Nat → Nat) : g_sum (fun q => G (tr p q)) 0 17 = g_sum G 1 17 := by
  rcases (by omega : p = 0 ∨ p = 1) with e | e <;> subst e <;> simp [g_sum, tr] <;> omega
theorem g_sum_tr1 {p : Nat} (hp : p < 2) (G : Nat → Nat) : g_sum (fun q => G (tr p q)) 1 16 = g_sum G 1 16 := by
  rcases (by omega : p = 0 ∨ p = 1) with e | e <;> subst e <;> simp [g_sum, tr] <;> omega
theorem qm_1 : nI 0 = qm 1 := by decide +kernel
theorem tr_16 {p q : Nat} (hp : p < 2) (h1 : 1 ≤ q) (hq : q < 17) : tr p q ≤ 16 := by
  unfold tr
  rcases (by omega : p = 0 ∨ p = 1) with e | e
  · subst e; rw [if_pos rfl]; omega
  · subst e; rw [if_neg (by omega), if_neg (by omega), if_neg (by omega)]; omega
theorem r_pip {s : Nat → Int32} {p : Nat} {f : Nat → Nat} (hp : p < 2) (h : RH s p f) : mX10_pip s (nI p) = some (nI (g_pip f)) := by
  have h1 := k_sumQ (z := fun _ _ => none) (st := mX10_pip_4 s (nI p)) (fun q => (fun w => w * f w) (tr p q)) (fun a => some (nI a)) 0 17 (fun k a => by
      unfold mX10_pip_4
      simp only [kn_16]
      rw [if_pos ((qm_end 17 (by omega)).mpr rfl)])
    (fun k a q h1 h2 => by
      unfold mX10_pip_4
      simp only [kn_16, kn_1]
      have ht := tr_lt p hp q (by omega)
      rw [if_neg (fun z => by have := (qm_end q (by omega)).mp z; omega), qm_s, qm_pl hp (by omega), r_at hp ht, k_bs, h _ ht, r_way p hp _ ht, k_bs, pk_mul, nI_add, Nat.mul_comm])
    17 0 0 k_F (by omega) (by omega) (by unfold k_F; omega)
  unfold mX10_pip
  simp only [kn_0, kn_1]
  rw [← qm_0, h1, Nat.zero_add]
  exact congrArg (fun n => some (nI n)) (g_sum_tr hp (fun w => w * f w))
theorem r_blot {s : Nat → Int32} {p : Nat} {f : Nat → Nat} (hp : p < 2) (hf : b_ok f) (h : RH s p f) : mX10_blot s (nI p) = some (nI (g_blot f)) := by
  have h1 := k_sumQ (z := fun _ _ => none) (st := mX10_blot_4 s (nI p)) (fun q => (fun w => if f w = 1 then 1 else 0) (tr p q)) (fun a => some (nI a)) 1 17 (fun k a => by
      unfold mX10_blot_4
      simp only [kn_16]
      rw [if_pos ((qm_end 17 (by omega)).mpr rfl)])
    (fun k a q h1 h2 => by
      unfold mX10_blot_4
      simp only [kn_16, kn_1, kn_0]
      have ht := tr_lt p hp q (by omega)
      have hl := b_ok_le hf ht
      rw [if_neg (fun z => by have := (qm_end q (by omega)).mp z; omega), qm_s, qm_pl hp (by omega), r_at hp ht, k_bs, h _ ht, nI_add, nI_add]
      by_cases c : f (tr p q) = 1
      · rw [if_pos (by rw [c]), if_pos c]
      · rw [if_neg (kI_neq c (by omega) (by omega)), if_neg c])
    16 1 0 k_F (by omega) (by omega) (by unfold k_F; omega)
  unfold mX10_blot
  simp only [kn_0]
  have h2 : k_fix (fun _ _ => none) (mX10_blot_4 s (nI p)) k_F (nI 0) (nI 0) = some (nI (0 + g_sum (fun q => (fun w => if f w = 1 then 1 else 0) (tr p q)) 1 16)) := by
    have := h1
    rw [← qm_1] at this
    exact this
  rw [h2, Nat.zero_add]
  exact congrArg (fun n => some (nI n)) (g_sum_tr1 hp (fun w => if f w = 1 then 1 else 0))
theorem r_wall {s : Nat → Int32} {p : Nat} {f : Nat → Nat} (hp : p < 2) (hf : b_ok f) (h : RH s p f) : ∃ r, mX10_wall s (nI p) = some (nI r) ∧ g_mw (g_blk f) 16 r := by
  obtain ⟨B, hBdef⟩ : ∃ B : Nat → Bool, B = fun x => decide (2 ≤ f (tr p (x + 1))) := ⟨_, rfl⟩
  have key : ∀ (j x len best m : Nat), x + j = 16 → j < m → g_wi B x len best → ∃ r, k_fix (fun _ _ _ => none) (mX10_wall_7 s (nI p)) m (nI best) (nI len) (qm (x + 1)) = some (nI r) ∧ g_mw B 16 r := by
    intro j
    induction j with
    | zero =>
      intro x len best m hx hm hw
      have e : x = 16 := by omega
      subst e
      refine ⟨best, ?_, hw.2⟩
      rw [k_fix1 hm, mX10_wall_7]
      simp only [kn_16]
      rw [if_pos ((qm_end 17 (by omega)).mpr rfl)]
    | succ j ih =>
      intro x len best m hx hm hw
      have ht := tr_lt p hp (x + 1) (by omega)
      have ht2 := tr_16 hp (q := x + 1) (by omega) (by omega)
      obtain ⟨ht1, -⟩ := tr_q hp (q := x + 1) (by omega)
      have hl := b_ok_le hf ht
      have hbest := g_mw_le hw.2
      have hlen := hw.1.1
      have hblk : mX10_isBlock s (nI p) (qm (x + 1)) = some (B x) := by
        rw [qm_pl hp (by omega), hBdef]
        unfold mX10_isBlock
        simp only [kn_16, kn_1]
        rw [pl_off p hp, if_neg (fun z => by have := (pl_eq p hp _ ht 0 (by omega)).mp z; omega), r_at hp ht, k_bs, h _ ht]
        by_cases c : 2 ≤ f (tr p (x + 1))
        · rw [if_neg (nI_ge (by omega) (by omega)), decide_eq_true c]
        · rw [if_pos (nI_le (by omega) (by omega)), decide_eq_false c]
      obtain ⟨r, h1, h2⟩ := ih (x + 1) _ _ (m - 1) (by omega) (by omega) (g_wi_s hw)
      refine ⟨r, ?_, h2⟩
      rw [k_fix1 (by omega), mX10_wall_7]
      unfold mX10_wall_31
      simp only [kn_16, kn_1, kn_0, k_b1]
      rw [if_neg (fun z => by have := (qm_end (x + 1) (by omega)).mp z; omega), hblk, k_bs, qm_s, nI_add]
      have mx : ∀ a : Nat, a ≤ 20 → (if nI a ≤ nI best then k_fix (fun _ _ _ => none) (mX10_wall_7 s (nI p)) (m - 1) (nI best) (nI a) (qm (x + 1 + 1)) else k_fix (fun _ _ _ => none) (mX10_wall_7 s (nI p)) (m - 1) (nI a) (nI a) (qm (x + 1 + 1))) = k_fix (fun _ _ _ => none) (mX10_wall_7 s (nI p)) (m - 1) (nI (Nat.max best a)) (nI a) (qm (x + 1 + 1)) := fun a ha => by
        by_cases c : a ≤ best
        · rw [if_pos (nI_le c (by omega)), show Nat.max best a = best from Nat.max_eq_left c]
        · rw [if_neg (nI_ge (by omega) (by omega)), show Nat.max best a = a from Nat.max_eq_right (by omega)]
      rw [mx 0 (by omega), mx (len + 1) (by omega)]
      cases q : B x
      · rw [q, if_neg (fun z => (nomatch z))] at h1
        rw [if_pos (by trivial)]; exact h1
      · rw [q, if_pos rfl] at h1
        rw [if_neg (fun z => (nomatch z))]; exact h1
  obtain ⟨r, h1, h2⟩ := key 16 0 0 0 k_F (by omega) (by unfold k_F; omega) g_wi_0
  refine ⟨r, ?_, ?_⟩
  · unfold mX10_wall
    simp only [kn_0]
    have h3 : k_fix (fun _ _ _ => none) (mX10_wall_7 s (nI p)) k_F (nI 0) (nI 0) (nI 0) = some (nI r) := by
      have h4 := h1
      rw [show qm (0 + 1) = nI 0 from qm_1.symm] at h4
      exact h4
    exact h3
  · rcases (by omega : p = 0 ∨ p = 1) with e | e
    · subst e
      refine g_mw_rev (B := B) (fun i hi => ?_) h2
      rw [hBdef]
      show decide (2 ≤ f (i + 1)) = decide (2 ≤ f (tr 0 (16 - 1 - i + 1)))
      have : tr 0 (16 - 1 - i + 1) = i + 1 := by unfold tr; rw [if_pos rfl]; omega
      rw [this]
    · subst e
      refine g_mw_congr (B := B) (fun i hi => ?_) h2
      rw [hBdef]
      show decide (2 ≤ f (i + 1)) = decide (2 ≤ f (tr 1 (i + 1)))
      have : tr 1 (i + 1) = i + 1 := by unfold tr; rw [if_neg (by omega), if_neg (by omega), if_neg (by omega)]
      rw [this]
theorem r_enters {s : Nat → Int32} {p : Nat} {g : Nat → Nat} (hp : p < 2) (hg : b_ok g) (h : RH s (1 - p) g) : mX10_enters s (nI p) = some (nI (36 - g_bar g * g_bar g)) := by
  have h1 := k_sumL (z := fun _ _ => none) (st := mX10_enters_4 s (nI p)) (fun d => if 2 ≤ g d then 1 else 0) (fun a => some (nI 36 - nI a * nI a)) 1 7 (fun k a => by
      unfold mX10_enters_4
      simp only [kn_6, kn_36]
      rw [if_pos (nI_lt (a := 6) (by omega) (by omega))])
    (fun k a d h1 h2 => by
      unfold mX10_enters_4
      simp only [kn_6, kn_1, kn_0, k_b1]
      have hl := b_ok_le hg (i := d) (by omega)
      rw [if_neg (nI_nlt (b := d) (a := 6) (by omega) (by omega)), pl_bar p hp, r_target p hp 17 (by omega) (by omega) d (by omega) h1, k_bs, r_1p hp, r_isBlock hp (by omega) hg h, k_bs, nI_add, nI_add, nI_add, show 17 - (17 - d) = d by omega]
      by_cases c : 2 ≤ g d
      · rw [decide_eq_true ⟨by omega, c⟩, if_neg (fun z => (nomatch z)), if_pos c]
      · rw [decide_eq_false (fun z => c z.2), if_pos (by trivial), if_neg c])
    6 1 0 k_F (by omega) (by omega) (by unfold k_F; omega)
  have hb := g_bar_le (g := g)
  have hb2 : g_bar g * g_bar g ≤ 6 * 6 := Nat.mul_le_mul hb hb
  unfold mX10_enters
  simp only [kn_0, kn_1]
  rw [h1, Nat.zero_add]
  show some (nI 36 - nI (g_bar g) * nI (g_bar g)) = _
  rw [pk_mul, pk_sub hb2]
/-! possible steps -/
def g_c0 (ds : List Nat) (P : GP) (d w : Nat) : Nat := if g_re ds P d w = 0 then 1 else 0
theorem g_sum_add (F G : Nat → Nat) : ∀ (n a : Nat), g_sum (fun i => F i + G i) a n = g_sum F a n + g_sum G a n
  | 0, _ => rfl
  | n + 1, a => by
    show F a + G a + g_sum (fun i => F i + G i) (a + 1) n = F a + g_sum F (a + 1) n + (G a + g_sum G (a + 1) n)
    rw [g_sum_add F G n (a + 1)]; omega
theorem g_sum_zero : ∀ (n a : Nat), g_sum (fun _ => 0) a n = 0
  | 0, _ => rfl
  | n + 1, a => by
    show 0 + g_sum (fun _ => 0) (a + 1) n = 0
    rw [g_sum_zero n (a + 1)]
theorem g_sum_swap (F : Nat → Nat → Nat) (n a : Nat) : ∀ (m b : Nat), g_sum (fun i => g_sum (fun j => F i j) b m) a n = g_sum (fun j => g_sum (fun i => F i j) a n) b m
  | 0, b => g_sum_zero n a
  | m + 1, b => by
    show g_sum (fun i => F i b + g_sum (fun j => F i j) (b + 1) m) a n = g_sum (fun i => F i b) a n + _
    rw [g_sum_add, g_sum_swap F n a m (b + 1)]
theorem g_cw_sum {ds : List Nat} {P : GP} {w : Nat} (hds : ds ∈ d_all) : g_sum (fun d => g_c0 ds P d w) 1 6 = g_cw ds P w (d_ks ds) := by
  have z : ∀ d, d ∉ ds → g_c0 ds P d w = 0 := fun d h => by
    unfold g_c0 g_re
    rw [if_neg (c := d ∈ ds) h]; rfl
  have e : ∀ l, g_cw ds P w l = (l.map (fun d => g_c0 ds P d w)).sum := by
    intro l
    induction l with
    | nil => rfl
    | cons d l ih => show g_c0 ds P d w + g_cw ds P w l = _; rw [ih]; rfl
  rw [e]
  rcases d_shape ds hds with ⟨-, u2, u3, -⟩ | ⟨-, u2, -⟩
  · obtain ⟨a, ha⟩ : ∃ a, a = ds.getD 0 0 := ⟨_, rfl⟩
    obtain ⟨b, hb⟩ : ∃ b, b = ds.getD 1 0 := ⟨_, rfl⟩
    rw [← ha, ← hb] at u2 u3
    obtain ⟨ra1, ra2⟩ := d_range ds hds a (by rw [u2]; exact List.mem_cons_self)
    obtain ⟨rb1, rb2⟩ := d_range ds hds b (by rw [u2]; exact List.mem_cons_of_mem _ List.mem_cons_self)
    have hk : d_ks ds = [a, b] := by rw [u2]; exact d_ks_two u3
    have z2 : ∀ d, d ≠ a → d ≠ b → g_c0 ds P d w = 0 := fun d h1 h2 => z d (by rw [u2]; simp [h1, h2])
    rw [hk]
    generalize g_c0 ds P = C at z2
    have hs : ∀ x, x < 7 → 0 < x → x = 1 ∨ x = 2 ∨ x = 3 ∨ x = 4 ∨ x = 5 ∨ x = 6 := fun x _ _ => by omega
    rcases hs a ra2 ra1 with q | q | q | q | q | q <;> rcases hs b rb2 rb1 with q' | q' | q' | q' | q' | q' <;> subst q <;> subst q' <;> first | exact absurd rfl u3 | (simp [g_sum, z2, Nat.add_comm])
  · by_cases c : ds = []
    · subst c
      rw [show d_ks [] = [] from rfl]
      simp [g_sum, z]
    · obtain ⟨d, hd⟩ : ∃ d, d = ds.getD 0 0 := ⟨_, rfl⟩
      have hlen : 0 < ds.length := List.length_pos_iff.mpr c
      have hmem : d ∈ ds := by
        rw [hd, List.getD_eq_getElem?_getD, List.getElem?_eq_getElem hlen]
        exact List.getElem_mem hlen
      obtain ⟨r1, r2⟩ := d_range ds hds d hmem
      rw [← hd] at u2
      have hk : d_ks ds = [d] := by
        have := d_ks_rep d (ds.length - 1)
        rwa [show ds.length - 1 + 1 = ds.length by omega, ← u2] at this
      have z2 : ∀ e, e ≠ d → g_c0 ds P e w = 0 := fun e h1 => z e (by rw [u2]; intro h; exact h1 (List.eq_of_mem_replicate h))
      rw [hk]
      generalize g_c0 ds P = C at z2
      have hs : ∀ x, x < 7 → 0 < x → x = 1 ∨ x = 2 ∨ x = 3 ∨ x = 4 ∨ x = 5 ∨ x = 6 := fun x _ _ => by omega
      rcases hs d r2 r1 with q | q | q | q | q | q <;> subst q <;> simp [g_sum, z2]
def g_poss (ds : List Nat) (P : GP) : Nat := g_sum (fun w => g_cw ds P w (d_ks ds)) 1 17
theorem r_possible {s laid : Nat → Int32} {p : Nat} {ds : List Nat} {P : GP} (hp : p < 2) (hP : g_ok P) (h : RB s p P) (hds : ds ∈ d_all) (hD : RD s ds) (h36 : s 36 = nI p) :
    ∃ laid', mX10_possible s laid = some (nI (g_poss ds P), s, laid') := by
  have inn : ∀ (k4 : Int32 → Int32 → (Nat → Int32) → (Nat → Int32) → Option (Int32 × (Nat → Int32) × (Nat → Int32))) (d : Nat), 1 ≤ d → d < 7 → ∀ (j q c m : Nat) (laid : Nat → Int32), q + j = 17 → j < m →
      ∃ laid', k_fix (fun _ _ _ _ _ => none) (mX10_possible_12 k4) m (nI c) (nI d) (qm q) s laid = k4 (nI (c + g_sum (fun q => g_c0 ds P d (tr p q)) q j)) (nI (d + 1)) s laid' := by
    intro k4 d hd1 hd j
    induction j with
    | zero =>
      intro q c m laid hq hm
      refine ⟨laid, ?_⟩
      rw [k_fix1 hm, mX10_possible_12, show q = 17 by omega]
      simp only [kn_16, kn_1]
      rw [if_pos ((qm_end 17 (by omega)).mpr rfl), nI_add]
      rfl
    | succ j ih =>
      intro q c m laid hq hm
      obtain ⟨t1, t2⟩ := tr_q hp (q := q) (by omega)
      have hre : g_re ds P d (tr p q) < 100 := by
        have := g_ban_lt (f := P.1) (g := P.2) (d := d) (w := tr p q)
        unfold g_re; (repeat' split) <;> omega
      obtain ⟨l1, e1⟩ := r_why (laid := laid) hp hP h hds hD h36 hd1 hd t1 t2
      rw [k_fix1 (by omega), mX10_possible_12]
      simp only [kn_16, kn_1, kn_0]
      rw [if_neg (fun z => by have := (qm_end q (by omega)).mp z; omega), qm_s, qm_pl hp (by omega), k_bd3_some e1, nI_add, nI_add]
      show ∃ laid', _ = k4 (nI (c + (g_c0 ds P d (tr p q) + g_sum (fun q => g_c0 ds P d (tr p q)) (q + 1) j))) (nI (d + 1)) s laid'
      have hc : g_c0 ds P d (tr p q) = if g_re ds P d (tr p q) = 0 then 1 else 0 := rfl
      rw [hc]
      by_cases c0 : g_re ds P d (tr p q) = 0
      · rw [if_pos (by rw [c0]), if_pos c0]
        obtain ⟨l2, e2⟩ := ih (q + 1) (c + 1) (m - 1) l1 (by omega) (by omega)
        exact ⟨l2, by rw [e2, Nat.add_assoc]⟩
      · rw [if_neg (kI_ne0 (by omega) (by omega)), if_neg c0]
        obtain ⟨l2, e2⟩ := ih (q + 1) (c + 0) (m - 1) l1 (by omega) (by omega)
        exact ⟨l2, by rw [e2, Nat.add_assoc]⟩
  have out : ∀ (j d c m : Nat) (laid : Nat → Int32), 1 ≤ d → d + j = 7 → j < m → ∃ laid', k_fix (fun _ _ _ _ => none) mX10_possible_4 m (nI c) (nI d) s laid = some (nI (c + g_sum (fun d => g_sum (fun q => g_c0 ds P d (tr p q)) 0 17) d j), s, laid') := by
    intro j
    induction j with
    | zero =>
      intro d c m laid hd1 hd hm
      refine ⟨laid, ?_⟩
      rw [k_fix1 hm, mX10_possible_4]
      simp only [kn_6]
      rw [if_pos (nI_lt (by omega) (by omega))]
      rfl
    | succ j ih =>
      intro d c m laid hd1 hd hm
      rw [k_fix1 (by omega), mX10_possible_4]
      simp only [kn_6, kn_1]
      rw [if_neg (nI_nlt (by omega) (by omega)), ← qm_0]
      obtain ⟨l1, e1⟩ := inn (k_fix (fun _ _ _ _ => none) mX10_possible_4 (m - 1)) d hd1 (by omega) 17 0 c k_F laid (by omega) (by unfold k_F; omega)
      obtain ⟨l2, e2⟩ := ih (d + 1) (c + g_sum (fun q => g_c0 ds P d (tr p q)) 0 17) (m - 1) l1 (by omega) (by omega) (by omega)
      refine ⟨l2, ?_⟩
      rw [e1, e2, Nat.add_assoc]
      rfl
  obtain ⟨l, e⟩ := out 6 1 0 k_F laid (by omega) (by omega) (by unfold k_F; omega)
  refine ⟨l, ?_⟩
  unfold mX10_possible
  generalize k_F = F at e ⊢
  simp only [kn_0, kn_1]
  rw [e, Nat.zero_add]
  refine congrArg some (congrArg (fun n => (nI n, s, l)) ?_)
  unfold g_poss
  have e1 : g_sum (fun d => g_sum (fun q => g_c0 ds P d (tr p q)) 0 17) 1 6 = g_sum (fun d => g_sum (fun w => g_c0 ds P d w) 1 17) 1 6 := g_sum_congr (fun d _ _ => g_sum_tr hp (fun w => g_c0 ds P d w))
  rw [e1, g_sum_swap]
  exact g_sum_congr (fun w _ _ => g_cw_sum hds)
