/-! the reference's board: cells by places; a place of a player by its way -/
def tr (p x : Nat) : Nat := if p = 0 then 17 - x else if x = 0 then 17 else if x = 17 then 0 else x
def ix (p w : Nat) : Nat := 18 * p + tr p w
def qm (q : Nat) : Int32 := nI q - nI 1
def pl (p w : Nat) : Int32 := qm (tr p w)
def RH (s : Nat → Int32) (p : Nat) (f : Nat → Nat) : Prop := ∀ w, w < 18 → s (ix p w) = nI (f w)
def RB (s : Nat → Int32) (p : Nat) (P : GP) : Prop := RH s p P.1 ∧ RH s (1 - p) P.2
theorem tr_lt : ∀ p, p < 2 → ∀ w, w < 18 → tr p w < 18 := by decide +kernel
theorem tr_tr : ∀ p, p < 2 → ∀ w, w < 18 → tr p (tr p w) = w := by decide +kernel
theorem tr_17 : ∀ p, p < 2 → ∀ w, w < 18 → (tr p w = 17 ↔ w = 0) := by decide +kernel
theorem ix_lt : ∀ p, p < 2 → ∀ w, w < 18 → ix p w < 36 := by decide +kernel
theorem ix_inj : ∀ p, p < 2 → ∀ w, w < 18 → ∀ v, v < 18 → (ix p w = ix p v ↔ w = v) := by decide +kernel
theorem ix_ne : ∀ p, p < 2 → ∀ w, w < 18 → ∀ v, v < 18 → ix p w ≠ ix (1 - p) v := by decide +kernel
theorem pl_ix : ∀ p, p < 2 → ∀ w, w < 18 → ((nI 18 * nI p) + pl p w) + nI 1 = nI (ix p w) := by decide +kernel
theorem pl_bar : ∀ p, p < 2 → -nI 1 = pl p 17 := by decide +kernel
theorem pl_off : ∀ p, p < 2 → nI 16 = pl p 0 := by decide +kernel
theorem pl_eq : ∀ p, p < 2 → ∀ w, w < 18 → ∀ v, v < 18 → (pl p w = pl p v ↔ w = v) := by decide +kernel
theorem pl_opp : ∀ p, p < 2 → ∀ v, v < 17 → 1 ≤ v → pl p v = pl (1 - p) (17 - v) := by decide +kernel
theorem qm_0 : qm 0 = -nI 1 := by decide +kernel
theorem qm_s (q : Nat) : qm q + nI 1 = qm (q + 1) := by
  unfold qm
  rw [pk_sub (a := q + 1) (b := 1) (by omega), Int32.sub_add_cancel]
  rfl
theorem qm_pl {p q : Nat} (hp : p < 2) (hq : q < 18) : qm q = pl p (tr p q) := by unfold pl; rw [tr_tr p hp q hq]
theorem qm_end : ∀ q, q < 18 → (nI 16 ≤ qm q ↔ q = 17) := by decide +kernel
theorem r_1p {p : Nat} (hp : p < 2) : nI 1 - nI p = nI (1 - p) := pk_sub (by omega)
theorem r_way : ∀ p, p < 2 → ∀ w, w < 18 → mX10_way (nI p) (pl p w) = some (nI w) := by decide +kernel
theorem r_target0 : ∀ p, p < 2 → ∀ w, w < 18 → ∀ d, d < 7 → (1 ≤ w ∧ 1 ≤ d → mX10_target (nI p) (pl p w) (nI d) = some (pl p (w - d))) := by decide +kernel
theorem r_target (p : Nat) (hp : p < 2) (w : Nat) (hw : w < 18) (h1 : 1 ≤ w) (d : Nat) (hd : d < 7) (h2 : 1 ≤ d) : mX10_target (nI p) (pl p w) (nI d) = some (pl p (w - d)) := r_target0 p hp w hw d hd ⟨h1, h2⟩
theorem r_at {s : Nat → Int32} {p w : Nat} (hp : p < 2) (hw : w < 18) : mX10_at s (nI p) (pl p w) = some (s (ix p w)) := by
  have h := ix_lt p hp w hw
  unfold mX10_at
  simp only [kn_18, kn_1]
  rw [pl_ix p hp w hw, k_g_in (by omega) (by omega), nI_clamp (by omega)]
theorem r_grow {s : Nat → Int32} {p w : Nat} {x : Int32} (hp : p < 2) (hw : w < 18) : mX10_grow s (nI p) (pl p w) x = some (upd s (ix p w) (s (ix p w) + x)) := by
  have h := ix_lt p hp w hw
  unfold mX10_grow
  simp only [kn_18, kn_1]
  rw [pl_ix p hp w hw, k_g_in (by omega) (by omega), k_g_in (by omega) (by omega), nI_clamp (by omega)]
theorem RH_dec {s : Nat → Int32} {p w : Nat} {f : Nat → Nat} (hp : p < 2) (hw : w < 18) (h : RH s p f) (h0 : 0 < f w) : RH (upd s (ix p w) (s (ix p w) + -nI 1)) p (fun i => f i - (if i = w then 1 else 0)) := by
  intro v hv
  show upd s (ix p w) _ (ix p v) = nI (f v - (if v = w then 1 else 0))
  by_cases c : v = w
  · subst c; rw [pk_us, if_pos rfl, h v hv, kn_m h0]
  · rw [pk_un (fun q => c ((ix_inj p hp v hv w hw).mp q)), if_neg c, h v hv]; rfl
theorem RH_inc {s : Nat → Int32} {p w : Nat} {f : Nat → Nat} (hp : p < 2) (hw : w < 18) (h : RH s p f) : RH (upd s (ix p w) (s (ix p w) + nI 1)) p (fun i => f i + (if i = w then 1 else 0)) := by
  intro v hv
  show upd s (ix p w) _ (ix p v) = nI (f v + (if v = w then 1 else 0))
  by_cases c : v = w
  · subst c; rw [pk_us, if_pos rfl, h v hv, nI_add]
  · rw [pk_un (fun q => c ((ix_inj p hp v hv w hw).mp q)), if_neg c, h v hv]; rfl
theorem RH_oth {s : Nat → Int32} {p w : Nat} {f : Nat → Nat} {x : Int32} (hp : p < 2) (hw : w < 18) (h : RH s (1 - p) f) : RH (upd s (ix p w) x) (1 - p) f := by
  intro v hv
  rw [pk_un (fun q => ix_ne p hp w hw v hv q.symm), h v hv]
theorem RH_oth' {s : Nat → Int32} {p w : Nat} {f : Nat → Nat} {x : Int32} (hp : p < 2) (hw : w < 18) (h : RH s p f) : RH (upd s (ix (1 - p) w) x) p f := by
  intro v hv
  rw [pk_un (ix_ne p hp v hv w hw), h v hv]
theorem RH_hi {s : Nat → Int32} {p w k : Nat} {x : Int32} (hp : p < 2) (hw : w < 18) (hk : 36 ≤ k) : upd s (ix p w) x k = s k := by
  have := ix_lt p hp w hw
  exact pk_un (by omega)
theorem r_isBlock {s : Nat → Int32} {p v : Nat} {g : Nat → Nat} (hp : p < 2) (hv : v < 17) (hg : b_ok g) (h : RH s (1 - p) g) : mX10_isBlock s (nI (1 - p)) (pl p v) = some (decide (1 ≤ v ∧ 2 ≤ g (17 - v))) := by
  unfold mX10_isBlock
  simp only [kn_16, kn_1]
  rw [pl_off p hp]
  by_cases c : v = 0
  · subst c; rw [if_pos rfl, decide_eq_false (by omega)]
  · have hb := b_ok_le hg (i := 17 - v) (by omega)
    rw [if_neg (fun q => c ((pl_eq p hp v (by omega) 0 (by omega)).mp q)), pl_opp p hp v hv (by omega), r_at (by omega) (by omega), k_bs, h _ (by omega)]
    by_cases c2 : 2 ≤ g (17 - v)
    · rw [if_neg (nI_ge (by omega) (by omega)), decide_eq_true ⟨by omega, c2⟩]
    · rw [if_pos (nI_le (by omega) (by omega)), decide_eq_false (fun q => c2 q.2)]
theorem r_longest {s : Nat → Int32} {p : Nat} {f : Nat → Nat} (hp : p < 2) (hf : b_ok f) (h : RH s p f) : ∃ mx, mX10_longest s (nI p) = some (nI mx) ∧ mx < 18 ∧ ∀ k, (k < mx ↔ b_ab f k = true) := by
  have key : ∀ (j q mx m : Nat), q + j = 17 → j < m → mx < 18 → (∀ k, (k < mx ↔ ∃ x, x < q ∧ k < tr p x ∧ 0 < f (tr p x))) → ∃ r, k_fix (fun _ _ => none) (mX10_longest_4 s (nI p)) m (nI mx) (qm q) = some (nI r) ∧ r < 18 ∧ (∀ k, (k < r ↔ ∃ x, x < 17 ∧ k < tr p x ∧ 0 < f (tr p x))) := by
    intro j
    induction j with
    | zero =>
      intro q mx m hq hm hmx hI
      rw [show q = 17 by omega] at hI ⊢
      refine ⟨mx, ?_, hmx, hI⟩
      rw [k_fix1 hm, mX10_longest_4]
      simp only [kn_16]
      rw [if_pos ((qm_end 17 (by omega)).mpr rfl)]
    | succ j ih =>
      intro q mx m hq hm hmx hI
      have ht := tr_lt p hp q (by omega)
      have hfl := b_ok_le hf ht
      have hne : ¬ nI 16 ≤ qm q := fun z => by have := (qm_end q (by omega)).mp z; omega
      have step : ∀ its, its = (if 0 < f (tr p q) then tr p q else 0) → ∀ (k4 : Int32 → Int32 → Option Int32), mX10_longest_28 s (nI p) k4 (nI its) (nI mx) (qm q) = k4 (nI (Nat.max its mx)) (qm (q + 1)) := by
        intro its hits k4
        have hits2 : its < 18 := by rw [hits]; split <;> omega
        unfold mX10_longest_28
        simp only [kn_1]
        rw [qm_s]
        by_cases c : its ≤ mx
        · rw [if_pos (nI_le c (by omega)), show Nat.max its mx = mx from Nat.max_eq_right c]
        · rw [if_neg (nI_ge (by omega) (by omega)), show Nat.max its mx = its from Nat.max_eq_left (by omega)]
      obtain ⟨its, hits⟩ : ∃ its, its = (if 0 < f (tr p q) then tr p q else 0) := ⟨_, rfl⟩
      have hits2 : its < 18 := by rw [hits]; split <;> omega
      obtain ⟨r, h1, h2⟩ := ih (q + 1) (Nat.max its mx) (m - 1) (by omega) (by omega) (Nat.max_lt.mpr ⟨hits2, hmx⟩) (fun k => by
        constructor
        · intro hk
          by_cases c : k < mx
          · obtain ⟨x, x1, x2⟩ := (hI k).mp c; exact ⟨x, by omega, x2⟩
          · have hk2 : k < its := by
              rcases Nat.le_total its mx with z | z
              · rw [show Nat.max its mx = mx from Nat.max_eq_right z] at hk; exact absurd hk c
              · rw [show Nat.max its mx = its from Nat.max_eq_left z] at hk; exact hk
            by_cases c2 : 0 < f (tr p q)
            · rw [if_pos c2] at hits; exact ⟨q, by omega, by omega, c2⟩
            · rw [if_neg c2] at hits; omega
        · intro ⟨x, x1, x2, x3⟩
          by_cases c : x = q
          · subst c; rw [if_pos x3] at hits
            exact Nat.lt_of_lt_of_le (by omega) (Nat.le_max_left its mx)
          · exact Nat.lt_of_lt_of_le ((hI k).mpr ⟨x, by omega, x2, x3⟩) (Nat.le_max_right its mx))
      refine ⟨r, ?_, h2⟩
      rw [k_fix1 (by omega), mX10_longest_4]
      simp only [kn_16, kn_0]
      rw [if_neg hne, qm_pl hp (by omega), r_at hp ht, k_bs, r_way p hp _ ht, k_bs, h _ ht, ← qm_pl hp (by omega)]
      by_cases c : 0 < f (tr p q)
      · rw [if_pos c] at hits
        rw [if_neg (kI_nle c (by omega)), ← hits, step its (by rw [if_pos c]; exact hits), h1]
      · rw [if_neg c] at hits
        rw [if_pos (by rw [show f (tr p q) = 0 by omega]; exact Int32.le_refl _), show nI 0 = nI its by rw [hits], step its (by rw [if_neg c]; exact hits), h1]
  obtain ⟨r, h1, h2, h3⟩ := key 17 0 0 k_F (by omega) (by unfold k_F; omega) (by omega) (fun k => ⟨fun z => by omega, fun ⟨x, x1, _⟩ => by omega⟩)
  refine ⟨r, ?_, h2, fun k => (h3 k).trans ?_⟩
  · unfold mX10_longest
    simp only [kn_0, kn_1]
    rw [← qm_0]
    exact h1
  · rw [b_ab_true]
    constructor
    · intro ⟨x, x1, x2, x3⟩
      exact ⟨tr p x, x2, tr_lt p hp x (by omega), x3⟩
    · intro ⟨i, i1, i2, i3⟩
      refine ⟨tr p i, ?_, by rw [tr_tr p hp i i2]; exact ⟨i1, i3⟩⟩
      have := tr_lt p hp i i2
      have h17 := tr_17 p hp i i2
      omega
theorem r_refused {s : Nat → Int32} {p d w : Nat} {P : GP} (hp : p < 2) (hP : g_ok P) (h : RB s p P) (hw1 : 1 ≤ w) (hw : w ≤ 17) (hd1 : 1 ≤ d) (hd : d < 7) : mX10_refused s (nI p) (pl p w) (nI d) = some (nI (g_ban P.1 P.2 d w)) := by
  obtain ⟨f, g⟩ := P
  obtain ⟨h1, h2⟩ := h
  obtain ⟨o1, o2, -⟩ := hP
  dsimp only at h1 h2 o1 o2 ⊢
  obtain ⟨mx, m1, m2, m3⟩ := r_longest hp o1 h1
  have hfw := b_ok_le o1 (i := w) (by omega)
  have hf17 := b_ok_le o1 (i := 17) (by omega)
  have e27 : mX10_refused_27 s (nI p) (pl p w) (nI d) = some (nI (if d < w then (if 2 ≤ g (17 - (w - d)) then 4 else 0) else if b_ab f 4 = true ∨ (w < d ∧ b_ab f w = true) then 5 else 0)) := by
    unfold mX10_refused_27 mX10_refused_84 mX10_refused_85
    simp only [kn_0, kn_1, kn_4, kn_5, kn_16, k_b1]
    rw [r_target p hp w (by omega) hw1 d hd hd1, k_bs, r_1p hp, r_isBlock hp (by omega) o2 h2, k_bs, m1, k_bs, r_way p hp w (by omega), k_bs, pl_off p hp]
    by_cases c : d < w
    · rw [if_pos c]
      have hno : ¬ pl p (w - d) = pl p 0 := fun q => by have := (pl_eq p hp (w - d) (by omega) 0 (by omega)).mp q; omega
      by_cases c2 : 2 ≤ g (17 - (w - d))
      · rw [decide_eq_true ⟨by omega, c2⟩, if_neg (fun z => (nomatch z)), if_pos c2]
      · rw [decide_eq_false (fun z => c2 z.2), if_pos rfl, if_neg c2, if_neg hno, if_neg hno]
        simp only [ite_self, k_bd]
    · rw [if_neg c, decide_eq_false (by omega), if_pos rfl, show w - d = 0 by omega, if_pos rfl, if_pos rfl]
      have a4 := m3 4
      have aw := m3 w
      by_cases q4 : 4 < mx
      · rw [if_pos (nI_lt q4 (by omega)), if_neg (fun z => (nomatch z)), if_pos (Or.inl (a4.mp q4))]
      · rw [if_neg (nI_nlt (by omega) (by omega))]
        by_cases qd : d ≤ w
        · rw [if_pos (nI_le qd (by omega)), if_pos (by trivial), if_neg (fun z => z.elim (fun y => q4 (a4.mpr y)) (fun y => by omega))]
        · rw [if_neg (nI_ge (by omega) (by omega)), k_bs, k_bs]
          by_cases ql : mx ≤ w
          · rw [if_pos (nI_le ql (by omega)), if_pos (by trivial), if_neg (fun z => z.elim (fun y => q4 (a4.mpr y)) (fun y => by have := aw.mpr y.2; omega))]
          · rw [if_neg (nI_ge (by omega) (by omega)), if_neg (fun z => (nomatch z)), if_pos (Or.inr ⟨by omega, aw.mp (by omega)⟩)]
  unfold mX10_refused
  simp only [kn_0, kn_1, kn_2, kn_3]
  rw [r_at hp (by omega), k_bs, h1 w (by omega), e27, pl_bar p hp, r_at hp (by omega), k_bs, h1 17 (by omega)]
  unfold g_ban
  by_cases c1 : f w = 0
  · rw [if_pos (by rw [c1]), if_pos c1]
  · rw [if_neg (kI_ne0 (by omega) (by omega)), if_neg c1]
    by_cases c2 : w = 17
    · rw [if_pos (by rw [c2]), if_neg (c := w ≠ 17 ∧ 0 < f 17) (by omega)]
    · rw [if_neg (fun z => c2 ((pl_eq p hp w (by omega) 17 (by omega)).mp z))]
      by_cases c3 : 0 < f 17
      · rw [if_neg (kI_nle c3 (by omega)), if_pos (c := w ≠ 17 ∧ 0 < f 17) ⟨c2, c3⟩]
      · rw [if_pos (by rw [show f 17 = 0 by omega]; exact Int32.le_refl _), if_neg (c := w ≠ 17 ∧ 0 < f 17) (by omega)]
def g_hit (P : GP) (d w : Nat) : Bool := decide (d < w ∧ P.2 (17 - (w - d)) = 1)
theorem r_moves {s : Nat → Int32} {p d w : Nat} {P : GP} (hp : p < 2) (hP : g_ok P) (h : RB s p P) (hw1 : 1 ≤ w) (hw : w ≤ 17) (hd1 : 1 ≤ d) (hd : d < 7) (hpos : 0 < P.1 w) :
    ∃ s', mX10_moves s (nI p) (pl p w) (nI d) = some (g_hit P d w, s') ∧ RB s' p (g_st P d w) ∧ ∀ k, 36 ≤ k → s' k = s k := by
  obtain ⟨f, g⟩ := P
  obtain ⟨h1, h2⟩ := h
  obtain ⟨o1, o2, -⟩ := hP
  dsimp only at h1 h2 o1 o2 hpos
  have e59 : ∀ (t : Nat → Int32) (b : Bool), RH t p f → ∀ g', RH t (1 - p) g' → ∃ s', mX10_moves_59 (nI p) (pl p w) (nI d) (pl p (w - d)) b t = some (b, s') ∧ RB s' p (g_mv f d w, g') ∧ ∀ k, 36 ≤ k → s' k = t k := by
    intro t b ht1 g' ht2
    refine ⟨_, ?_, ⟨RH_inc hp (w := w - d) (by omega) (RH_dec hp (w := w) (by omega) ht1 hpos), RH_oth hp (by omega) (RH_oth hp (w := w) (by omega) ht2)⟩, fun k hk => ?_⟩
    · unfold mX10_moves_59
      simp only [kn_1]
      rw [r_grow hp (by omega), k_bs, r_grow hp (by omega), k_bs]
    · rw [RH_hi hp (by omega) hk, RH_hi hp (by omega) hk]
  unfold mX10_moves mX10_moves_32 mX10_moves_33
  simp only [kn_16, kn_0, kn_1, k_b1]
  rw [r_target p hp w (by omega) hw1 d hd hd1, k_bs, pl_off p hp, r_1p hp]
  by_cases c : d < w
  · have hno : ¬ pl p (w - d) = pl p 0 := fun q => by have := (pl_eq p hp (w - d) (by omega) 0 (by omega)).mp q; omega
    have hgl := b_ok_le o2 (i := 17 - (w - d)) (by omega)
    have hop := pl_opp p hp (w - d) (by omega) (by omega)
    rw [if_neg hno, show mX10_at s (nI (1 - p)) (pl p (w - d)) = some (s (ix (1 - p) (17 - (w - d)))) by rw [hop]; exact r_at (by omega) (by omega), k_bs, h2 _ (by omega)]
    by_cases c2 : g (17 - (w - d)) = 1
    · rw [if_pos (by rw [c2])]
      rw [if_neg (fun z => (nomatch z)), show mX10_grow s (nI (1 - p)) (pl p (w - d)) (-nI 1) = some (upd s (ix (1 - p) (17 - (w - d))) (s (ix (1 - p) (17 - (w - d))) + -nI 1)) by rw [hop]; exact r_grow (by omega) (by omega), k_bs]
      have q1 := RH_dec (p := 1 - p) (by omega) (w := 17 - (w - d)) (by omega) h2 (by omega)
      have q2 := RH_inc (p := 1 - p) (by omega) (w := 17) (by omega) q1
      obtain ⟨s', e1, e2, e3⟩ := e59 _ true (RH_oth' hp (w := 17) (by omega) (RH_oth' hp (w := 17 - (w - d)) (by omega) h1)) _ q2
      refine ⟨s', ?_, ?_, fun k hk => ?_⟩
      · rw [show ∀ T, mX10_grow T (nI (1 - p)) (-nI 1) (nI 1) = some (upd T (ix (1 - p) 17) (T (ix (1 - p) 17) + nI 1)) from fun T => by have := r_grow (s := T) (p := 1 - p) (w := 17) (x := nI 1) (by omega) (by omega); rwa [← pl_bar (1 - p) (by omega)] at this, k_bs, e1]
        unfold g_hit
        rw [decide_eq_true ⟨c, c2⟩]
      · have : g_th g d w = b_mv g (17 - (w - d)) 17 := if_pos ⟨c, c2⟩
        show RB s' p (g_mv f d w, g_th g d w)
        rw [this]
        exact e2
      · rw [e3 k hk, RH_hi (by omega) (by omega) hk, RH_hi (by omega) (by omega) hk]
    · rw [if_neg (kI_neq c2 (by omega) (by omega)), if_pos (by trivial)]
      obtain ⟨s', e1, e2, e3⟩ := e59 s false h1 g h2
      refine ⟨s', ?_, ?_, e3⟩
      · rw [e1]; unfold g_hit; rw [decide_eq_false (fun z => c2 z.2)]
      · have : g_th g d w = g := if_neg (fun z => c2 z.2)
        show RB s' p (g_mv f d w, g_th g d w)
        rw [this]; exact e2
  · rw [show pl p (w - d) = pl p 0 by rw [show w - d = 0 by omega], if_pos (by trivial), if_pos (by trivial)]
    obtain ⟨s', e1, e2, e3⟩ := e59 s false h1 g h2
    rw [show w - d = 0 by omega] at e1
    refine ⟨s', ?_, ?_, e3⟩
    · rw [e1]; unfold g_hit; rw [decide_eq_false (fun z => c z.1)]
    · have : g_th g d w = g := if_neg (fun z => c z.1)
      show RB s' p (g_mv f d w, g_th g d w)
      rw [this]; exact e2
theorem r_isAny {s : Nat → Int32} {p d : Nat} {P : GP} (hp : p < 2) (hP : g_ok P) (h : RB s p P) (hd1 : 1 ≤ d) (hd : d < 7) : mX10_isAny s (nI p) (nI d) = some (g_any P d) := by
  have key : ∀ (j q m : Nat), q + j = 17 → j < m → ∃ b, k_fix (fun _ => none) (mX10_isAny_2 s (nI p) (nI d)) m (qm q) = some b ∧ (b = true ↔ ∃ x, q ≤ x ∧ x < 17 ∧ g_A P d (tr p x)) := by
    intro j
    induction j with
    | zero =>
      intro q m hq hm
      refine ⟨false, ?_, ⟨fun z => (nomatch z), fun ⟨x, a, b, _⟩ => by omega⟩⟩
      rw [k_fix1 hm, mX10_isAny_2, show q = 17 by omega]
      simp only [kn_16]
      rw [if_pos ((qm_end 17 (by omega)).mpr rfl)]
    | succ j ih =>
      intro q m hq hm
      have ht := tr_lt p hp q (by omega)
      have h0 : tr p q ≠ 0 := fun z => by have := tr_tr p hp q (by omega); rw [z] at this; have := (tr_17 p hp 0 (by omega)).mpr rfl; omega
      have hbl := g_ban_lt (f := P.1) (g := P.2) (d := d) (w := tr p q)
      have hne : ¬ nI 16 ≤ qm q := fun z => by have := (qm_end q (by omega)).mp z; omega
      obtain ⟨b, b1, b2⟩ := ih (q + 1) (m - 1) (by omega) (by omega)
      rw [k_fix1 (by omega), mX10_isAny_2]
      simp only [kn_16, kn_0, kn_1]
      rw [if_neg hne, qm_s, qm_pl hp (by omega), r_refused hp hP h (by omega) (by omega) hd1 hd, k_bs]
      by_cases c : g_ban P.1 P.2 d (tr p q) = 0
      · rw [if_pos (by rw [c])]
        exact ⟨true, rfl, ⟨fun _ => ⟨q, Nat.le_refl _, by omega, by omega, by omega, c⟩, fun _ => rfl⟩⟩
      · rw [if_neg (kI_ne0 (by omega) (by omega)), b1]
        refine ⟨b, rfl, b2.trans ⟨fun ⟨x, x1, x2, x3⟩ => ⟨x, by omega, x2, x3⟩, fun ⟨x, x1, x2, x3⟩ => ⟨x, ?_, x2, x3⟩⟩⟩
        rcases Nat.lt_or_ge q x with z | z
        · exact z
        · have : x = q := by omega
          subst this; exact absurd x3.2.2 c
  obtain ⟨b, b1, b2⟩ := key 17 0 k_F (by omega) (by unfold k_F; omega)
  unfold mX10_isAny
  simp only [kn_1]
  rw [← qm_0, b1]
  refine congrArg some ?_
  rw [Bool.eq_iff_iff, b2, g_any_iff]
  constructor
  · intro ⟨x, _, _, h⟩; exact ⟨_, h⟩
  · intro ⟨w, hw⟩
    have h2 := hw.2.1
    have h17 := tr_17 p hp w (by omega)
    have hl := tr_lt p hp w (by omega)
    exact ⟨tr p w, by omega, by have := hw.1; omega, by rw [tr_tr p hp w (by omega)]; exact hw⟩
