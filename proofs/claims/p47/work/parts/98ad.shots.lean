/-! shots -/
def c_wk (g : Nat → Nat) (t : Nat) : List Nat → Nat → Bool
  | [], _ => false
  | d :: l, w => if w = t + d then true else if w < t + d then false else if 2 ≤ g (17 - (w - d)) then false else c_wk g t l (w - d)
def c_aw (f g : Nat → Nat) (t : Nat) (ds : List Nat) : Nat → Nat → Bool
  | _, 0 => false
  | w, j + 1 => (decide (0 < f w) && c_wk g t ds w) || c_aw f g t ds (w + 1) j
def c_ho (g : Nat → Nat) (t : Nat) : List Nat → (Nat → Nat) → Bool
  | [], f => c_aw f g t [] (t + 1) (16 - t)
  | d :: l, f => if 0 < f 17 then (if 17 - d = t then true else if 2 ≤ g d then false else c_ho g t l (b_mv f 17 (17 - d))) else c_aw f g t (d :: l) (t + 1) (16 - t)
theorem c_aw_iff {f g : Nat → Nat} {t : Nat} {ds : List Nat} : ∀ {j w : Nat}, c_aw f g t ds w j = true ↔ ∃ v, w ≤ v ∧ v < w + j ∧ 0 < f v ∧ c_wk g t ds v = true
  | 0, w => ⟨fun h => (nomatch h), fun ⟨v, h1, h2, _⟩ => by omega⟩
  | j + 1, w => by
    show ((decide (0 < f w) && c_wk g t ds w) || c_aw f g t ds (w + 1) j) = true ↔ _
    rw [Bool.or_eq_true, Bool.and_eq_true, decide_eq_true_eq, c_aw_iff]
    constructor
    · rintro (h | ⟨v, h1, h2, h3⟩)
      · exact ⟨w, Nat.le_refl _, by omega, h⟩
      · exact ⟨v, by omega, by omega, h3⟩
    · intro ⟨v, h1, h2, h3⟩
      rcases Nat.lt_or_ge w v with q | q
      · exact Or.inr ⟨v, q, by omega, h3⟩
      · left; rw [show w = v by omega]; exact h3
theorem d_tail : ∀ ds ∈ d_all, k_iushr (d_I ds) (nI 3) = d_I ds.tail ∧ ds.tail ∈ d_all := by decide +kernel
theorem d_drop : ∀ ds ∈ d_all, ∀ i, i < 5 → ds.drop i ∈ d_all := by decide +kernel
theorem c_walks {g : Nat → Nat} {t w : Nat} {ds : List Nat} (hds : ds ∈ d_all) (hg : b_ok g) (ht : 1 ≤ t) (ht2 : t ≤ 16) (hw : w ≤ 16) : mX6_walksInto (nI w) (b_L g) (nI t) (d_I ds) = some (c_wk g t ds w) := by
  have hlen := d_len ds hds
  have key : ∀ (j i w m : Nat), i + j = 4 → j < m → w ≤ 16 → k_fix (fun _ _ => none) (mX6_walksInto_6 (nI w) (b_L g) (nI t) (d_I ds)) m (nI w) (nI i) = k_fix (fun _ _ => none) (mX6_walksInto_6 (nI w) (b_L g) (nI t) (d_I ds)) m (nI w) (nI i) := fun _ _ _ _ _ _ _ => rfl
  have key : ∀ (j i w w0 m : Nat), i + j = 4 → j < m → w ≤ 16 → k_fix (fun _ _ => none) (mX6_walksInto_6 (nI w0) (b_L g) (nI t) (d_I ds)) m (nI w) (nI i) = some (c_wk g t (ds.drop i) w) := by
    intro j
    induction j with
    | zero =>
      intro i w w0 m hi hm hw
      rw [k_fix1 hm, mX6_walksInto_6]
      simp only [kn_4]
      rw [if_pos (nI_le (by omega) (by omega)), List.drop_of_length_le (by omega)]
      rfl
    | succ j ih =>
      intro i w w0 m hi hm hw
      rw [k_fix1 (by omega), mX6_walksInto_6]
      simp only [kn_4, kn_0, kn_1, kn_2]
      rw [if_neg (nI_ge (by omega) (by omega)), d_at ds hds i (by omega), k_bs, k_bs]
      by_cases c : i < ds.length
      · have hm0 : ds.getD i 0 ∈ ds := by
          rw [List.getD_eq_getElem?_getD, List.getElem?_eq_getElem c]
          exact List.getElem_mem _
        obtain ⟨r1, r2⟩ := d_range ds hds _ hm0
        have hdr : ds.drop i = ds.getD i 0 :: ds.drop (i + 1) := by
          rw [List.drop_eq_getElem_cons c]
          congr 1
          rw [List.getD_eq_getElem?_getD, List.getElem?_eq_getElem c]
          rfl
        obtain ⟨d, hd⟩ : ∃ d, d = ds.getD i 0 := ⟨_, rfl⟩
        rw [← hd] at r1 r2 hdr ⊢
        rw [hdr, if_neg (kI_ne0 r1 (by omega))]
        show _ = some (if w = t + d then true else if w < t + d then false else if 2 ≤ g (17 - (w - d)) then false else c_wk g t (ds.drop (i + 1)) (w - d))
        by_cases c1 : d ≤ w
        · rw [pk_sub c1]
          by_cases c2 : w = t + d
          · rw [if_pos (by congr 1; omega), if_pos c2]
          · rw [if_neg (kI_neq (by omega) (by omega) (by omega)), if_neg c2]
            by_cases c3 : w < t + d
            · rw [if_pos (nI_lt (by omega) (by omega)), if_pos c3]
            · rw [if_neg (nI_nlt (by omega) (by omega)), if_neg c3, b_across hg (by omega), k_bs]
              have hgl := b_ok_le hg (i := 17 - (w - d)) (by omega)
              by_cases c4 : 2 ≤ g (17 - (w - d))
              · rw [if_neg (nI_nlt c4 (by omega)), if_pos c4]
              · rw [if_pos (nI_lt (by omega) (by omega)), if_neg c4, nI_add, ih (i + 1) (w - d) w0 (m - 1) (by omega) (by omega) (by omega)]
        · have hneg : nI w - nI d < 0 := pk_sneg (by omega) (by omega)
          have hpos : (0 : Int32) ≤ nI t := nI_pos' (by omega)
          rw [if_neg (c := nI w - nI d = nI t) (fun z => by rw [z] at hneg; exact absurd hneg (nI_pos (by omega))), if_pos (Int32.lt_of_lt_of_le hneg hpos), if_neg (by omega), if_pos (by omega)]
      · rw [show ds.getD i 0 = 0 by rw [List.getD_eq_getElem?_getD, List.getElem?_eq_none (by omega)]; rfl, if_pos rfl, List.drop_of_length_le (by omega)]
        rfl
  unfold mX6_walksInto
  simp only [kn_0]
  rw [key 4 0 w w k_F (by omega) (by unfold k_F; omega) hw, List.drop_zero]
theorem c_hits92 {f g : Nat → Nat} {t : Nat} {ds : List Nat} {a0 : Int64} {a5 : Int32} (hds : ds ∈ d_all) (hf : b_ok f) (hg : b_ok g) (ht : 1 ≤ t) (ht2 : t ≤ 16) :
    mX6_hitsInOrder_86 a0 (b_L g) (nI t) a5 (b_L f) (d_I ds) = some (c_aw f g t ds (t + 1) (16 - t)) := by
  have key : ∀ (j w m : Nat), w + j = 17 → j < m → k_fix (fun _ _ _ => none) (mX6_hitsInOrder_92 a0 (b_L g) (nI t) a5) m (b_L f) (d_I ds) (nI w) = some (c_aw f g t ds w j) := by
    intro j
    induction j with
    | zero =>
      intro w m hw hm
      rw [k_fix1 hm, mX6_hitsInOrder_92]
      simp only [kn_16]
      rw [if_pos (nI_lt (by omega) (by omega))]
      rfl
    | succ j ih =>
      intro w m hw hm
      have hl := b_ok_le hf (i := w) (by omega)
      rw [k_fix1 (by omega), mX6_hitsInOrder_92]
      simp only [kn_16, kn_0, kn_1, k_b1]
      rw [if_neg (nI_nlt (by omega) (by omega)), b_on hf (by omega), k_bs, nI_add]
      show _ = some ((decide (0 < f w) && c_wk g t ds w) || c_aw f g t ds (w + 1) j)
      by_cases c : 0 < f w
      · rw [if_neg (kI_nle c (by omega)), c_walks hds hg ht ht2 (by omega), k_bs, decide_eq_true c]
        cases q : c_wk g t ds w
        · rw [if_pos rfl, ih (w + 1) (m - 1) (by omega) (by omega)]; rfl
        · rw [if_neg (fun z => (nomatch z))]; rfl
      · rw [if_pos (by rw [show f w = 0 by omega]; exact Int32.le_refl _), ih (w + 1) (m - 1) (by omega) (by omega), decide_eq_false c]
        rfl
  unfold mX6_hitsInOrder_86
  simp only [kn_1]
  rw [nI_add, key (16 - t) (t + 1) k_F (by omega) (by unfold k_F; omega)]
theorem c_hitsIn {f g : Nat → Nat} {t : Nat} {ds : List Nat} (hds : ds ∈ d_all) (hf : b_ok f) (hg : b_ok g) (ht : 1 ≤ t) (ht2 : t ≤ 16) :
    mX6_hitsInOrder (b_L f) (b_L g) (nI t) (d_I ds) = some (c_ho g t ds f) := by
  have key : ∀ (ds2 : List Nat) (i m : Nat) (f2 : Nat → Nat) (a0 : Int64) (a5 : Int32), ds2 ∈ d_all → ds2.length + i ≤ 4 → ds2.length < m → b_ok f2 →
      k_fix (fun _ _ _ => none) (mX6_hitsInOrder_10 a0 (b_L g) (nI t) a5) m (b_L f2) (d_I ds2) (nI i) = some (c_ho g t ds2 f2) := by
    intro ds2
    induction ds2 with
    | nil =>
      intro i m f2 a0 a5 hds2 hi hm hf2
      rw [k_fix1 (by omega), mX6_hitsInOrder_10]
      simp only [kn_4, kn_0]
      rw [if_pos (c := d_I [] = nI 0) rfl, c_hits92 hds2 hf2 hg ht ht2, ite_self]
      rfl
    | cons d l ih =>
      intro i m f2 a0 a5 hds2 hi hm hf2
      have hl17 := b_ok_le hf2 (i := 17) (by omega)
      obtain ⟨r1, r2⟩ := d_range _ hds2 d List.mem_cons_self
      have hlen : (d :: l).length = l.length + 1 := rfl
      rw [k_fix1 (by omega), mX6_hitsInOrder_10]
      simp only [kn_4, kn_0, kn_1, kn_2, kn_3, kn_17]
      rw [if_neg (nI_ge (by omega) (by omega)), if_neg (fun z => (nomatch ((d_zero _ hds2).mp z))), b_on hf2 (by omega), k_bs, d_at _ hds2 0 (by omega), k_bs]
      show _ = some (if 0 < f2 17 then (if 17 - d = t then true else if 2 ≤ g d then false else c_ho g t l (b_mv f2 17 (17 - d))) else c_aw f2 g t (d :: l) (t + 1) (16 - t))
      rw [show (d :: l).getD 0 0 = d from rfl]
      by_cases c : 0 < f2 17
      · rw [if_neg (kI_nle c (by omega)), if_pos c, pk_sub (by omega)]
        by_cases c1 : 17 - d = t
        · rw [if_pos (by rw [c1]), if_pos c1]
        · have hgl := b_ok_le hg (i := d) (by omega)
          rw [if_neg (kI_neq c1 (by omega) (by omega)), if_neg c1, b_across hg (by omega), k_bs, show 17 - (17 - d) = d by omega]
          by_cases c2 : 2 ≤ g d
          · rw [if_neg (nI_nlt c2 (by omega)), if_pos c2]
          · rw [if_pos (nI_lt (by omega) (by omega)), if_neg c2, b_moved hf2 (by omega) (by omega) c, k_bs, (d_tail _ hds2).1, nI_add]
            exact ih (i + 1) (m - 1) _ a0 a5 (d_tail _ hds2).2 (by omega) (by omega) (b_ok_mv hf2 (by omega) (by omega) c)
      · rw [if_pos (by rw [show f2 17 = 0 by omega]; exact Int32.le_refl _), if_neg c, c_hits92 hds2 hf2 hg ht ht2]
  unfold mX6_hitsInOrder
  simp only [kn_0]
  exact key ds 0 k_F f (b_L f) (d_I ds) hds (by have := d_len ds hds; omega) (by have := d_len ds hds; unfold k_F; omega) hf
def c_ch (P : GP) (t a b : Nat) : Bool := if a = b then c_ho P.2 t [a, a, a, a] P.1 else (c_ho P.2 t [a, b] P.1 || c_ho P.2 t [b, a] P.1)
theorem d_rl0 : ∀ a, a < 7 → ∀ b, b < 7 → (0 < a ∧ 0 < b → (if a = b then [a, a, a, a] else [a, b]) ∈ d_all) := by decide +kernel
theorem d_rl (a : Nat) (ha : a < 7) (b : Nat) (hb : b < 7) (h1 : 0 < a) (h2 : 0 < b) : (if a = b then [a, a, a, a] else [a, b]) ∈ d_all := d_rl0 a ha b hb ⟨h1, h2⟩
theorem d_ks2 : ∀ a, a < 7 → ∀ b, b < 7 → 0 < a → 0 < b → (if (d_ks (if a = b then [a, a, a, a] else [a, b])).length = 2 then (if a = b then [a, a, a, a] else [a, b]).reverse else (if a = b then [a, a, a, a] else [a, b])) = (if a = b then [a, a, a, a] else [b, a]) := by decide +kernel
theorem c_canHit {P : GP} {t a b : Nat} (hP : g_ok P) (ht : 1 ≤ t) (ht2 : t ≤ 16) (ha : 0 < a) (ha2 : a < 7) (hb : 0 < b) (hb2 : b < 7) :
    mX6_canHit (b_L P.1) (b_L P.2) (nI t) (d_I (if a = b then [a, a, a, a] else [a, b])) = some (c_ch P t a b) := by
  have hds := d_rl a ha2 b hb2 ha hb
  have hds2 := d_rl b hb2 a ha2 hb ha
  unfold mX6_canHit
  simp only [kn_0, k_b1]
  rw [c_hitsIn hds hP.1 hP.2.1 ht ht2, k_bs, d_turned _ hds, k_bs, d_ks2 a ha2 b hb2 ha hb]
  unfold c_ch
  by_cases c : a = b
  · simp only [if_pos c] at hds ⊢
    rw [c_hitsIn hds hP.1 hP.2.1 ht ht2, k_bs]
    cases c_ho P.2 t [a, a, a, a] P.1 <;> simp
  · simp only [if_neg c, if_neg (fun z : b = a => c z.symm)] at hds hds2 ⊢
    rw [c_hitsIn hds2 hP.1 hP.2.1 ht ht2, k_bs]
    cases c_ho P.2 t [a, b] P.1 <;> cases c_ho P.2 t [b, a] P.1 <;> simp
def c_h1 (P : GP) (t a b : Nat) : Nat := if c_ch P t a b = true then 1 else 0
theorem c_rolls {P : GP} {t : Nat} (hP : g_ok P) (ht : 1 ≤ t) (ht2 : t ≤ 16) : mX6_rollByRoll (b_L P.1) (b_L P.2) (nI t) = some (nI (g_sum (fun a => g_sum (c_h1 P t a) 1 6) 1 6)) := by
  have inn : ∀ (k6 : Int32 → Int32 → Option Int32) (a : Nat), 1 ≤ a → a < 7 → ∀ (j b c m : Nat), 1 ≤ b → b + j = 7 → j < m →
      k_fix (fun _ _ _ => none) (mX6_rollByRoll_16 (b_L P.1) (b_L P.2) (nI t) k6) m (nI c) (nI a) (nI b) = k6 (nI (c + g_sum (c_h1 P t a) b j)) (nI (a + 1)) := by
    intro k6 a ha ha2 j
    induction j with
    | zero =>
      intro b c m hb1 hb hm
      rw [k_fix1 hm, mX6_rollByRoll_16]
      simp only [kn_6, kn_1]
      rw [if_pos (nI_lt (by omega) (by omega)), nI_add]
      rfl
    | succ j ih =>
      intro b c m hb1 hb hm
      rw [k_fix1 (by omega), mX6_rollByRoll_16]
      simp only [kn_6, kn_1, kn_0, k_b1]
      rw [if_neg (nI_nlt (by omega) (by omega)), d_rolled a ha2 b (by omega) ha hb1, k_bs, c_canHit hP ht ht2 ha ha2 hb1 (by omega), k_bs, nI_add, nI_add, nI_add, ih (b + 1) (c + 0) (m - 1) (by omega) (by omega) (by omega), ih (b + 1) (c + 1) (m - 1) (by omega) (by omega) (by omega)]
      show _ = k6 (nI (c + (c_h1 P t a b + g_sum (c_h1 P t a) (b + 1) j))) (nI (a + 1))
      unfold c_h1
      cases c_ch P t a b
      · rw [if_pos rfl, if_neg (fun z => (nomatch z)), Nat.add_assoc]
      · rw [if_neg (fun z => (nomatch z)), if_pos rfl, Nat.add_assoc]
  have h := k_sumL (z := fun _ _ => none) (st := mX6_rollByRoll_6 (b_L P.1) (b_L P.2) (nI t)) (fun a => g_sum (c_h1 P t a) 1 6) (fun a => some (nI a)) 1 7 (fun k a => by
      unfold mX6_rollByRoll_6
      simp only [kn_6]
      rw [if_pos (nI_lt (by omega) (by omega))])
    (fun k c a h1 h2 => by
      unfold mX6_rollByRoll_6
      simp only [kn_6, kn_1]
      rw [if_neg (nI_nlt (by omega) (by omega)), inn k a h1 (by omega) 6 1 c k_F (by omega) (by omega) (by unfold k_F; omega)])
    6 1 0 k_F (by omega) (by omega) (by unfold k_F; omega)
  unfold mX6_rollByRoll
  simp only [kn_0, kn_1]
  rw [h, Nat.zero_add]
theorem c_kinds {P : GP} {t : Nat} (hP : g_ok P) (ht : 1 ≤ t) (ht2 : t ≤ 16) : mX6_kindByKind (b_L P.1) (b_L P.2) (nI t) = some (nI (g_sum (fun a => g_sum (fun b => (if a = b then 1 else 2) * c_h1 P t a b) a (7 - a)) 1 6)) := by
  have inn : ∀ (k6 : Int32 → Int32 → Option Int32) (a : Nat), 1 ≤ a → a < 7 → ∀ (j b c m : Nat), 1 ≤ b → b + j = 7 → j < m →
      k_fix (fun _ _ _ => none) (mX6_kindByKind_17 (b_L P.1) (b_L P.2) (nI t) k6) m (nI c) (nI a) (nI b) = k6 (nI (c + g_sum (fun b => (if a = b then 1 else 2) * c_h1 P t a b) b j)) (nI (a + 1)) := by
    intro k6 a ha ha2 j
    induction j with
    | zero =>
      intro b c m hb1 hb hm
      rw [k_fix1 hm, mX6_kindByKind_17]
      simp only [kn_6, kn_1]
      rw [if_pos (nI_lt (by omega) (by omega)), nI_add]
      rfl
    | succ j ih =>
      intro b c m hb1 hb hm
      have e36 : ∀ w : Nat, mX6_kindByKind_36 (b_L P.1) (b_L P.2) (nI t) k6 (k_fix (fun _ _ _ => none) (mX6_kindByKind_17 (b_L P.1) (b_L P.2) (nI t) k6) (m - 1)) (nI w) (nI c) (nI a) (nI b) = k6 (nI (c + (w * c_h1 P t a b + g_sum (fun b => (if a = b then 1 else 2) * c_h1 P t a b) (b + 1) j))) (nI (a + 1)) := by
        intro w
        unfold mX6_kindByKind_36
        simp only [kn_1, kn_0, k_b1]
        rw [d_rolled a ha2 b (by omega) ha hb1, k_bs, c_canHit hP ht ht2 ha ha2 hb1 (by omega), k_bs, nI_add, nI_add, nI_add, ih (b + 1) (c + 0) (m - 1) (by omega) (by omega) (by omega), ih (b + 1) (c + w) (m - 1) (by omega) (by omega) (by omega)]
        unfold c_h1
        cases c_ch P t a b
        · rw [if_pos rfl, if_neg (fun z => (nomatch z)), Nat.mul_zero, Nat.add_assoc]
        · rw [if_neg (fun z => (nomatch z)), if_pos rfl, Nat.mul_one, Nat.add_assoc]
      rw [k_fix1 (by omega), mX6_kindByKind_17]
      simp only [kn_6, kn_1, kn_2]
      rw [if_neg (nI_nlt (by omega) (by omega)), e36 1, e36 2]
      show _ = k6 (nI (c + ((if a = b then 1 else 2) * c_h1 P t a b + g_sum _ (b + 1) j))) (nI (a + 1))
      by_cases q : a = b
      · rw [if_pos (by rw [q]), if_pos q]
      · rw [if_neg (kI_neq q (by omega) (by omega)), if_neg q]
  have h := k_sumL (z := fun _ _ => none) (st := mX6_kindByKind_6 (b_L P.1) (b_L P.2) (nI t)) (fun a => g_sum (fun b => (if a = b then 1 else 2) * c_h1 P t a b) a (7 - a)) (fun a => some (nI a)) 1 7 (fun k a => by
      unfold mX6_kindByKind_6
      simp only [kn_6]
      rw [if_pos (nI_lt (by omega) (by omega))])
    (fun k c a h1 h2 => by
      unfold mX6_kindByKind_6
      simp only [kn_6]
      rw [if_neg (nI_nlt (by omega) (by omega)), inn k a h1 (by omega) (7 - a) a c k_F (by omega) (by omega) (by unfold k_F; omega)])
    6 1 0 k_F (by omega) (by omega) (by unfold k_F; omega)
  unfold mX6_kindByKind
  simp only [kn_0, kn_1]
  rw [h, Nat.zero_add]
theorem c_h_sym {P : GP} {t a b : Nat} : c_h1 P t a b = c_h1 P t b a := by
  have e : c_ch P t a b = c_ch P t b a := by
    unfold c_ch
    by_cases c : a = b
    · subst c; rfl
    · rw [if_neg c, if_neg (c := b = a) (fun z => c z.symm), Bool.or_comm]
  unfold c_h1
  rw [e]
def g_shots (P : GP) (t : Nat) : Nat := g_sum (fun a => c_h1 P t a a + g_sum (fun b => 2 * c_h1 P t a b) 1 (a - 1)) 1 6
theorem c_rolls_eq {P : GP} {t : Nat} : g_sum (fun a => g_sum (c_h1 P t a) 1 6) 1 6 = g_shots P t := by
  unfold g_shots
  have s : ∀ a b, c_h1 P t a b = c_h1 P t b a := fun a b => c_h_sym
  simp [g_sum]
  rw [s 1 2, s 1 3, s 1 4, s 1 5, s 1 6, s 2 3, s 2 4, s 2 5, s 2 6, s 3 4, s 3 5, s 3 6, s 4 5, s 4 6, s 5 6]
  omega
theorem c_kinds_eq {P : GP} {t : Nat} : g_sum (fun a => g_sum (fun b => (if a = b then 1 else 2) * c_h1 P t a b) a (7 - a)) 1 6 = g_shots P t := by
  unfold g_shots
  have s : ∀ a b, c_h1 P t a b = c_h1 P t b a := fun a b => c_h_sym
  simp [g_sum]
  rw [s 1 2, s 1 3, s 1 4, s 1 5, s 1 6, s 2 3, s 2 4, s 2 5, s 2 6, s 3 4, s 3 5, s 3 6, s 4 5, s 4 6, s 5 6]
  omega
def pw (p x : Nat) : Nat := if p = 0 then 16 - x else x + 1
def g_sh (F : Nat → Nat → Nat) (x : Nat) : Nat := if F 0 (pw 0 x) = 1 then g_shots (F 1, F 0) (pw 1 x) else if F 1 (pw 1 x) = 1 then g_shots (F 0, F 1) (pw 0 x) else 0
