/-! carrying, stepping -/
theorem b_sm_0 {f : Nat → Nat} : ∀ {n : Nat}, 1 ≤ n → (∀ i, 1 ≤ i → i < n → f i = 0) → b_sm f n = f 0 := by
  intro n
  induction n with
  | zero => intro h; omega
  | succ n ih =>
    intro h hz
    by_cases hn : n = 0
    · subst hn; show b_sm f 0 + f 0 = f 0; show 0 + f 0 = f 0; omega
    · show b_sm f n + f n = f 0
      rw [ih (by omega) (fun i h1 h2 => hz i h1 (by omega)), hz n (by omega) (by omega)]
      omega
theorem b_sm_2 {f : Nat → Nat} {i : Nat} (hi : 1 ≤ i) : ∀ {n : Nat}, i < n → f 0 + f i ≤ b_sm f n := by
  intro n
  induction n with
  | zero => intro h; omega
  | succ n ih =>
    intro h
    show f 0 + f i ≤ b_sm f n + f n
    by_cases h1 : i = n
    · subst h1
      have := b_sm_le (f := f) (n := i) (i := 0) (by omega)
      omega
    · have := ih (by omega)
      omega
theorem b_off {f : Nat → Nat} (h : b_ok f) : b_ab f 0 = false ↔ f 0 = 6 := by
  rw [b_ab_false]
  constructor
  · intro hz
    have := b_sm_0 (n := 18) (f := f) (by omega) (fun i h1 h2 => hz i (by omega) h2)
    exact this.symm.trans h
  · intro h6 i h1 h2
    have := b_sm_2 (f := f) (i := i) (by omega) h2
    have h' : b_sm f 18 = 6 := h
    omega
theorem c_allOff {f : Nat → Nat} (h : b_ok f) : mX3_allOff (b_L f) = some (decide (f 0 = 6)) := by
  unfold mX3_allOff
  rw [k_bd_some (show mX3_anyBeyond (b_L f) 0 = some (b_ab f 0) from b_anyBeyond (w := 0) h (by omega))]
  by_cases h6 : f 0 = 6
  · rw [(b_off h).mpr h6, if_pos (by decide), decide_eq_true h6]
  · have : b_ab f 0 = true := by
      cases hb : b_ab f 0
      · exact absurd ((b_off h).mp hb) h6
      · rfl
    rw [this, if_neg (by decide), decide_eq_false h6]
theorem c_po {F : Nat → Nat → Nat} {q : Nat} (hq : q < 2) : mX1_piecesOf (b_L (F 0)) (b_L (F 1)) (nI q) = some (b_L (F q)) := by
  rcases (show q = 0 ∨ q = 1 by omega) with rfl | rfl <;> rfl
theorem c_cw {F : Nat → Nat → Nat} {q w : Nat} (hq : q < 2) (hw : w < 18) (ho : g_ok (F 0, F 1)) (ho' : g_ok (F 1, F 0)) : mX1_countAt (b_L (F 0)) (b_L (F 1)) (nI q) (pl q w) = some (nI (F q w)) := by
  unfold mX1_countAt
  rw [k_bd_some (c_po hq), k_bd_some (pb_wayOf q hq w hw), k_bd_some (c_on hq (ok_q hq ho ho') hw)]
theorem c_carried {F : Nat → Nat → Nat} {q w v : Nat} (hq : q < 2) (hw : w < 18) (hv : v < 18) (ho : g_ok (F 0, F 1)) (ho' : g_ok (F 1, F 0)) (hf : 0 < F q w) : mX1_carried (b_L (F 0)) (b_L (F 1)) (nI q) (pl q w) (pl q v) = some (b_L (b_mv (F q) w v)) := by
  unfold mX1_carried
  rw [k_bd_some (c_po hq), k_bd_some (pb_wayOf q hq w hw), k_bd_some (pb_wayOf q hq v hv), k_bd_some (b_moved (ok_q hq ho ho').1 hw hv hf)]
theorem c_cc54 {F : Nat → Nat → Nat} {q w v : Nat} {x : Int32} (hq : q < 2) (hw : w < 18) (hv : v < 18) (ho : g_ok (F 0, F 1)) (ho' : g_ok (F 1, F 0)) (hf : 0 < F q w) : mX1_canCarry_54 x (b_L (F 0)) (b_L (F 1)) (nI q) (pl q w) (pl q v) = some (decide (¬ b_mv (F q) w v 0 = 6)) := by
  unfold mX1_canCarry_54
  rw [k_bd_some (c_carried hq hw hv ho ho' hf), k_bd_some (c_allOff (b_ok_mv (ok_q hq ho ho').1 hw hv hf))]
  by_cases h6 : b_mv (F q) w v 0 = 6
  · rw [decide_eq_true h6, if_neg (by decide), decide_eq_false (fun h => h h6)]
  · rw [decide_eq_false h6, if_pos (by decide), decide_eq_true h6]
def g_free (F : Nat → Nat → Nat) (q v : Nat) : Bool := decide (1 ≤ v ∧ v ≤ 16 → F (1 - q) (17 - v) = 0)
def g_last (F : Nat → Nat → Nat) (q w v : Nat) : Bool := decide (v = 0 ∧ w ≠ 0 ∧ F q 0 = 5)
theorem g_last6 {F : Nat → Nat → Nat} {q w v : Nat} (hw : w < 18) (hv : v < 18) (hok : b_ok (F q)) (h6 : F q 0 < 6) (hf : 0 < F q w) : (b_mv (F q) w v 0 = 6) ↔ g_last F q w v = true := by
  unfold g_last
  rw [decide_eq_true_iff, b_mv_at]
  by_cases h1 : v = 0
  · subst h1
    by_cases h2 : w = 0
    · subst h2; simp; omega
    · rw [if_neg (Ne.symm h2), if_pos rfl]; constructor
      · intro h; exact ⟨rfl, h2, by omega⟩
      · intro h; omega
  · rw [if_neg (Ne.symm h1)]
    constructor
    · intro h; split at h <;> omega
    · intro h; exact absurd h.1 h1
theorem g_ok_mv {f g : Nat → Nat} {w v : Nat} (h : g_ok (f, g)) (hw : w < 18) (hv : v < 18) (hf : 0 < f w) : g_ok (b_mv f w v, g) ∧ g_ok (g, b_mv f w v) := by
  obtain ⟨h1, h2, h3⟩ := h
  have k1 : b_ok (b_mv f w v) := b_ok_mv (show b_ok f from h1) hw hv hf
  have k2 : b_ok g := h2
  have hz : ∀ i, 18 ≤ i → b_mv f w v i = 0 ∧ g i = 0 := fun i hi => by
    have a1 : f i = 0 := (h3 i hi).1
    have a2 : g i = 0 := (h3 i hi).2
    refine ⟨?_, a2⟩
    rw [b_mv_at, if_neg (by omega), if_neg (by omega), a1]
  exact ⟨⟨k1, k2, hz⟩, ⟨k2, k1, fun i hi => ⟨(hz i hi).2, (hz i hi).1⟩⟩⟩
theorem b_mv_le {f : Nat → Nat} {w v : Nat} (h : b_ok f) (hw : w < 18) (hv : v < 18) (hf : 0 < f w) : b_mv f w v 0 ≤ 6 := by
  have k1 : b_ok (b_mv f w v) := b_ok_mv h hw hv hf
  generalize b_mv f w v = u at k1
  exact b_ok_le k1 (by omega)
def F_set (F : Nat → Nat → Nat) (q : Nat) (f : Nat → Nat) : Nat → Nat → Nat := fun r => if r = q then f else F r
theorem F_set_q {F : Nat → Nat → Nat} {q : Nat} {f : Nat → Nat} : F_set F q f q = f := if_pos rfl
theorem F_set_o {F : Nat → Nat → Nat} {q r : Nat} {f : Nat → Nat} (h : r ≠ q) : F_set F q f r = F r := if_neg h
theorem c_doCarry {F F' : Nat → Nat → Nat} {q w v : Nat} (hq : q < 2) (hw : w < 18) (hv : v < 18) (ho : g_ok (F 0, F 1)) (ho' : g_ok (F 1, F 0)) (hf : 0 < F q w) (q0 : F' q = b_mv (F q) w v) (q1 : F' (1 - q) = F (1 - q)) : mX1_doCarry (b_L (F 0)) (b_L (F 1)) (nI q) (pl q w) (pl q v) = some (b_L (F' 0), b_L (F' 1)) := by
  have hc := c_carried hq hw hv ho ho' hf
  rw [← q0] at hc
  unfold mX1_doCarry
  rw [k_bd_some hc]
  unfold mX1_setPieces
  rcases (show q = 0 ∨ q = 1 by omega) with rfl | rfl
  · rw [if_pos (show nI 0 = (0 : Int32) from nI_0), show F' 1 = F 1 from q1]; rfl
  · rw [if_neg (show ¬ nI 1 = (0 : Int32) by decide), show F' 0 = F 0 from q1]; rfl
theorem d_erl : ∀ ds ∈ d_all, ∀ d ∈ ds, (ds.erase d).length + 1 = ds.length := by decide +kernel
theorem c_hit {P : GP} {d w : Nat} (hP : g_ok P) (hw1 : 1 ≤ w) (hw : w ≤ 17) (hd1 : 1 ≤ d) : lg_cmp (b_L (g_th P.2 d w)) (b_L P.2) = 0 ↔ g_hit P d w = false := by
  obtain ⟨f, g⟩ := P
  have h2 : b_ok g := hP.2.1
  show lg_cmp (b_L (g_th g d w)) (b_L g) = 0 ↔ g_hit (f, g) d w = false
  by_cases c : d < w ∧ g (17 - (w - d)) = 1
  · have e1 : g_th g d w = b_mv g (17 - (w - d)) 17 := if_pos c
    have e2 : g_hit (f, g) d w = true := decide_eq_true c
    rw [e1, e2]
    have h3 : b_ok (b_mv g (17 - (w - d)) 17) := b_ok_mv h2 (by omega) (by omega) (by omega)
    have l1 := b_pk_lt54 h3
    have l2 := b_pk_lt54 h2
    have e3 := b_pk_mv (f := g) (a := 17 - (w - d)) (b := 17) (n := 18) (by omega) (by omega) (by omega)
    have e4 : (8 : Nat) ^ (17 - (w - d)) < 8 ^ 17 := Nat.pow_lt_pow_right (by decide) (by omega)
    constructor
    · intro h
      exfalso
      unfold lg_cmp b_L at h
      by_cases q1 : lN (b_pk (b_mv g (17 - (w - d)) 17) 18) > lN (b_pk g 18)
      · rw [if_pos q1] at h; exact absurd h (by decide)
      · rw [if_neg q1] at h
        by_cases q2 : lN (b_pk (b_mv g (17 - (w - d)) 17) 18) = lN (b_pk g 18)
        · have := (pk_lEQ (by omega) (by omega)).mp q2
          omega
        · rw [if_neg q2] at h; exact absurd h (by decide)
    · intro h; cases h
  · have e1 : g_th g d w = g := if_neg c
    have e2 : g_hit (f, g) d w = false := decide_eq_false c
    rw [e1, e2]
    constructor
    · intro _; rfl
    · intro _
      unfold lg_cmp
      rw [if_neg (fun q => absurd q (Int64.lt_irrefl)), if_pos rfl]
theorem c_set {F : Nat → Nat → Nat} {q : Nat} {f : Nat → Nat} (hq : q < 2) : mX1_setPieces (b_L (F 0)) (b_L (F 1)) (nI q) (b_L f) = some (b_L (F_set F q f 0), b_L (F_set F q f 1)) := by
  unfold mX1_setPieces
  rcases (show q = 0 ∨ q = 1 by omega) with rfl | rfl
  · rw [if_pos (show nI 0 = (0 : Int32) from nI_0), F_set_q, F_set_o (by omega)]
  · rw [if_neg (show ¬ nI 1 = (0 : Int32) by decide), F_set_q, F_set_o (by omega)]
theorem c_mov {F : Nat → Nat → Nat} {p : Nat} (hp : p < 2) : mX1_moversPieces (nI p) (b_L (F 0)) (b_L (F 1)) = some (b_L (F p)) := by
  unfold mX1_moversPieces
  rw [k_bd_some (c_po hp)]
theorem c_oth {F : Nat → Nat → Nat} {p : Nat} (hp : p < 2) : mX1_othersPieces (nI p) (b_L (F 0)) (b_L (F 1)) = some (b_L (F (1 - p))) := by
  unfold mX1_othersPieces
  rw [show (1 : Int32) - nI p = nI (1 - p) from r_1p hp, k_bd_some (c_po (by omega))]
def s_h0 (b : Bool) (p : Nat) (h : Int32) : Int32 := if b = true ∧ p = 1 then h + 1 else h
def s_h1 (b : Bool) (p : Nat) (h : Int32) : Int32 := if b = true ∧ p = 0 then h + 1 else h
theorem c_countHit {p : Nat} {h0 h1 : Int32} (hp : p < 2) : mX1_countHit h0 h1 (1 - nI p) = some (s_h0 true p h0, s_h1 true p h1) := by
  unfold mX1_countHit s_h0 s_h1
  rw [show (1 : Int32) - nI p = nI (1 - p) from r_1p hp]
  rcases (show p = 0 ∨ p = 1 by omega) with rfl | rfl
  · rw [if_neg (show ¬ nI (1 - 0) = (0 : Int32) by decide), if_neg (by omega), if_pos ⟨rfl, rfl⟩]
  · rw [if_pos (show nI (1 - 1) = (0 : Int32) from nI_0), if_pos ⟨rfl, rfl⟩, if_neg (by omega)]
theorem c_step35 {F F' : Nat → Nat → Nat} {p d w : Nat} {ds : List Nat} {ph stk sc0 sc1 h0 h1 : Int32} {b : Bool} (hp : p < 2) (ho : g_ok (F p, F (1 - p))) (hds : ds ∈ d_all) (hd : d ∈ ds) (hw : w < 18) (hpos : 0 < F p w) (q0 : F' = F_set (F_set F (1 - p) (g_th (F (1 - p)) d w)) p (g_mv (F p) d w)) : mX1_doStep_35 (nI p) stk (pl p w) (nI d) b (nI w) (b_L (g_th (F (1 - p)) d w)) ph (d_I ds) (b_L (F 0)) (b_L (F 1)) sc0 sc1 h0 h1 = mX1_doStep_93 (nI p) stk (pl p w) (nI d) b ph (d_I (ds.erase d)) (b_L (F' 0)) (b_L (F' 1)) sc0 sc1 (s_h0 b p h0) (s_h1 b p h1) := by
  have hr := d_range ds hds d hd
  have e1 : F_set F (1 - p) (g_th (F (1 - p)) d w) p = F p := F_set_o (by omega)
  unfold mX1_doStep_35
  rw [show (1 : Int32) - nI p = nI (1 - p) from r_1p hp, k_bd2_some (c_set (F := F) (q := 1 - p) (f := g_th (F (1 - p)) d w) (by omega))]
  rw [k_bd_some (c_mov (F := F_set F (1 - p) (g_th (F (1 - p)) d w)) hp), e1, k_bd_some (c_mine (f := F p) ho.1 hr.2 hw hpos), k_bd2_some (c_set (F := F_set F (1 - p) (g_th (F (1 - p)) d w)) (q := p) (f := g_mv (F p) d w) hp), ← q0, k_bd_some (d_without ds hds d hd)]
  cases b
  · rw [if_pos (show k_b false = 0 from rfl)]; rfl
  · rw [if_neg (show ¬ k_b true = 0 by decide)]
    have := c_countHit (h0 := h0) (h1 := h1) hp
    rw [show (1 : Int32) - nI p = nI (1 - p) from r_1p hp] at this
    rw [k_bd2_some this]
def s_w (F' : Nat → Nat → Nat) (p : Nat) (stk : Int32) : Int32 := if F' (1 - p) 0 = 0 then 2 * stk else stk
def s_s0 (p : Nat) (sc w : Int32) : Int32 := if p = 0 then sc + w else sc
def s_s1 (p : Nat) (sc w : Int32) : Int32 := if p = 0 then sc else sc + w
theorem c_step140 {p : Nat} {stk a1 a2 t0 ph di sc0 sc1 h0 h1 : Int32} {b : Bool} {P0 P1 : Int64} (hp : p < 2) : mX1_doStep_140 (nI p) stk a1 a2 t0 b ph di P0 P1 sc0 sc1 h0 h1 = some (b, 3, 0, P0, P1, s_s0 p sc0 t0, s_s1 p sc1 t0, h0, h1) := by
  unfold mX1_doStep_140 mX1_winBy mX1_winBy_30 s_s0 s_s1
  rcases (show p = 0 ∨ p = 1 by omega) with rfl | rfl
  · rw [if_pos (show nI 0 = (0 : Int32) from nI_0), if_pos rfl, if_pos rfl]; rfl
  · rw [if_neg (show ¬ nI 1 = (0 : Int32) by decide), if_neg (by omega), if_neg (by omega)]; rfl
theorem c_step93 {F' : Nat → Nat → Nat} {p : Nat} {stk a1 a2 ph di sc0 sc1 h0 h1 : Int32} {b : Bool} (hp : p < 2) (ho : g_ok (F' p, F' (1 - p))) : mX1_doStep_93 (nI p) stk a1 a2 b ph di (b_L (F' 0)) (b_L (F' 1)) sc0 sc1 h0 h1 = if F' p 0 = 6 then some (b, 3, 0, b_L (F' 0), b_L (F' 1), s_s0 p sc0 (s_w F' p stk), s_s1 p sc1 (s_w F' p stk), h0, h1) else some (b, ph, di, b_L (F' 0), b_L (F' 1), sc0, sc1, h0, h1) := by
  have hle : F' (1 - p) 0 ≤ 6 := b_ok_le (f := F' (1 - p)) ho.2.1 (by omega)
  unfold mX1_doStep_93
  rw [k_bd_some (c_mov (F := F') hp), k_bd_some (c_allOff (f := F' p) ho.1)]
  by_cases h6 : F' p 0 = 6
  · rw [decide_eq_true h6, if_neg (show ¬ k_b true = 0 by decide), if_pos h6, k_bd_some (c_oth (F := F') hp), k_bd_some (show mX3_on (b_L (F' (1 - p))) 0 = some (nI (F' (1 - p) 0)) from b_on (f := F' (1 - p)) (w := 0) ho.2.1 (by omega))]
    unfold mX1_doStep_119 s_w
    by_cases h0' : F' (1 - p) 0 = 0
    · rw [h0', if_pos nI_0, if_neg (show ¬ k_b true = 0 by decide), if_pos rfl, c_step140 hp]
    · rw [if_neg (show ¬ nI (F' (1 - p) 0) = (0 : Int32) from nI_ne0 (by omega) (by omega)), if_pos (show k_b false = 0 from rfl), if_neg h0', c_step140 hp]
  · rw [decide_eq_false h6, if_pos (show k_b false = 0 from rfl), if_neg h6]
theorem c_doStep {F F' : Nat → Nat → Nat} {p d w : Nat} {ds : List Nat} {ph stk sc0 sc1 h0 h1 : Int32} (hp : p < 2) (ho : g_ok (F p, F (1 - p))) (hds : ds ∈ d_all) (hd : d ∈ ds) (hA : g_A (F p, F (1 - p)) d w) (q0 : F' = F_set (F_set F (1 - p) (g_th (F (1 - p)) d w)) p (g_mv (F p) d w)) (ho2 : g_ok (F' p, F' (1 - p))) : mX1_doStep (nI p) ph (d_I ds) stk (b_L (F 0)) (b_L (F 1)) sc0 sc1 h0 h1 (pl p w) (nI d) = if F' p 0 = 6 then some (g_hit (F p, F (1 - p)) d w, 3, 0, b_L (F' 0), b_L (F' 1), s_s0 p sc0 (s_w F' p stk), s_s1 p sc1 (s_w F' p stk), s_h0 (g_hit (F p, F (1 - p)) d w) p h0, s_h1 (g_hit (F p, F (1 - p)) d w) p h1) else some (g_hit (F p, F (1 - p)) d w, ph, d_I (ds.erase d), b_L (F' 0), b_L (F' 1), sc0, sc1, s_h0 (g_hit (F p, F (1 - p)) d w) p h0, s_h1 (g_hit (F p, F (1 - p)) d w) p h1) := by
  have hr := d_range ds hds d hd
  have hw := hA.2.1
  have hpos : 0 < F p w := (g_ban0.mp hA.2.2).1
  have hch := c_hit (P := (F p, F (1 - p))) ho hA.1 hw (show 1 ≤ d by omega)
  rw [← c_step93 (b := g_hit (F p, F (1 - p)) d w) (a1 := pl p w) (a2 := nI d) hp ho2, ← c_step35 (b := g_hit (F p, F (1 - p)) d w) hp ho hds hd (by omega) hpos q0]
  unfold mX1_doStep
  rw [k_bd_some (pb_wayOf p hp w (by omega)), k_bd_some (c_oth (F := F) hp), k_bd_some (c_theirs (g := F (1 - p)) (d := d) (w := w) ho.2.1 hr.2 (by omega)), k_bd_some (c_oth (F := F) hp)]
  cases hh : g_hit (F p, F (1 - p)) d w
  · rw [hh] at hch
    rw [if_pos (hch.mpr rfl)]
  · rw [hh] at hch
    rw [if_neg (fun e => by have := hch.mp e; cases this)]
theorem k_ad0 (x : Int32) : x + k_b false = x := by show x + 0 = x; exact Int32.add_zero x
theorem g_re_A {ds : List Nat} {P : GP} {d w : Nat} (hw1 : 1 ≤ w) (hw : w ≤ 17) (h : g_re ds P d w = 0) : d ∈ ds ∧ g_A P d w := by
  unfold g_re at h
  by_cases hd : d ∈ ds
  · rw [if_pos hd] at h
    by_cases hb : g_ban P.1 P.2 d w = 0
    · exact ⟨hd, hw1, hw, hb⟩
    · rw [if_neg hb] at h; exact absurd h hb
  · rw [if_neg hd] at h; cases h
theorem d_ph {ds : List Nat} {d ph : Nat} (hd : d ∈ ds) (hn : ph ≠ 1 → ds = []) : ph = 1 := by
  by_cases h : ph = 1
  · exact h
  · rw [hn h] at hd; cases hd
theorem c_doStep' {F F' : Nat → Nat → Nat} {p d w : Nat} {ds : List Nat} {mv ph di stk sc0 sc1 h0 h1 : Int32} {P0 P1 : Int64} (e1 : mv = nI p) (e3 : di = d_I ds) (e4 : P0 = b_L (F 0)) (e5 : P1 = b_L (F 1)) (hp : p < 2) (ho : g_ok (F p, F (1 - p))) (hds : ds ∈ d_all) (hd : d ∈ ds) (hA : g_A (F p, F (1 - p)) d w) (q0 : F' = F_set (F_set F (1 - p) (g_th (F (1 - p)) d w)) p (g_mv (F p) d w)) (ho2 : g_ok (F' p, F' (1 - p))) {b : Bool} (hb : b = g_hit (F p, F (1 - p)) d w) : (F' p 0 = 6 → mX1_doStep mv ph di stk P0 P1 sc0 sc1 h0 h1 (pl p w) (nI d) = some (b, 3, 0, b_L (F' 0), b_L (F' 1), s_s0 p sc0 (s_w F' p stk), s_s1 p sc1 (s_w F' p stk), s_h0 b p h0, s_h1 b p h1)) ∧ (F' p 0 ≠ 6 → mX1_doStep mv ph di stk P0 P1 sc0 sc1 h0 h1 (pl p w) (nI d) = some (b, ph, d_I (ds.erase d), b_L (F' 0), b_L (F' 1), sc0, sc1, s_h0 b p h0, s_h1 b p h1)) := by
  subst e1 e3 e4 e5 hb
  have h := c_doStep (ph := ph) (stk := stk) (sc0 := sc0) (sc1 := sc1) (h0 := h0) (h1 := h1) hp ho hds hd hA q0 ho2
  exact ⟨fun h6 => by rw [if_pos h6] at h; exact h, fun h6 => by rw [if_neg h6] at h; exact h⟩
theorem h_six {p : Nat} {F F' : Nat → Nat → Nat} (hp : p < 2) (ho2 : g_ok (F' p, F' (1 - p))) (h6 : F' p 0 ≠ 6) (hle3 : F' (1 - p) 0 ≤ F (1 - p) 0) (hF : F 0 0 < 6 ∧ F 1 0 < 6) : F' 0 0 < 6 ∧ F' 1 0 < 6 := by
  have hle : F' p 0 ≤ 6 := b_ok_le (f := F' p) ho2.1 (by omega)
  rcases (show p = 0 ∨ p = 1 by omega) with rfl | rfl
  · exact ⟨by omega, Nat.lt_of_le_of_lt hle3 hF.2⟩
  · exact ⟨Nat.lt_of_le_of_lt hle3 hF.1, by omega⟩
theorem g_st_eq (f g : Nat → Nat) (d w : Nat) : g_st (f, g) d w = (g_mv f d w, g_th g d w) := rfl
