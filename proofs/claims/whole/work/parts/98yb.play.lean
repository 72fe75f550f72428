/-! a game is played -/
def c_lp (sg : Nat → Int32) (n F : Nat) (x l2 : Int32) (l3 : Bool) (l4 cnt : Int32) (G : Nat → GT) (g : GT) := k_fix (fun _ _ _ _ _ _ _ _ _ _ _ _ _ _ _ _ _ _ _ _ => none) (mX9_play_38 sg) F x l2 l3 l4 cnt G g.1 g.2.1 g.2.2.1 g.2.2.2.1 g.2.2.2.2.1 g.2.2.2.2.2.1 g.2.2.2.2.2.2.1 g.2.2.2.2.2.2.2.1 g.2.2.2.2.2.2.2.2.1 g.2.2.2.2.2.2.2.2.2.1 g.2.2.2.2.2.2.2.2.2.2.1 g.2.2.2.2.2.2.2.2.2.2.2.1 g.2.2.2.2.2.2.2.2.2.2.2.2 (nI n)
theorem lp_end {sg : Nat → Int32} {n F : Nat} {x l2 l4 cnt : Int32} {l3 : Bool} {G : Nat → GT} {g : GT} (hF : 0 < F) (h : l3 = false ∨ nI n ≤ l2) : c_lp sg n F x l2 l3 l4 cnt G g = some (x, cnt, G, g.1, g.2.1, g.2.2.1, g.2.2.2.1, g.2.2.2.2.1, g.2.2.2.2.2.1, g.2.2.2.2.2.2.1, g.2.2.2.2.2.2.2.1, g.2.2.2.2.2.2.2.2.1, g.2.2.2.2.2.2.2.2.2.1, g.2.2.2.2.2.2.2.2.2.2.1, !l3, x, 0) := by
  have h103 : mX9_play_103 sg x l3 cnt G g.1 g.2.1 g.2.2.1 g.2.2.2.1 g.2.2.2.2.1 g.2.2.2.2.2.1 g.2.2.2.2.2.2.1 g.2.2.2.2.2.2.2.1 g.2.2.2.2.2.2.2.2.1 g.2.2.2.2.2.2.2.2.2.1 g.2.2.2.2.2.2.2.2.2.2.1 g.2.2.2.2.2.2.2.2.2.2.2.1 g.2.2.2.2.2.2.2.2.2.2.2.2 (nI n) = some (x, cnt, G, g.1, g.2.1, g.2.2.1, g.2.2.2.1, g.2.2.2.2.1, g.2.2.2.2.2.1, g.2.2.2.2.2.2.1, g.2.2.2.2.2.2.2.1, g.2.2.2.2.2.2.2.2.1, g.2.2.2.2.2.2.2.2.2.1, g.2.2.2.2.2.2.2.2.2.2.1, !l3, x, 0) := by
    unfold mX9_play_103 mX9_play_116 mX1_noteStop mX8_empty
    cases l3
    · rw [if_pos (show k_b false = 0 from rfl)]; rfl
    · rw [if_neg (show ¬ k_b true = 0 by decide)]; rfl
  unfold c_lp
  rw [k_fix1 hF, mX9_play_38, h103]
  by_cases h60 : (60 : Int32) ≤ l4
  · rw [if_pos h60]
  · rw [if_neg h60]
    rcases h with rfl | h
    · rw [if_pos (show k_b false = 0 from rfl)]
    · rw [if_pos h, ite_self]
theorem t_eop1 {sg : Nat → Int32} {c : Nat → Nat} {n i' : Nat} {a : Int32} (h : TX sg c n) (hi' : i' ≤ n) (h2 : i' = n ∨ c i' = 59) : ∀ (m j F : Nat), j + m = i' → m < F → (∀ x, j ≤ x → x < i' → c x ≠ 59) → k_fix (fun _ => none) (mX8_endOfPart_6 sg (nI n) a) F (nI j) = some (nI i') := by
  have hn := h.1
  intro m
  induction m with
  | zero =>
    intro j F hj hF _
    obtain rfl : j = i' := by omega
    rw [k_fix1 hF, mX8_endOfPart_6]
    by_cases he : j = n
    · subst he
      rw [if_pos (nI_le (Nat.le_refl j) (by omega))]
    · have h59 : c j = 59 := by omega
      rw [if_neg (nI_ge (by omega) (by omega)), k_bd_some (t_at h (by omega)), h59, if_pos (show nI 59 = (59 : Int32) from rfl)]
  | succ m ih =>
    intro j F hj hF hx
    have hjn : j < n := by omega
    have hcj := h.2 j hjn
    have h59 : ¬ nI (c j) = (59 : Int32) := fun e => hx j (by omega) (by omega) ((nI_eq (by omega) (by omega)).mp (show nI (c j) = nI 59 from e))
    rw [k_fix1 (by omega), mX8_endOfPart_6, if_neg (nI_ge hjn (by omega)), k_bd_some (t_at h hjn), if_neg h59, nI_1]
    exact ih (j + 1) (F - 1) (by omega) (by omega) (fun x h1 h2 => hx x (by omega) h2)
theorem t_eop {sg : Nat → Int32} {c : Nat → Nat} {n i i' : Nat} {l4 l5 : Int32} (h : TX sg c n) (hq : Q_kind c i l4 l5 i') (hi' : i' ≤ n) (h2 : i' = n ∨ c i' = 59) : mX8_endOfPart sg (nI n) (nI i) = some (nI i') := by
  have hn := h.1
  have hi : i ≤ i' := by rcases hq with ⟨_, h, _⟩ | ⟨_, h, _⟩ | ⟨_, h, _⟩ | ⟨_, h, _⟩ | ⟨_, h, _⟩ <;> omega
  have hx : ∀ x, i ≤ x → x < i' → c x ≠ 59 := by
    intro x h1 h2
    rcases hq with ⟨k, e, a1, a2, -⟩ | ⟨k, e, a1, a2, a3, -⟩ | ⟨k, e, a1, a2, a3, a4, -⟩ | ⟨k, e, a1, a2, -⟩ | ⟨k, e, -⟩
    · rcases (show x = i ∨ x = i + 1 ∨ x = i + 2 by omega) with rfl | rfl | rfl <;> omega
    · rcases (show x = i ∨ x = i + 1 ∨ x = i + 2 ∨ x = i + 3 by omega) with rfl | rfl | rfl | rfl <;> omega
    · rcases (show x = i ∨ x = i + 1 ∨ x = i + 2 ∨ x = i + 3 ∨ x = i + 4 by omega) with rfl | rfl | rfl | rfl | rfl <;> omega
    · rcases (show x = i ∨ x = i + 1 ∨ x = i + 2 by omega) with rfl | rfl | rfl <;> omega
    · obtain rfl : x = i := by omega
      omega
  unfold mX8_endOfPart
  rw [← nI_0, k_mx (by omega) (by omega), show Nat.max 0 i = i from Nat.zero_max i]
  exact t_eop1 h hi' h2 (i' - i) i k_F (by omega) (by generalize hk : k_F = K; have : K = 4096 := hk.symm; omega) hx
def P_res (buf sg : Nat → Int32) (n F1 F2 i : Nat) (x l4 cnt : Int32) (G : Nat → GT) (g : GT) (s laid : Nat → Int32) : Prop := ∃ r m' ph' di' stk' cub' P0' P1' sc0' sc1' h0' h1' hal s' laid' sp wr, c_lp sg n F1 x (nI i) true l4 cnt G g = some (r, cnt, G, m', ph', di', stk', cub', P0', P1', sc0', sc1', h0', h1', hal, r, 0) ∧ k_fix gz (mX10_go_19 buf (nI n) true) F2 x true s laid (nI i) false false = some (r, s', laid', sp, wr, hal) ∧ RG (m', ph', di', stk', cub', P0', P1', sc0', sc1', h0', h1', g.2.2.2.2.2.2.2.2.2.2.2) s'
theorem T_play {buf sg : Nat → Int32} {c : Nat → Nat} {n : Nat} (hb : TX buf c n) (hs : TX sg c n) {cnt : Int32} {G : Nat → GT} : ∀ (m i j F1 F2 : Nat) (x : Int32) (g : GT) (s laid : Nat → Int32), N_ok buf c n m i → i ≤ n → 2 * j ≤ i → n - i + 2 < F1 → n - i + 2 < F2 → RG g s → P_res buf sg n F1 F2 i x (nI j) cnt G g s laid := by
  have hn := hb.1
  intro m
  induction m with
  | zero => intro i j F1 F2 x g s laid h; exact h.elim
  | succ m ih =>
    intro i j F1 F2 x g s laid hN hi hj hF1 hF2 hg
    obtain ⟨l4, l5, i', ⟨hq1, hq2, hq3, hq4⟩, hend⟩ := hN
    have hend' : i' = n ∨ c i' = 59 := by
      rcases hend with h | h
      · exact Or.inl h
      · exact Or.inr h.2.1
    have hT := T_part (laid := laid) hg hs hq1 hq2 hq3
    obtain ⟨b, t1, t2, t3⟩ := hT
    have hep := t_eop hs hq1 hq3 hend'
    have h60 : ¬ (60 : Int32) ≤ nI j := nI_ge (a := j) (b := 60) (by omega) (by omega)
    have hlen : ¬ nI n ≤ nI i := nI_ge (by omega) (by omega)
    cases b
    · obtain ⟨laid', e⟩ := t2 rfl
      have hpart : mX10_part s buf (nI n) laid (nI i) false true = some (false, s, laid', nI i', false) := by
        rw [hq4]
        unfold mX10_part_290
        rw [if_neg (show ¬ k_b true = 0 by decide), k_bd3_some e, if_pos (show k_b false = 0 from rfl)]
      have hL := lp_end (sg := sg) (n := n) (x := x) (l2 := nI i' + 1) (l4 := nI j + 1) (cnt := cnt) (l3 := false) (G := G) (g := g) (show 0 < F1 - 1 by omega) (Or.inl rfl)
      have hC : c_lp sg n F1 x (nI i) true (nI j) cnt G g = c_lp sg n (F1 - 1) x (nI i' + 1) false (nI j + 1) cnt G g := by
        unfold c_lp
        rw [k_fix1 (by omega), mX9_play_38, if_neg h60, if_neg (show ¬ k_b true = 0 by decide), if_neg hlen, k_bd_some hep, k_bd_some t1, if_pos (show k_b false = 0 from rfl)]
        rfl
      refine ⟨x, _, _, _, _, _, _, _, _, _, _, _, true, s, laid', nI i', false, hC.trans hL, ?_, hg⟩
      rw [k_fix1 (by omega), mX10_go_19, if_neg (show ¬ k_b true = 0 by decide), k_bd5_some hpart, if_pos (show k_b false = 0 from rfl)]
    · obtain ⟨s', laid', m', ph', di', stk', cub', P0', P1', sc0', sc1', h0', h1', e1, e2, e3⟩ := t3 rfl
      have hpart : mX10_part s buf (nI n) laid (nI i) false true = some (true, s', laid', nI i', false) := by
        rw [hq4]
        unfold mX10_part_290
        rw [if_neg (show ¬ k_b true = 0 by decide), k_bd3_some e1, if_neg (show ¬ k_b true = 0 by decide)]
      have hC : c_lp sg n F1 x (nI i) true (nI j) cnt G g = c_lp sg n (F1 - 1) (x + 1) (nI (i' + 1)) true (nI (j + 1)) cnt G (m', ph', di', stk', cub', P0', P1', sc0', sc1', h0', h1', g.2.2.2.2.2.2.2.2.2.2.2) := by
        unfold c_lp
        rw [k_fix1 (by omega), mX9_play_38, if_neg h60, if_neg (show ¬ k_b true = 0 by decide), if_neg hlen, k_bd_some hep, k_bd_some t1, if_neg (show ¬ k_b true = 0 by decide), k_bd11_some e2]
        unfold mX9_play_92
        rw [nI_1, nI_1]
      have hR : k_fix gz (mX10_go_19 buf (nI n) true) F2 x true s laid (nI i) false false = if nI n ≤ nI i' then k_fix gz (mX10_go_19 buf (nI n) true) (F2 - 1) (x + 1) false s' laid' (nI i') false false else mX10_go_64 buf (nI n) true (k_fix gz (mX10_go_19 buf (nI n) true) (F2 - 1)) true (x + 1) s' laid' (nI i') false false := by
        rw [k_fix1 (by omega), mX10_go_19, if_neg (show ¬ k_b true = 0 by decide), k_bd5_some hpart, if_neg (show ¬ k_b true = 0 by decide), if_pos (show k_b false = 0 from rfl)]
        rfl
      rcases hend with rfl | ⟨hlt, h59, hN'⟩
      · rw [if_pos (nI_le (Nat.le_refl _) (by omega)), go_end (by omega)] at hR
        have hL := lp_end (sg := sg) (n := i') (x := x + 1) (l2 := nI (i' + 1)) (l4 := nI (j + 1)) (cnt := cnt) (l3 := true) (G := G) (g := (m', ph', di', stk', cub', P0', P1', sc0', sc1', h0', h1', g.2.2.2.2.2.2.2.2.2.2.2)) (show 0 < F1 - 1 by omega) (Or.inr (nI_le (by omega) (by omega)))
        exact ⟨x + 1, m', ph', di', stk', cub', P0', P1', sc0', sc1', h0', h1', false, s', laid', nI i', false, hC.trans hL, hR, e3⟩
      · rw [if_neg (nI_ge hlt (by omega))] at hR
        unfold mX10_go_64 at hR
        rw [if_neg (show ¬ k_b true = 0 by decide), k_bd3_some (sg_59 hb hlt h59), if_pos (show k_b false = 0 from rfl)] at hR
        obtain ⟨r, m2, ph2, di2, stk2, cub2, P02, P12, sc02, sc12, h02, h12, hal, s2, laid2, sp2, wr2, y1, y2, y3⟩ := ih (i' + 1) (j + 1) (F1 - 1) (F2 - 1) (x + 1) (m', ph', di', stk', cub', P0', P1', sc0', sc1', h0', h1', g.2.2.2.2.2.2.2.2.2.2.2) s' laid' hN' (by omega) (by omega) (by omega) (by omega) e3
        exact ⟨r, m2, ph2, di2, stk2, cub2, P02, P12, sc02, sc12, h02, h12, hal, s2, laid2, sp2, wr2, hC.trans y1, hR.trans y2, y3⟩
theorem RG_stop {m' ph' di' stk' cub' sc0' sc1' h0' h1' r : Int32} {P0' P1' : Int64} {hal : Bool} {s : Nat → Int32} {e : Bool × Int32} (h : RG (m', ph', di', stk', cub', P0', P1', sc0', sc1', h0', h1', e) s) {v : Int32} (hv : hal = true → v = r) : RG (m', ph', di', stk', cub', P0', P1', sc0', sc1', h0', h1', hal, r) (upd (upd s 49 (k_b hal)) 50 v) := by
  obtain ⟨p, F, ds, ph, a, b, ⟨c0, c1⟩, d, ⟨e1, e2, e3⟩, ⟨f1, f2, f3⟩, g', ⟨h1, h2, h3, h4⟩, -, j⟩ := h
  have hlo : ∀ k, k < 49 → (upd (upd s 49 (k_b hal)) 50 v) k = s k := fun k hk => by rw [pk_un (by omega), pk_un (by omega)]
  refine ⟨p, F, ds, ph, a, b, ⟨fun w hw => ?_, fun w hw => ?_⟩, RD_hi (RD_hi d (by omega)) (by omega), ⟨(hlo _ (by omega)).trans e1, (hlo _ (by omega)).trans e2, e3⟩, ⟨(hlo _ (by omega)).trans f1, (hlo _ (by omega)).trans f2, f3⟩, g', ⟨(hlo _ (by omega)).trans h1, (hlo _ (by omega)).trans h2, (hlo _ (by omega)).trans h3, (hlo _ (by omega)).trans h4⟩, ⟨?_, fun he => ?_⟩, j⟩
  · have := ix_lt 0 (by omega) w hw
    rw [hlo _ (by omega)]; exact c0 w hw
  · have := ix_lt 1 (by omega) w hw
    rw [hlo _ (by omega)]; exact c1 w hw
  · rw [pk_un (by omega), pk_us]
    cases hal
    · rw [if_neg (show ¬ false = true by decide)]; exact nI_0.symm
    · rw [if_pos rfl]; rfl
  · rw [pk_us]; exact hv he
theorem r_play52 {buf : Nat → Int32} {l1 known len thrown spot : Int32} {s before laid : Nat → Int32} {wr hal : Bool} : ∃ v, (hal = true → v = l1) ∧ mX10_play_52 buf hal 49 l1 s before known len thrown laid spot wr hal = some (l1, upd (upd s 49 (k_b hal)) 50 v, before, known, 0, thrown, laid, spot, wr, hal) := by
  have h71 : ∀ t0 s, mX10_play_71 buf t0 50 l1 s before known len thrown laid spot wr hal = some (l1, upd s 50 t0, before, known, 0, thrown, laid, spot, wr, hal) := fun t0 s => by
    unfold mX10_play_71
    rw [kn_50, k_g_in (by omega) (by omega), nI_clamp (by omega)]
  have e52 : mX10_play_52 buf hal 49 l1 s before known len thrown laid spot wr hal = if k_b hal = 0 then mX10_play_71 buf 0 50 l1 (upd s 49 (k_b hal)) before known len thrown laid spot wr hal else mX10_play_71 buf l1 50 l1 (upd s 49 (k_b hal)) before known len thrown laid spot wr hal := by
    unfold mX10_play_52
    rw [kn_49, k_g_in (by omega) (by omega), nI_clamp (by omega)]
  rw [e52, h71, h71]
  cases hal
  · exact ⟨0, (fun q => by cases q), by rw [if_pos (show k_b false = 0 from rfl)]⟩
  · exact ⟨l1, fun _ => rfl, by rw [if_neg (show ¬ k_b true = 0 by decide)]⟩
theorem ok_play {x : XT} {m : MT} (h : Rel x m) : OK_play Rel x m := by
  obtain ⟨hg, hp, hs, ht⟩ := h
  obtain ⟨n, c, hn, l1, l2, tx, tb⟩ := TX_of ht
  obtain ⟨l2', sp, w, e1, -, e3, e4⟩ := r_go tb tx m.1 m.2.2.2.2.2.2.2.2.2.1 m.2.2.2.2.2.2.2.2.2.2.1 m.2.2.2.2.2.2.2.2.2.2.2.1 m.2.2.2.2.2.2.2.2.2.2.2.2.1
  rw [← l2] at e1
  rw [← l1] at e3
  cases w
  · obtain ⟨mm, hN⟩ := e4 rfl
    obtain ⟨cnt', G', before', known', s1, s2, hp'⟩ := R_save hp hg
    obtain ⟨r, m', ph', di', stk', cub', P0', P1', sc0', sc1', h0', h1', hal, s', laid', sp', wr, y1, y2, y3⟩ := T_play (cnt := cnt') (G := G') tb tx mm 0 0 k_F k_F 0 x.2.2.2.2.1 m.1 m.2.2.2.2.2.2.2.2.2.1 hN (by omega) (by omega) (by generalize hk : k_F = K; have : K = 4096 := hk.symm; omega) (by generalize hk : k_F = K; have : K = 4096 := hk.symm; omega) hg
    obtain ⟨v, v1, v2⟩ := r_play52 (buf := m.2.2.2.2.2.2.1) (l1 := r) (s := s') (before := before') (known := known') (len := m.2.2.2.2.2.2.2.1) (thrown := 0) (laid := laid') (spot := sp') (wr := wr) (hal := hal)
    refine Or.inl ⟨r, (x.1, cnt', x.2.2.1, G', (m', ph', di', stk', cub', P0', P1', sc0', sc1', h0', h1', hal, r), x.2.2.2.2.2.1, 0), r, (upd (upd s' 49 (k_b hal)) 50 v, before', known', m.2.2.2.1, m.2.2.2.2.1, m.2.2.2.2.2.1, m.2.2.2.2.2.2.1, 0, 0, laid', sp', wr, hal, m.2.2.2.2.2.2.2.2.2.2.2.2.2), ?_, ?_, rfl, rfl, RG_stop y3 v1, hp', hs, ⟨0, by omega, nI_0.symm, nI_0.symm, fun i hi => by omega⟩⟩
    · unfold XN_play mX9_play
      rw [k_bd_some e3, if_neg (by decide), k_bd2_some s1]
      unfold c_lp at y1
      rw [nI_0, ← l1] at y1
      rw [k_bd17_some y1]
    · unfold MN_play mX10_play
      rw [k_bd6_some e1, if_pos (show k_b false = 0 from rfl), k_bd2_some s2]
      have y2' : mX10_go m.1 m.2.2.2.2.2.2.1 m.2.2.2.2.2.2.2.1 m.2.2.2.2.2.2.2.2.2.1 (nI sp) false false true = some (r, s', laid', sp', wr, hal) := by
        unfold mX10_go
        rw [nI_0] at y2
        rw [l2]; exact y2
      rw [k_bd6_some y2']
      have hsel : ∀ A B : Option (Int32 × (Nat → Int32) × (Nat → Int32) × Int32 × Int32 × Int32 × (Nat → Int32) × Int32 × Bool × Bool), (hal = false → A = mX10_play_52 m.2.2.2.2.2.2.1 hal 49 r s' before' known' m.2.2.2.2.2.2.2.1 0 laid' sp' wr hal) → (hal = true → B = mX10_play_52 m.2.2.2.2.2.2.1 hal 49 r s' before' known' m.2.2.2.2.2.2.2.1 0 laid' sp' wr hal) → (if k_b hal = 0 then A else B) = mX10_play_52 m.2.2.2.2.2.2.1 hal 49 r s' before' known' m.2.2.2.2.2.2.2.1 0 laid' sp' wr hal := fun A B hA hB => by
        cases hal
        · rw [if_pos (show k_b false = 0 from rfl)]; exact hA rfl
        · rw [if_neg (show ¬ k_b true = 0 by decide)]; exact hB rfl
      rw [hsel _ _ (fun q => by rw [q]) (fun q => by rw [q]), v2]
      exact k_bd10_some rfl
  · refine Or.inr ⟨0, (m.1, m.2.1, m.2.2.1, m.2.2.2.1, m.2.2.2.2.1, m.2.2.2.2.2.1, m.2.2.2.2.2.2.1, m.2.2.2.2.2.2.2.1, 1, m.2.2.2.2.2.2.2.2.2.1, nI sp, true, false, m.2.2.2.2.2.2.2.2.2.2.2.2.2), ?_, ?_, rfl, hg, hp, hs, ht⟩
    · unfold XT_play mT9_play
      rw [k_bd_some e3, if_pos (by decide)]
    · unfold MN_play mX10_play
      rw [k_bd6_some e1, if_neg (show ¬ k_b true = 0 by decide)]
      rfl
