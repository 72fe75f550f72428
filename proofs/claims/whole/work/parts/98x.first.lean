/-! the first error of a text -/
def N_ok (buf : Nat → Int32) (c : Nat → Nat) (n : Nat) : Nat → Nat → Prop
  | 0, _ => False
  | m + 1, i => ∃ l4 l5 i', Q_part buf c n i l4 l5 i' ∧ (i' = n ∨ (i' < n ∧ c i' = 59 ∧ N_ok buf c n m (i' + 1)))
abbrev gz : Int32 → Bool → (Nat → Int32) → (Nat → Int32) → Int32 → Bool → Bool → Option (Int32 × (Nat → Int32) × (Nat → Int32) × Int32 × Bool × Bool) := fun _ _ _ _ _ _ _ => none
theorem go_end {buf : Nat → Int32} {len l2 sp : Int32} {a1 w h : Bool} {s laid : Nat → Int32} {F : Nat} (hF : 0 < F) : k_fix gz (mX10_go_19 buf len a1) F l2 false s laid sp w h = some (l2, s, laid, sp, w, h) := by
  rw [k_fix1 hF, mX10_go_19, if_pos (show k_b false = 0 from rfl)]
theorem t_bad6 {sg : Nat → Int32} {c : Nat → Nat} {n F i : Nat} (h : TX sg c n) (hi : i < n) (h7 : c i ≠ 59) (hF : n - i < F) : t_F sg n F 6 i = some (nI i) ∧ t_G sg n F 6 i = some false := by
  have hci := h.2 i hi
  have h7' : a_d 6 (c i) = 7 := by rw [a_6 _ (by omega), if_neg h7]
  rw [t_Fs h hi (by omega) (by omega), t_Gs h hi (by omega) (by omega), h7', if_pos rfl, t_G7 h (n - (i + 1)) (i + 1) (F - 1) (by omega) (by omega)]
  exact ⟨rfl, rfl⟩
theorem sg_59 {buf : Nat → Int32} {c : Nat → Nat} {n i : Nat} (h : TX buf c n) (hi : i < n) (hc : c i = 59) : mX10_sign buf (nI n) (nI i) false 59 59 = some (nI (c i), nI (i + 1), false) := by
  rw [kn_59]; exact t_sg (lo := 59) (hi := 59) h (by omega) (by omega) hi (by omega)
theorem sg_59N {buf : Nat → Int32} {c : Nat → Nat} {n i : Nat} (h : TX buf c n) (hi : i ≤ n) (hc : c i ≠ 59) : ∃ x, mX10_sign buf (nI n) (nI i) false 59 59 = some (x, nI i, true) := by
  rw [kn_59]; exact t_sgN (lo := 59) (hi := 59) h (by omega) (by omega) hi (by omega)
theorem r_go1 {buf sg : Nat → Int32} {c : Nat → Nat} {n : Nat} (hb : TX buf c n) (hs : TX sg c n) (s laid : Nat → Int32) : ∀ (m i F : Nat) (l2 : Int32), n - i < m → i ≤ n → m < F → ∃ l2' sp w, k_fix gz (mX10_go_19 buf (nI n) false) F l2 true s laid (nI i) false false = some (l2', s, laid, nI sp, w, false) ∧ (w = true → ∀ F, n - i < F → t_F sg n F 0 i = some (nI sp) ∧ t_G sg n F 0 i = some false) ∧ (w = false → (∀ F, n - i < F → t_F sg n F 0 i = some (nI n) ∧ t_G sg n F 0 i = some true) ∧ ∃ m', N_ok buf c n m' i) := by
  have hn := hb.1
  intro m
  induction m with
  | zero => intro i F l2 h; omega
  | succ m ih =>
    intro i F l2 hm hi hF
    rcases t_dich hb hs hi with ⟨l4, l5, i', hq, hk⟩ | ⟨i', hi', hp, hk⟩
    · obtain ⟨hq1, hq2, hq3, hq4⟩ := hq
      have hpart : mX10_part s buf (nI n) laid (nI i) false false = some (true, s, laid, nI i', false) := by rw [hq4, w_290]
      have h19 : k_fix gz (mX10_go_19 buf (nI n) false) F l2 true s laid (nI i) false false = if nI n ≤ nI i' then k_fix gz (mX10_go_19 buf (nI n) false) (F - 1) (l2 + 1) false s laid (nI i') false false else mX10_go_64 buf (nI n) false (k_fix gz (mX10_go_19 buf (nI n) false) (F - 1)) true (l2 + 1) s laid (nI i') false false := by
        rw [k_fix1 (by omega), mX10_go_19, if_neg (show ¬ k_b true = 0 by decide), k_bd5_some hpart, if_neg (show ¬ k_b true = 0 by decide), if_pos (show k_b false = 0 from rfl)]
        rfl
      by_cases he : i' = n
      · subst he
        rw [if_pos (nI_le (Nat.le_refl _) (by omega)), go_end (by omega)] at h19
        refine ⟨_, i', false, h19, (fun q => by cases q), fun _ => ⟨fun F1 hF1 => ?_, 1, l4, l5, i', ⟨hq1, hq2, hq3, hq4⟩, Or.inl rfl⟩⟩
        obtain ⟨F', f1, f2, f3⟩ := hk F1 hF1
        rw [f2, f3, t_Fe (by omega) hn, t_Ge (by omega) (by omega) hn]
        exact ⟨rfl, rfl⟩
      · have hlt : i' < n := by omega
        rw [if_neg (nI_ge hlt (by omega))] at h19
        unfold mX10_go_64 at h19
        rw [if_neg (show ¬ k_b true = 0 by decide)] at h19
        by_cases h59 : c i' = 59
        · rw [k_bd3_some (sg_59 hb hlt h59), if_pos (show k_b false = 0 from rfl)] at h19
          obtain ⟨l2', sp, w, e1, e2, e3⟩ := ih (i' + 1) (F - 1) (l2 + 1) (by omega) (by omega) (by omega)
          have hcl : ∀ F1, n - i < F1 → ∃ F2, n - (i' + 1) < F2 ∧ t_F sg n F1 0 i = t_F sg n F2 0 (i' + 1) ∧ t_G sg n F1 0 i = t_G sg n F2 0 (i' + 1) := fun F1 hF1 => by
            obtain ⟨F', f1, f2, f3⟩ := hk F1 hF1
            have hci := hb.2 i' hlt
            obtain ⟨g1, g2⟩ := t_go (st := 6) (st' := 0) hs hlt (by omega) (by rw [a_6 _ (by omega), if_pos h59]) (by omega) f1
            exact ⟨F' - 1, by omega, by rw [f2, g1], by rw [f3, g2]⟩
          refine ⟨l2', sp, w, by rw [h19, e1], fun q F1 hF1 => ?_, fun q => ⟨fun F1 hF1 => ?_, ?_⟩⟩
          · obtain ⟨F2, f1, f2, f3⟩ := hcl F1 hF1
            rw [f2, f3]; exact e2 q F2 f1
          · obtain ⟨F2, f1, f2, f3⟩ := hcl F1 hF1
            rw [f2, f3]; exact (e3 q).1 F2 f1
          · obtain ⟨m', hm'⟩ := (e3 q).2
            exact ⟨m' + 1, l4, l5, i', ⟨hq1, hq2, hq3, hq4⟩, Or.inr ⟨hlt, h59, hm'⟩⟩
        · obtain ⟨x, e⟩ := sg_59N hb hq3 h59
          rw [k_bd3_some e, if_neg (show ¬ k_b true = 0 by decide), go_end (by omega)] at h19
          refine ⟨_, i', true, h19, fun _ F1 hF1 => ?_, fun q => by cases q⟩
          obtain ⟨F', f1, f2, f3⟩ := hk F1 hF1
          rw [f2, f3]; exact t_bad6 hs hlt h59 f1
    · have h19 : k_fix gz (mX10_go_19 buf (nI n) false) F l2 true s laid (nI i) false false = k_fix gz (mX10_go_19 buf (nI n) false) (F - 1) (l2 + 1) false s laid (nI i') true false := by
        rw [k_fix1 (by omega), mX10_go_19, if_neg (show ¬ k_b true = 0 by decide), k_bd5_some (hp s laid), if_neg (show ¬ k_b true = 0 by decide), if_neg (show ¬ k_b true = 0 by decide)]
        rfl
      rw [go_end (by omega)] at h19
      exact ⟨_, i', true, h19, fun _ => hk, fun q => by cases q⟩
theorem TX_of {sg buffer : Nat → Int32} {len length : Int32} (h : RT sg len buffer length) : ∃ (n : Nat) (c : Nat → Nat), n ≤ 60 ∧ len = nI n ∧ length = nI n ∧ TX sg c n ∧ TX buffer c n := by
  obtain ⟨n, hn, h1, h2, hi⟩ := h
  have hc : ∀ i, i < n → 33 ≤ (sg i).toNatClampNeg ∧ (sg i).toNatClampNeg ≤ 126 ∧ sg i = nI (sg i).toNatClampNeg := fun i hin => by
    obtain ⟨-, j, j1, j2, e⟩ := hi i hin
    rw [e, nI_clamp (by omega)]
    exact ⟨j1, j2, rfl⟩
  exact ⟨n, fun i => (sg i).toNatClampNeg, hn, h1, h2, ⟨hn, hc⟩, ⟨hn, fun i hin => ⟨(hc i hin).1, (hc i hin).2.1, (hi i hin).1.symm.trans (hc i hin).2.2⟩⟩⟩
theorem r_go {buf sg : Nat → Int32} {c : Nat → Nat} {n : Nat} (hb : TX buf c n) (hs : TX sg c n) (s laid : Nat → Int32) (sp0 : Int32) (w0 h0 : Bool) : ∃ l2' sp w, mX10_go s buf (nI n) laid sp0 w0 h0 false = some (l2', s, laid, nI sp, w, false) ∧ mX8_firstWrong sg (nI n) = some (if w = true then nI sp else nI n) ∧ mX8_isGame sg (nI n) = some (!w) ∧ (w = false → ∃ m', N_ok buf c n m' 0) := by
  have hn := hb.1
  have hF : n < k_F := by generalize hk : k_F = K; have : K = 4096 := hk.symm; omega
  obtain ⟨l2', sp, w, e1, e2, e3⟩ := r_go1 hb hs s laid (n + 1) 0 k_F 0 (by omega) (by omega) (by generalize hk : k_F = K; have : K = 4096 := hk.symm; omega)
  refine ⟨l2', sp, w, ?_, ?_, ?_, fun q => (e3 q).2⟩
  · unfold mX10_go
    rw [nI_0] at e1; exact e1
  · have hf : mX8_firstWrong sg (nI n) = t_F sg n k_F 0 0 := by unfold mX8_firstWrong t_F; rw [nI_0]
    rw [hf]
    cases w
    · rw [((e3 rfl).1 k_F (by omega)).1]; rfl
    · rw [(e2 rfl k_F (by omega)).1]; rfl
  · have hf : mX8_isGame sg (nI n) = t_G sg n k_F 0 0 := by unfold mX8_isGame t_G; rw [nI_0]
    rw [hf]
    cases w
    · rw [((e3 rfl).1 k_F (by omega)).2]; rfl
    · rw [(e2 rfl k_F (by omega)).2]; rfl
theorem ok_firstError {x : XT} {m : MT} (h : Rel x m) : OK_firstError Rel x m := by
  obtain ⟨hg, hp, hs, ht⟩ := h
  obtain ⟨n, c, hn, l1, l2, tx, tb⟩ := TX_of ht
  obtain ⟨l2', sp, w, e1, e2, e3, e4⟩ := r_go tb tx m.1 m.2.2.2.2.2.2.2.2.2.1 m.2.2.2.2.2.2.2.2.2.2.1 m.2.2.2.2.2.2.2.2.2.2.2.1 m.2.2.2.2.2.2.2.2.2.2.2.2.1
  rw [← l2] at e1
  have e2' : mX8_firstWrong x.2.2.2.2.2.1 x.2.2.2.2.2.2 = some (if w = true then nI sp else nI n) := by rw [l1]; exact e2
  refine ⟨if w = true then nI sp else nI n, x, if w = true then nI sp else nI n, (m.1, m.2.1, m.2.2.1, m.2.2.2.1, m.2.2.2.2.1, m.2.2.2.2.2.1, m.2.2.2.2.2.2.1, m.2.2.2.2.2.2.2.1, 0, m.2.2.2.2.2.2.2.2.2.1, nI sp, w, false, m.2.2.2.2.2.2.2.2.2.2.2.2.2), ?_, ?_, rfl, hg, hp, hs, ht⟩
  · unfold XN_firstError mX9_firstError
    rw [k_bd_some (k_bd_some e2')]
  · unfold MN_firstError mX10_firstError
    rw [k_bd6_some e1]
    cases w
    · rw [if_pos (show k_b false = 0 from rfl), if_neg (show ¬ false = true by decide), ← l2]; exact k_bd7_some rfl
    · rw [if_neg (show ¬ k_b true = 0 by decide), if_pos rfl]; exact k_bd7_some rfl
