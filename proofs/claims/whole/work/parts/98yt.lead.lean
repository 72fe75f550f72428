/-! the share of the mover -/
def q_v (a b : Nat) : UInt64 := FP.ddiv (FP.i2d (nI a)) (FP.i2d (nI (a + b)))
def q_in (a b : Nat) : Bool := Nat.ble (963 * 2 ^ 52) (q_v a b).toNat && Nat.blt (q_v a b).toNat (1024 * 2 ^ 52)
theorem q_t0 : ((List.range 103).all (fun b => b == 0 || q_v 0 b == 0)) = true := by decide +kernel
theorem q_t1 : ((List.range 26).all (fun a => (List.range 103).all (fun b => q_in (a + 1) b))) = true := by decide +kernel
theorem q_t2 : ((List.range 26).all (fun a => (List.range 103).all (fun b => q_in (a + 27) b))) = true := by decide +kernel
theorem q_t3 : ((List.range 26).all (fun a => (List.range 103).all (fun b => q_in (a + 53) b))) = true := by decide +kernel
theorem q_t4 : ((List.range 26).all (fun a => (List.range 103).all (fun b => q_in (a + 79) b))) = true := by decide +kernel
theorem q_tt {k a b : Nat} (h : ((List.range 26).all (fun a => (List.range 103).all (fun b => q_in (a + k) b))) = true) (ha : k ≤ a) (ha2 : a < k + 26) (hb : b < 103) : f_sh (q_v a b) := by
  rw [List.all_eq_true] at h
  have h1 := h (a - k) (List.mem_range.mpr (by omega))
  rw [List.all_eq_true] at h1
  have h2 := h1 b (List.mem_range.mpr hb)
  rw [show a - k + k = a by omega] at h2
  unfold q_in at h2
  rw [Bool.and_eq_true] at h2
  exact f_sh_of ⟨Nat.le_of_ble_eq_true h2.1, by
    have := h2.2
    unfold Nat.blt at this
    exact Nat.le_of_ble_eq_true this⟩
theorem q_sh {a b : Nat} (ha : a < 103) (hb : b < 103) (h0 : 0 < a + b) : f_sh (q_v a b) := by
  by_cases h1 : a = 0
  · subst h1
    have h := q_t0
    rw [List.all_eq_true] at h
    have h2 := h b (List.mem_range.mpr hb)
    rw [Bool.or_eq_true] at h2
    rcases h2 with q | q
    · have : b = 0 := eq_of_beq q
      omega
    · exact Or.inl (eq_of_beq q)
  · by_cases c1 : a < 27
    · exact q_tt q_t1 (by omega) (by omega) hb
    · by_cases c2 : a < 53
      · exact q_tt q_t2 (by omega) (by omega) hb
      · by_cases c3 : a < 79
        · exact q_tt q_t3 (by omega) (by omega) hb
        · exact q_tt q_t4 (by omega) (by omega) hb
theorem pip_le {f : Nat → Nat} (h : b_ok f) : g_pip f < 103 := by
  have h' : 0 + f 0 + f 1 + f 2 + f 3 + f 4 + f 5 + f 6 + f 7 + f 8 + f 9 + f 10 + f 11 + f 12 + f 13 + f 14 + f 15 + f 16 + f 17 = 6 := h
  show 1 * f 1 + (2 * f 2 + (3 * f 3 + (4 * f 4 + (5 * f 5 + (6 * f 6 + (7 * f 7 + (8 * f 8 + (9 * f 9 + (10 * f 10 + (11 * f 11 + (12 * f 12 + (13 * f 13 + (14 * f 14 + (15 * f 15 + (16 * f 16 + (17 * f 17 + 0)))))))))))))))) < 103
  omega
theorem R_share {p : Nat} {F : Nat → Nat → Nat} {ds : List Nat} {ph : Nat} {g : GT} {s : Nat → Int32} (h : RGw p F ds ph g s) : ∃ r, f_sh r ∧ mX9_shareOfMover g.1 g.2.2.2.2.2.1 g.2.2.2.2.2.2.1 = some r ∧ mX10_leading s = some r := by
  have h1 := RG_mine h
  have h2 := RG_others h
  obtain ⟨⟨hp, -⟩, ⟨ho, ho'⟩, ⟨r0, r1⟩, -, ⟨h36, -⟩, -⟩ := h
  have hok := ok_q hp ho ho'
  have b1 : g_pip (F p) < 103 := pip_le hok.1
  have b2 : g_pip (F (1 - p)) < 103 := pip_le hok.2.1
  have e1 := c_pip (f := F p) hok.1
  have e2 := c_pip (f := F (1 - p)) hok.2.1
  have e3 := r_pip hp (RH_q hp r0 r1)
  have e4 := r_pip (show 1 - p < 2 by omega) (RH_q (show 1 - p < 2 by omega) r0 r1)
  generalize g_pip (F p) = a at b1 e1 e3
  generalize g_pip (F (1 - p)) = b at b2 e2 e4
  have hc : mX9_shareOfMover g.1 g.2.2.2.2.2.1 g.2.2.2.2.2.2.1 = if nI a + nI b = 0 then some 4602678819172646912 else k_gn (k_nn (FP.ddiv (FP.i2d (nI b)) (FP.i2d (nI a + nI b)))) (some (FP.ddiv (FP.i2d (nI b)) (FP.i2d (nI a + nI b)))) := by
    unfold mX9_shareOfMover
    rw [k_bd_some h1, k_bd_some e1, k_bd_some h2, k_bd_some e2]
  have hr : mX10_leading s = if nI b + nI a = 0 then some 4602678819172646912 else k_gn (k_nn (FP.ddiv (FP.i2d (nI b)) (FP.i2d (nI b + nI a)))) (some (FP.ddiv (FP.i2d (nI b)) (FP.i2d (nI b + nI a)))) := by
    unfold mX10_leading
    rw [h36, show (1 : Int32) - nI p = nI (1 - p) from r_1p hp, k_bd_some e4, k_bd_some e3]
  rw [nI_add, Nat.add_comm a b] at hc
  rw [nI_add] at hr
  by_cases h0 : b + a = 0
  · rw [h0, if_pos nI_0] at hc hr
    exact ⟨_, f_sh_of (by decide), hc, hr⟩
  · have hs := q_sh b2 b1 (by omega)
    rw [if_neg (show ¬ nI (b + a) = (0 : Int32) from nI_ne0 (by omega) (by omega))] at hc hr
    have hs' : f_sh (FP.ddiv (FP.i2d (nI b)) (FP.i2d (nI (b + a)))) := hs
    generalize FP.ddiv (FP.i2d (nI b)) (FP.i2d (nI (b + a))) = x at hc hr hs'
    rw [gn_t (f_sh_nn hs')] at hc hr
    exact ⟨x, hs', hc, hr⟩
theorem ok_lead {x : XT} {m : MT} (h : Rel x m) : OK_lead Rel x m := by
  obtain ⟨p, F, ds, ph, hw⟩ := h.1
  obtain ⟨r, h1, h2, h3⟩ := R_share hw
  refine ⟨r, x, r, setT m 0, ?_, ?_, f_sh_cmp h1, Rel_T h⟩
  · unfold XN_lead mX9_lead
    rw [k_bd_some (k_bd_some h2)]
  · unfold MN_lead mX10_lead
    rw [k_bd_some h3]
    rfl
