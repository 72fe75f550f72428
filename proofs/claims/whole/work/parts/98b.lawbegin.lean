/-! what the statement gives at the law's start -/
theorem lw_pl (k i : Nat) {w : Cond} (h : (lw_ch k)[i]? = some w) : w ∈ lw_tbl := lw_chm k (List.mem_of_getElem? h)
theorem lw_st {args : Array Value} {s : State} {A : Nat → Prop} (hw : ∀ w ∈ lw_tbl, w.before args s = true) (hg : (Jvm.Cond.and given_1 narrow_1).before args s = true) (hA : ∀ a : Nat, a < s.heap.size → ¬ A a) : k_stt A s := by
  have hf := flat_of_before _ hg
  refine ⟨vx_Zqof (hw (.laysStatic Bundle.tN "UNASSIGNED_STACK" Bundle.steD) (lw_pl 3 52 (by decide +kernel))) (hw (.initialized Bundle.tN) (lw_pl 1 9 (by decide +kernel))) (hf (.isRef (.static Bundle.tN "UNASSIGNED_STACK" Bundle.steD)) (by decide +kernel)) hA, vx_Zqof (hw (.laysStatic Bundle.tN "SUPPRESSED_SENTINEL" Bundle.listD) (lw_pl 3 54 (by decide +kernel))) (hw (.initialized Bundle.tN) (lw_pl 1 9 (by decide +kernel))) (hf (.isRef (.static Bundle.tN "SUPPRESSED_SENTINEL" Bundle.listD)) (by decide +kernel)) hA, ?_, ?_, ?_⟩
  · exact fun q hq => va_Nw.of rfl (hw _ (lw_badw _ (List.mem_append_left _ (List.mem_map.mpr ⟨q, hq, rfl⟩))))
  · exact fun x hx => va_Nw.of rfl (hw _ (lw_badw _ (List.mem_append_right _ (List.mem_map.mpr ⟨x, hx, rfl⟩))))
  · intro q hq
    simp only [k_badn, List.mem_cons, List.not_mem_nil, or_false] at hq
    rcases hq with rfl | rfl | rfl
    · exact va_Nc.of (hf (.not (.castable E_S E_A)) (by decide +kernel))
    · exact va_Nc.of (hf (.not (.castable E_A E_X)) (by decide +kernel))
    · exact va_Nc.of (hf (.not (.castable E_S E_X)) (by decide +kernel))
theorem lw_N {args : Array Value} {s : State} (hw : ∀ w ∈ lw_tbl, w.before args s = true) : k_N s := ⟨va_Nw.of rfl (hw _ (lw_pl 2 92 (by decide +kernel))), va_Nw.of rfl (hw _ (lw_pl 2 136 (by decide +kernel)))⟩
theorem lw_G {args : Array Value} {s : State} (hw : ∀ w ∈ lw_tbl, w.before args s = true) : k_G s := by
  refine ⟨va_AO.of (hw (.arrayOver (.object RX1)) (lw_pl 1 88 (by decide +kernel))), ?_⟩
  intro q hq
  simp only [k_nil, List.mem_cons, List.not_mem_nil, or_false] at hq
  rcases hq with rfl | rfl | rfl | rfl | rfl
  · exact va_Nw.of rfl (hw (.methodLinkNest RX9 9 yX1_init RX9) (lw_pl 1 29 (by decide +kernel)))
  · exact va_Nw.of rfl (hw (.methodLinkNest RX2 15 yX1_init RX9) (lw_pl 1 89 (by decide +kernel)))
  · exact va_Nw.of rfl (hw (.methodLinkNest RX9 25 yX8_init RX9) (lw_pl 1 107 (by decide +kernel)))
  · exact va_Nw.of rfl (hw (.methodLinkNest RX9 32 yX4_init RX9) (lw_pl 1 122 (by decide +kernel)))
  · exact va_Nw.of rfl (hw (.methodLinkNest RX4 9 yX5_init RX9) (lw_pl 1 128 (by decide +kernel)))
theorem lw_arr {args : Array Value} {s : State} {ty : FieldType} (h : (Cond.arrayClass ty).before args s = true) : ∃ cA : ClassId, ArrOfT s cA ty ∧ s.vm.findClass ("[" ++ ty.toString) = some cA := by
  obtain ⟨c, k, comp, h1, h2, h3⟩ := Cond.arrayClass_spec h
  exact ⟨c, fun n z => ⟨fun k h => (by cases h), k, h2, comp, h3⟩, h1⟩
theorem lw_K0 {args : Array Value} {s : State} (hw : ∀ w ∈ lw_tbl, w.before args s = true) : ∃ (D : va_G) (cI cJ cC cG : ClassId), va_K D vwCl (kT cI cJ cC cG) s := by
  have hts : ∀ w ∈ wsL_law, w.before args s = true := fun w h => hw w (lw_sub w h)
  have iX1 : ∀ w ∈ wsX10, w ∈ wsL_law := (fun w h => (List.mem_append_left _ (List.mem_append_left _ (List.mem_append_left _ (List.mem_append_left _ (List.mem_append_left _ (List.mem_append_left _ (List.mem_append_left _ (List.mem_append_left _ (List.mem_append_right _ h))))))))))
  obtain ⟨cX1, sX1, kX1⟩ := u_known (C := RX1) (T := TX1) (N := 13) (n := 13) hts iX1 (hw (.instantiable RX1 13) (lw_pl 1 28 (by decide +kernel)))
  have iX2 : ∀ w ∈ wsX20, w ∈ wsL_law := (fun w h => (List.mem_append_left _ (List.mem_append_left _ (List.mem_append_left _ (List.mem_append_left _ (List.mem_append_left _ (List.mem_append_left _ (List.mem_append_left _ (List.mem_append_right _ h)))))))))
  obtain ⟨cX2, sX2, kX2⟩ := u_known (C := RX2) (T := TX2) (N := 4) (n := 4) hts iX2 (hw (.instantiable RX2 4) (lw_pl 1 82 (by decide +kernel)))
  have iX4 : ∀ w ∈ wsX40, w ∈ wsL_law := (fun w h => (List.mem_append_left _ (List.mem_append_left _ (List.mem_append_left _ (List.mem_append_left _ (List.mem_append_left _ (List.mem_append_right _ h)))))))
  obtain ⟨cX4, sX4, kX4⟩ := u_known (C := RX4) (T := TX4) (N := 3) (n := 3) hts iX4 (hw (.instantiable RX4 3) (lw_pl 1 121 (by decide +kernel)))
  have iX5 : ∀ w ∈ wsX50, w ∈ wsL_law := (fun w h => (List.mem_append_left _ (List.mem_append_left _ (List.mem_append_left _ (List.mem_append_left _ (List.mem_append_right _ h))))))
  obtain ⟨cX5, sX5, kX5⟩ := u_known (C := RX5) (T := TX5) (N := 4) (n := 4) hts iX5 (hw (.instantiable RX5 4) (lw_pl 1 127 (by decide +kernel)))
  have iX8 : ∀ w ∈ wsX80, w ∈ wsL_law := (fun w h => (List.mem_append_left _ (List.mem_append_left _ (List.mem_append_left _ (List.mem_append_left _ (List.mem_append_left _ (List.mem_append_left _ (List.mem_append_right _ h))))))))
  obtain ⟨cX8, sX8, kX8⟩ := u_known (C := RX8) (T := TX8) (N := 2) (n := 2) hts iX8 (hw (.instantiable RX8 2) (lw_pl 1 106 (by decide +kernel)))
  have iX9 : ∀ w ∈ wsX90, w ∈ wsL_law := (fun w h => (List.mem_append_left _ (List.mem_append_left _ (List.mem_append_left _ (List.mem_append_left _ (List.mem_append_left _ (List.mem_append_left _ (List.mem_append_left _ (List.mem_append_left _ (List.mem_append_left _ (List.mem_append_left _ (List.mem_append_right _ h))))))))))))
  obtain ⟨cX9, sX9, kX9⟩ := u_known (C := RX9) (T := TX9) (N := 4) (n := 4) hts iX9 (hw (.instantiable RX9 4) (lw_pl 1 20 (by decide +kernel)))
  have iX10 : ∀ w ∈ wsX100, w ∈ wsL_law := (fun w h => (List.mem_append_left _ (List.mem_append_left _ (List.mem_append_left _ (List.mem_append_left _ (List.mem_append_left _ (List.mem_append_left _ (List.mem_append_left _ (List.mem_append_left _ (List.mem_append_left _ (List.mem_append_right _ h)))))))))))
  obtain ⟨cX10, sX10, kX10⟩ := u_known (C := RX10) (T := TX10) (N := 20) (n := 20) hts iX10 (hw (.instantiable RX10 20) (lw_pl 4 227 (by decide +kernel)))
  obtain ⟨cI, aI, bI⟩ := lw_arr (hw (.arrayClass .int) (lw_pl 1 147 (by decide +kernel)))
  obtain ⟨cJ, aJ, bJ⟩ := lw_arr (hw (.arrayClass .long) (lw_pl 1 146 (by decide +kernel)))
  obtain ⟨cC, aC, bC⟩ := lw_arr (hw (.arrayClass .char) (lw_pl 1 119 (by decide +kernel)))
  obtain ⟨comp, cG, kG, g1, g2, g3, g4, g5⟩ := Cond.arrayOver_spec (hw (.arrayOver (.object RX1)) (lw_pl 1 88 (by decide +kernel)))
  have aG : ArrOfT s cG (.object RX1) := fun N z => ⟨(fun k h => by cases h), kG, g3, comp, g4⟩
  refine ⟨(fun c => match c with | 0 => cX1 | 1 => cX2 | 2 => cX4 | 3 => cX5 | 4 => cX8 | 5 => cX9 | _ => cX10, fun c => match c with | 0 => sX1 | 1 => sX2 | 2 => sX4 | 3 => sX5 | 4 => sX8 | 5 => sX9 | _ => sX10), cI, cJ, cC, cG, fun c q hq => ?_, fun k q hk => ?_⟩
  · match c, hq with
    | 0, hq => cases hq; exact kX1
    | 1, hq => cases hq; exact kX2
    | 2, hq => cases hq; exact kX4
    | 3, hq => cases hq; exact kX5
    | 4, hq => cases hq; exact kX8
    | 5, hq => cases hq; exact kX9
    | 6, hq => cases hq; exact kX10
    | n + 7, hq => exact absurd hq (by simp)
  · match k, hk with
    | 0, hk => cases hk; exact ⟨aI, bI⟩
    | 1, hk => cases hk; exact ⟨aJ, bJ⟩
    | 2, hk => cases hk; exact ⟨aC, bC⟩
    | 3, hk => cases hk; exact ⟨aG, kG, comp, g3, g4, g1, g5⟩
    | n + 4, hk => exact absurd hk (by simp)
