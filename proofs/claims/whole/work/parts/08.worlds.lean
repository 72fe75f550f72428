abbrev kT (cI cJ cC cG : ClassId) : k_TY := [(cI, .int), (cJ, .long), (cC, .char), (cG, .object "MagpieRuns$Game")]
abbrev wM (cI cJ : ClassId) (ad : Nat → Nat) (c_s : Nat → Int32) (c_before : Nat → Int32) (c_known : Int32) (c_kept : Nat → Int32) (c_isKept : Bool) (c_aside : Nat → Int32) (c_buffer : Nat → Int32) (c_length : Int32) (c_thrown : Int32) (c_laid : Nat → Int32) (c_spot : Int32) (c_isWrong : Bool) (c_isHalted : Bool) (c_mine : Nat → Int64) (c_theirs : Nat → Int64) (c_many : Int32) (c_from0 : Nat → Int64) (c_from1 : Nat → Int64) (c_dice : Nat → Int32) (c_hash : Int64) : va_W := [((ad 0), .inr (6, [.ref (ad 1), .ref (ad 2), .int c_known, .ref (ad 3), .int (k_b c_isKept), .ref (ad 4), .ref (ad 5), .int c_length, .int c_thrown, .ref (ad 6), .int c_spot, .int (k_b c_isWrong), .int (k_b c_isHalted), .ref (ad 7), .ref (ad 8), .int c_many, .ref (ad 9), .ref (ad 10), .ref (ad 11), .long c_hash])), ((ad 1), .inl (cI, 51, .inl c_s)), ((ad 2), .inl (cI, 255, .inl c_before)), ((ad 3), .inl (cI, 51, .inl c_kept)), ((ad 4), .inl (cI, 51, .inl c_aside)), ((ad 5), .inl (cI, 60, .inl c_buffer)), ((ad 6), .inl (cI, 108, .inl c_laid)), ((ad 7), .inl (cJ, 400, .inr (.inl c_mine))), ((ad 8), .inl (cJ, 400, .inr (.inl c_theirs))), ((ad 9), .inl (cJ, 400, .inr (.inl c_from0))), ((ad 10), .inl (cJ, 400, .inr (.inl c_from1))), ((ad 11), .inl (cI, 6, .inl c_dice))]
abbrev wG (h0 : Nat) (c_mover : Int32) (c_phase : Int32) (c_dice : Int32) (c_stake : Int32) (c_cube : Int32) (c_pieces0 : Int64) (c_pieces1 : Int64) (c_score0 : Int32) (c_score1 : Int32) (c_hits0 : Int32) (c_hits1 : Int32) (c_stopped : Bool) (c_stopPart : Int32) : va_W := [(h0, .inr (0, [.int c_mover, .int c_phase, .int c_dice, .int c_stake, .int c_cube, .long c_pieces0, .long c_pieces1, .int c_score0, .int c_score1, .int c_hits0, .int c_hits1, .int (k_b c_stopped), .int c_stopPart]))]
abbrev wG2 (h0 h1 : Nat) (c_mover : Int32) (c_phase : Int32) (c_dice : Int32) (c_stake : Int32) (c_cube : Int32) (c_pieces0 : Int64) (c_pieces1 : Int64) (c_score0 : Int32) (c_score1 : Int32) (c_hits0 : Int32) (c_hits1 : Int32) (c_stopped : Bool) (c_stopPart : Int32) (o_mover : Int32) (o_phase : Int32) (o_dice : Int32) (o_stake : Int32) (o_cube : Int32) (o_pieces0 : Int64) (o_pieces1 : Int64) (o_score0 : Int32) (o_score1 : Int32) (o_hits0 : Int32) (o_hits1 : Int32) (o_stopped : Bool) (o_stopPart : Int32) : va_W := [(h0, .inr (0, [.int c_mover, .int c_phase, .int c_dice, .int c_stake, .int c_cube, .long c_pieces0, .long c_pieces1, .int c_score0, .int c_score1, .int c_hits0, .int c_hits1, .int (k_b c_stopped), .int c_stopPart])), (h1, .inr (0, [.int o_mover, .int o_phase, .int o_dice, .int o_stake, .int o_cube, .long o_pieces0, .long o_pieces1, .int o_score0, .int o_score1, .int o_hits0, .int o_hits1, .int (k_b o_stopped), .int o_stopPart]))]
abbrev wPo (cI cJ : ClassId) (ad : Nat → Nat) (c_mine : Nat → Int64) (c_theirs : Nat → Int64) (c_dice : Nat → Int32) (c_size : Int32) : va_W := [((ad 0), .inr (3, [.ref (ad 1), .ref (ad 2), .ref (ad 3), .int c_size])), ((ad 1), .inl (cJ, 128, .inr (.inl c_mine))), ((ad 2), .inl (cJ, 128, .inr (.inl c_theirs))), ((ad 3), .inl (cI, 128, .inl c_dice))]
abbrev wT (cC : ClassId) (ad : Nat → Nat) (c_signs : Nat → Int32) (c_length : Int32) : va_W := [((ad 0), .inr (4, [.ref (ad 1), .int c_length])), ((ad 1), .inl (cC, 60, .inl c_signs))]
abbrev wPl (cI cJ : ClassId) (h0 r1 r2 r3 : Nat) (pa pb pc : Nat → Nat) (p_mine : Nat → Int64) (p_theirs : Nat → Int64) (p_dice : Nat → Int32) (p_size : Int32) (f_mine : Nat → Int64) (f_theirs : Nat → Int64) (f_dice : Nat → Int32) (f_size : Int32) (e_mine : Nat → Int64) (e_theirs : Nat → Int64) (e_dice : Nat → Int32) (e_size : Int32) : va_W := [(h0, .inr (2, [.ref r1, .ref r2, .ref r3])), ((pa 0), .inr (3, [.ref (pa 1), .ref (pa 2), .ref (pa 3), .int p_size])), ((pa 1), .inl (cJ, 128, .inr (.inl p_mine))), ((pa 2), .inl (cJ, 128, .inr (.inl p_theirs))), ((pa 3), .inl (cI, 128, .inl p_dice)), ((pb 0), .inr (3, [.ref (pb 1), .ref (pb 2), .ref (pb 3), .int f_size])), ((pb 1), .inl (cJ, 128, .inr (.inl f_mine))), ((pb 2), .inl (cJ, 128, .inr (.inl f_theirs))), ((pb 3), .inl (cI, 128, .inl f_dice)), ((pc 0), .inr (3, [.ref (pc 1), .ref (pc 2), .ref (pc 3), .int e_size])), ((pc 1), .inl (cJ, 128, .inr (.inl e_mine))), ((pc 2), .inl (cJ, 128, .inr (.inl e_theirs))), ((pc 3), .inl (cI, 128, .inl e_dice))]

theorem kl_36 : Int32.toNatClampNeg 36 = 36 := by decide +kernel
theorem kl_37 : Int32.toNatClampNeg 37 = 37 := by decide +kernel
theorem kl_38 : Int32.toNatClampNeg 38 = 38 := by decide +kernel
theorem kl_39 : Int32.toNatClampNeg 39 = 39 := by decide +kernel
theorem kl_40 : Int32.toNatClampNeg 40 = 40 := by decide +kernel
theorem kl_41 : Int32.toNatClampNeg 41 = 41 := by decide +kernel
theorem kl_42 : Int32.toNatClampNeg 42 = 42 := by decide +kernel
theorem kl_43 : Int32.toNatClampNeg 43 = 43 := by decide +kernel
theorem kl_44 : Int32.toNatClampNeg 44 = 44 := by decide +kernel
theorem kl_49 : Int32.toNatClampNeg 49 = 49 := by decide +kernel
theorem kl_50 : Int32.toNatClampNeg 50 = 50 := by decide +kernel
theorem ki_36_51 : vp_in 36 51 := show ¬ (_ ∨ _) by decide +kernel
theorem ki_37_51 : vp_in 37 51 := show ¬ (_ ∨ _) by decide +kernel
theorem ki_38_51 : vp_in 38 51 := show ¬ (_ ∨ _) by decide +kernel
theorem ki_39_51 : vp_in 39 51 := show ¬ (_ ∨ _) by decide +kernel
theorem ki_40_51 : vp_in 40 51 := show ¬ (_ ∨ _) by decide +kernel
theorem ki_41_51 : vp_in 41 51 := show ¬ (_ ∨ _) by decide +kernel
theorem ki_42_51 : vp_in 42 51 := show ¬ (_ ∨ _) by decide +kernel
theorem ki_43_51 : vp_in 43 51 := show ¬ (_ ∨ _) by decide +kernel
theorem ki_44_51 : vp_in 44 51 := show ¬ (_ ∨ _) by decide +kernel
theorem ki_49_51 : vp_in 49 51 := show ¬ (_ ∨ _) by decide +kernel
theorem ki_50_51 : vp_in 50 51 := show ¬ (_ ∨ _) by decide +kernel
