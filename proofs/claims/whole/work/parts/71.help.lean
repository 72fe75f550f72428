/-! numbers, small helps -/
theorem kn_0 : (0 : Int32) = nI 0 := Int32.toBitVec_inj.mp rfl
theorem kn_1 : (1 : Int32) = nI 1 := Int32.toBitVec_inj.mp rfl
theorem kn_2 : (2 : Int32) = nI 2 := Int32.toBitVec_inj.mp rfl
theorem kn_3 : (3 : Int32) = nI 3 := Int32.toBitVec_inj.mp rfl
theorem kn_4 : (4 : Int32) = nI 4 := Int32.toBitVec_inj.mp rfl
theorem kn_5 : (5 : Int32) = nI 5 := Int32.toBitVec_inj.mp rfl
theorem kn_6 : (6 : Int32) = nI 6 := Int32.toBitVec_inj.mp rfl
theorem kn_7 : (7 : Int32) = nI 7 := Int32.toBitVec_inj.mp rfl
theorem kn_8 : (8 : Int32) = nI 8 := Int32.toBitVec_inj.mp rfl
theorem kn_9 : (9 : Int32) = nI 9 := Int32.toBitVec_inj.mp rfl
theorem kn_10 : (10 : Int32) = nI 10 := Int32.toBitVec_inj.mp rfl
theorem kn_11 : (11 : Int32) = nI 11 := Int32.toBitVec_inj.mp rfl
theorem kn_12 : (12 : Int32) = nI 12 := Int32.toBitVec_inj.mp rfl
theorem kn_13 : (13 : Int32) = nI 13 := Int32.toBitVec_inj.mp rfl
theorem kn_14 : (14 : Int32) = nI 14 := Int32.toBitVec_inj.mp rfl
theorem kn_15 : (15 : Int32) = nI 15 := Int32.toBitVec_inj.mp rfl
theorem kn_16 : (16 : Int32) = nI 16 := Int32.toBitVec_inj.mp rfl
theorem kn_17 : (17 : Int32) = nI 17 := Int32.toBitVec_inj.mp rfl
theorem kn_18 : (18 : Int32) = nI 18 := Int32.toBitVec_inj.mp rfl
theorem kn_19 : (19 : Int32) = nI 19 := Int32.toBitVec_inj.mp rfl
theorem kn_20 : (20 : Int32) = nI 20 := Int32.toBitVec_inj.mp rfl
theorem kn_21 : (21 : Int32) = nI 21 := Int32.toBitVec_inj.mp rfl
theorem kn_22 : (22 : Int32) = nI 22 := Int32.toBitVec_inj.mp rfl
theorem kn_23 : (23 : Int32) = nI 23 := Int32.toBitVec_inj.mp rfl
theorem kn_24 : (24 : Int32) = nI 24 := Int32.toBitVec_inj.mp rfl
theorem kn_25 : (25 : Int32) = nI 25 := Int32.toBitVec_inj.mp rfl
theorem kn_26 : (26 : Int32) = nI 26 := Int32.toBitVec_inj.mp rfl
theorem kn_27 : (27 : Int32) = nI 27 := Int32.toBitVec_inj.mp rfl
theorem kn_28 : (28 : Int32) = nI 28 := Int32.toBitVec_inj.mp rfl
theorem kn_29 : (29 : Int32) = nI 29 := Int32.toBitVec_inj.mp rfl
theorem kn_30 : (30 : Int32) = nI 30 := Int32.toBitVec_inj.mp rfl
theorem kn_31 : (31 : Int32) = nI 31 := Int32.toBitVec_inj.mp rfl
theorem kn_32 : (32 : Int32) = nI 32 := Int32.toBitVec_inj.mp rfl
theorem kn_33 : (33 : Int32) = nI 33 := Int32.toBitVec_inj.mp rfl
theorem kn_34 : (34 : Int32) = nI 34 := Int32.toBitVec_inj.mp rfl
theorem kn_35 : (35 : Int32) = nI 35 := Int32.toBitVec_inj.mp rfl
theorem kn_36 : (36 : Int32) = nI 36 := Int32.toBitVec_inj.mp rfl
theorem kn_37 : (37 : Int32) = nI 37 := Int32.toBitVec_inj.mp rfl
theorem kn_38 : (38 : Int32) = nI 38 := Int32.toBitVec_inj.mp rfl
theorem kn_39 : (39 : Int32) = nI 39 := Int32.toBitVec_inj.mp rfl
theorem kn_40 : (40 : Int32) = nI 40 := Int32.toBitVec_inj.mp rfl
theorem kn_41 : (41 : Int32) = nI 41 := Int32.toBitVec_inj.mp rfl
theorem kn_42 : (42 : Int32) = nI 42 := Int32.toBitVec_inj.mp rfl
theorem kn_43 : (43 : Int32) = nI 43 := Int32.toBitVec_inj.mp rfl
theorem kn_44 : (44 : Int32) = nI 44 := Int32.toBitVec_inj.mp rfl
theorem kn_45 : (45 : Int32) = nI 45 := Int32.toBitVec_inj.mp rfl
theorem kn_46 : (46 : Int32) = nI 46 := Int32.toBitVec_inj.mp rfl
theorem kn_47 : (47 : Int32) = nI 47 := Int32.toBitVec_inj.mp rfl
theorem kn_48 : (48 : Int32) = nI 48 := Int32.toBitVec_inj.mp rfl
theorem kn_49 : (49 : Int32) = nI 49 := Int32.toBitVec_inj.mp rfl
theorem kn_50 : (50 : Int32) = nI 50 := Int32.toBitVec_inj.mp rfl
theorem kn_51 : (51 : Int32) = nI 51 := Int32.toBitVec_inj.mp rfl
theorem kn_52 : (52 : Int32) = nI 52 := Int32.toBitVec_inj.mp rfl
theorem kn_53 : (53 : Int32) = nI 53 := Int32.toBitVec_inj.mp rfl
theorem kn_54 : (54 : Int32) = nI 54 := Int32.toBitVec_inj.mp rfl
theorem kn_55 : (55 : Int32) = nI 55 := Int32.toBitVec_inj.mp rfl
theorem kn_56 : (56 : Int32) = nI 56 := Int32.toBitVec_inj.mp rfl
theorem kn_57 : (57 : Int32) = nI 57 := Int32.toBitVec_inj.mp rfl
theorem kn_58 : (58 : Int32) = nI 58 := Int32.toBitVec_inj.mp rfl
theorem kn_59 : (59 : Int32) = nI 59 := Int32.toBitVec_inj.mp rfl
theorem kn_60 : (60 : Int32) = nI 60 := Int32.toBitVec_inj.mp rfl
theorem kn_61 : (61 : Int32) = nI 61 := Int32.toBitVec_inj.mp rfl
theorem kn_62 : (62 : Int32) = nI 62 := Int32.toBitVec_inj.mp rfl
theorem kn_63 : (63 : Int32) = nI 63 := Int32.toBitVec_inj.mp rfl
theorem kn_64 : (64 : Int32) = nI 64 := Int32.toBitVec_inj.mp rfl
theorem kn_65 : (65 : Int32) = nI 65 := Int32.toBitVec_inj.mp rfl
theorem kn_66 : (66 : Int32) = nI 66 := Int32.toBitVec_inj.mp rfl
theorem kn_67 : (67 : Int32) = nI 67 := Int32.toBitVec_inj.mp rfl
theorem kn_68 : (68 : Int32) = nI 68 := Int32.toBitVec_inj.mp rfl
theorem kn_69 : (69 : Int32) = nI 69 := Int32.toBitVec_inj.mp rfl
theorem kn_70 : (70 : Int32) = nI 70 := Int32.toBitVec_inj.mp rfl
theorem kn_71 : (71 : Int32) = nI 71 := Int32.toBitVec_inj.mp rfl
theorem kn_72 : (72 : Int32) = nI 72 := Int32.toBitVec_inj.mp rfl
theorem kn_73 : (73 : Int32) = nI 73 := Int32.toBitVec_inj.mp rfl
theorem kn_74 : (74 : Int32) = nI 74 := Int32.toBitVec_inj.mp rfl
theorem kn_75 : (75 : Int32) = nI 75 := Int32.toBitVec_inj.mp rfl
theorem kn_76 : (76 : Int32) = nI 76 := Int32.toBitVec_inj.mp rfl
theorem kn_77 : (77 : Int32) = nI 77 := Int32.toBitVec_inj.mp rfl
theorem kn_78 : (78 : Int32) = nI 78 := Int32.toBitVec_inj.mp rfl
theorem kn_79 : (79 : Int32) = nI 79 := Int32.toBitVec_inj.mp rfl
theorem kn_80 : (80 : Int32) = nI 80 := Int32.toBitVec_inj.mp rfl
theorem kn_81 : (81 : Int32) = nI 81 := Int32.toBitVec_inj.mp rfl
theorem kn_82 : (82 : Int32) = nI 82 := Int32.toBitVec_inj.mp rfl
theorem kn_83 : (83 : Int32) = nI 83 := Int32.toBitVec_inj.mp rfl
theorem kn_84 : (84 : Int32) = nI 84 := Int32.toBitVec_inj.mp rfl
theorem kn_85 : (85 : Int32) = nI 85 := Int32.toBitVec_inj.mp rfl
theorem kn_86 : (86 : Int32) = nI 86 := Int32.toBitVec_inj.mp rfl
theorem kn_87 : (87 : Int32) = nI 87 := Int32.toBitVec_inj.mp rfl
theorem kn_88 : (88 : Int32) = nI 88 := Int32.toBitVec_inj.mp rfl
theorem kn_89 : (89 : Int32) = nI 89 := Int32.toBitVec_inj.mp rfl
theorem kn_90 : (90 : Int32) = nI 90 := Int32.toBitVec_inj.mp rfl
theorem kn_91 : (91 : Int32) = nI 91 := Int32.toBitVec_inj.mp rfl
theorem kn_92 : (92 : Int32) = nI 92 := Int32.toBitVec_inj.mp rfl
theorem kn_93 : (93 : Int32) = nI 93 := Int32.toBitVec_inj.mp rfl
theorem kn_94 : (94 : Int32) = nI 94 := Int32.toBitVec_inj.mp rfl
theorem kn_95 : (95 : Int32) = nI 95 := Int32.toBitVec_inj.mp rfl
theorem kn_96 : (96 : Int32) = nI 96 := Int32.toBitVec_inj.mp rfl
theorem kn_97 : (97 : Int32) = nI 97 := Int32.toBitVec_inj.mp rfl
theorem kn_98 : (98 : Int32) = nI 98 := Int32.toBitVec_inj.mp rfl
theorem kn_99 : (99 : Int32) = nI 99 := Int32.toBitVec_inj.mp rfl
theorem kn_100 : (100 : Int32) = nI 100 := Int32.toBitVec_inj.mp rfl
theorem kn_101 : (101 : Int32) = nI 101 := Int32.toBitVec_inj.mp rfl
theorem kn_102 : (102 : Int32) = nI 102 := Int32.toBitVec_inj.mp rfl
theorem kn_103 : (103 : Int32) = nI 103 := Int32.toBitVec_inj.mp rfl
theorem kn_104 : (104 : Int32) = nI 104 := Int32.toBitVec_inj.mp rfl
theorem kn_105 : (105 : Int32) = nI 105 := Int32.toBitVec_inj.mp rfl
theorem kn_106 : (106 : Int32) = nI 106 := Int32.toBitVec_inj.mp rfl
theorem kn_107 : (107 : Int32) = nI 107 := Int32.toBitVec_inj.mp rfl
theorem kn_108 : (108 : Int32) = nI 108 := Int32.toBitVec_inj.mp rfl
theorem kn_109 : (109 : Int32) = nI 109 := Int32.toBitVec_inj.mp rfl
theorem kn_110 : (110 : Int32) = nI 110 := Int32.toBitVec_inj.mp rfl
theorem kn_111 : (111 : Int32) = nI 111 := Int32.toBitVec_inj.mp rfl
theorem kn_112 : (112 : Int32) = nI 112 := Int32.toBitVec_inj.mp rfl
theorem kn_113 : (113 : Int32) = nI 113 := Int32.toBitVec_inj.mp rfl
theorem kn_114 : (114 : Int32) = nI 114 := Int32.toBitVec_inj.mp rfl
theorem kn_115 : (115 : Int32) = nI 115 := Int32.toBitVec_inj.mp rfl
theorem kn_116 : (116 : Int32) = nI 116 := Int32.toBitVec_inj.mp rfl
theorem kn_117 : (117 : Int32) = nI 117 := Int32.toBitVec_inj.mp rfl
theorem kn_118 : (118 : Int32) = nI 118 := Int32.toBitVec_inj.mp rfl
theorem kn_119 : (119 : Int32) = nI 119 := Int32.toBitVec_inj.mp rfl
theorem kn_120 : (120 : Int32) = nI 120 := Int32.toBitVec_inj.mp rfl
theorem kn_121 : (121 : Int32) = nI 121 := Int32.toBitVec_inj.mp rfl
theorem kn_122 : (122 : Int32) = nI 122 := Int32.toBitVec_inj.mp rfl
theorem kn_123 : (123 : Int32) = nI 123 := Int32.toBitVec_inj.mp rfl
theorem kn_124 : (124 : Int32) = nI 124 := Int32.toBitVec_inj.mp rfl
theorem kn_125 : (125 : Int32) = nI 125 := Int32.toBitVec_inj.mp rfl
theorem kn_126 : (126 : Int32) = nI 126 := Int32.toBitVec_inj.mp rfl
theorem kn_127 : (127 : Int32) = nI 127 := Int32.toBitVec_inj.mp rfl
theorem kn_204 : (204 : Int32) = nI 204 := Int32.toBitVec_inj.mp rfl
theorem kn_255 : (255 : Int32) = nI 255 := Int32.toBitVec_inj.mp rfl
theorem k_b0 (b : Bool) : (k_b b = 0) = (b = false) := by cases b <;> simp [k_b]
theorem k_b1 (b : Bool) : (k_b b = nI 0) = (b = false) := k_b0 b
theorem k_bs {α γ : Type} (a : α) (f : α → Option γ) : k_bd (some a) f = f a := rfl
theorem kn_m {p : Nat} (h : 0 < p) : nI p + -nI 1 = nI (p - 1) := sb_m1 h
theorem kn_m' {p : Nat} (h : 0 < p) : nI p + (-1) = nI (p - 1) := sb_m1 h
theorem k_mx {a b : Nat} (ha : a < 2 ^ 31) (hb : b < 2 ^ 31) : k_max (nI a) (nI b) = nI (Nat.max a b) := by
  unfold k_max
  by_cases c : a < b
  · rw [if_pos ((nI_ltI ha hb).mpr c), show Nat.max a b = b from Nat.max_eq_right (by omega)]
  · rw [if_neg (fun h => c ((nI_ltI ha hb).mp h)), show Nat.max a b = a from Nat.max_eq_left (by omega)]
theorem k_mx0 {w d : Nat} (hw : w < 100) (hd : d < 100) : k_max (nI 0) (nI w - nI d) = nI (w - d) := by
  by_cases c : d ≤ w
  · rw [pk_sub c, k_mx (by omega) (by omega)]
    congr 1
  · unfold k_max
    have h1 : nI w - nI d < 0 := pk_sneg (by omega) (by omega)
    have h2 : ¬ nI 0 < nI w - nI d := fun h => absurd (Int32.lt_trans h h1) (Int32.lt_irrefl)
    rw [if_neg h2, show w - d = 0 by omega]
theorem b_ok_le' {f : Nat → Nat} (h : b_ok f) {i : Nat} (hi : i < 18) : f i ≤ 6 := b_ok_le h hi
theorem k_fix1 {F : Type} {z : F} {st : F → F} {n : Nat} (h : 0 < n) : k_fix z st n = st (k_fix z st (n - 1)) := by
  cases n with
  | zero => omega
  | succ n => rfl
theorem k_F1 {F : Type} {z : F} {st : F → F} : k_fix z st k_F = st (k_fix z st 4095) := rfl
theorem k_g_in {α : Type} {n N : Nat} {k : Option α} (h : n < N) (hN : N < 2 ^ 31) : k_g (nI n) N k = k := by
  unfold k_g
  exact if_neg (nI_in h hN)
theorem kI_ne0 {n : Nat} (h0 : 0 < n) (h : n < 2 ^ 31) : ¬ nI n = nI 0 := nI_ne0 h0 h
theorem kI_nle {n : Nat} (h0 : 0 < n) (h : n < 2 ^ 31) : ¬ nI n ≤ nI 0 := nI_nle h0 h
theorem kI_neq {a b : Nat} (h : a ≠ b) (ha : a < 2 ^ 31) (hb : b < 2 ^ 31) : ¬ nI a = nI b := fun q => h ((nI_eq ha hb).mp q)
