def k_bd15 {A0 A1 A2 A3 A4 A5 A6 A7 A8 A9 A10 A11 A12 A13 A14 γ : Type} (x : Option (A0 × A1 × A2 × A3 × A4 × A5 × A6 × A7 × A8 × A9 × A10 × A11 × A12 × A13 × A14)) (f : A0 → A1 → A2 → A3 → A4 → A5 → A6 → A7 → A8 → A9 → A10 → A11 → A12 → A13 → A14 → Option γ) : Option γ := k_bd x (fun q => f (q.1) (q.2.1) (q.2.2.1) (q.2.2.2.1) (q.2.2.2.2.1) (q.2.2.2.2.2.1) (q.2.2.2.2.2.2.1) (q.2.2.2.2.2.2.2.1) (q.2.2.2.2.2.2.2.2.1) (q.2.2.2.2.2.2.2.2.2.1) (q.2.2.2.2.2.2.2.2.2.2.1) (q.2.2.2.2.2.2.2.2.2.2.2.1) (q.2.2.2.2.2.2.2.2.2.2.2.2.1) (q.2.2.2.2.2.2.2.2.2.2.2.2.2.1) (q.2.2.2.2.2.2.2.2.2.2.2.2.2.2))
theorem k_bd15s {A0 A1 A2 A3 A4 A5 A6 A7 A8 A9 A10 A11 A12 A13 A14 γ : Type} {x : Option (A0 × A1 × A2 × A3 × A4 × A5 × A6 × A7 × A8 × A9 × A10 × A11 × A12 × A13 × A14)} {f : A0 → A1 → A2 → A3 → A4 → A5 → A6 → A7 → A8 → A9 → A10 → A11 → A12 → A13 → A14 → Option γ} {r : γ} (h : k_bd15 x f = some r) : ∃ a0 a1 a2 a3 a4 a5 a6 a7 a8 a9 a10 a11 a12 a13 a14, x = some (a0, a1, a2, a3, a4, a5, a6, a7, a8, a9, a10, a11, a12, a13, a14) ∧ f a0 a1 a2 a3 a4 a5 a6 a7 a8 a9 a10 a11 a12 a13 a14 = some r := by
  obtain ⟨q, h1, h2⟩ := k_bds h
  exact ⟨q.1, q.2.1, q.2.2.1, q.2.2.2.1, q.2.2.2.2.1, q.2.2.2.2.2.1, q.2.2.2.2.2.2.1, q.2.2.2.2.2.2.2.1, q.2.2.2.2.2.2.2.2.1, q.2.2.2.2.2.2.2.2.2.1, q.2.2.2.2.2.2.2.2.2.2.1, q.2.2.2.2.2.2.2.2.2.2.2.1, q.2.2.2.2.2.2.2.2.2.2.2.2.1, q.2.2.2.2.2.2.2.2.2.2.2.2.2.1, q.2.2.2.2.2.2.2.2.2.2.2.2.2.2, h1, h2⟩
theorem k_bd15_some {A0 A1 A2 A3 A4 A5 A6 A7 A8 A9 A10 A11 A12 A13 A14 γ : Type} {x : Option (A0 × A1 × A2 × A3 × A4 × A5 × A6 × A7 × A8 × A9 × A10 × A11 × A12 × A13 × A14)} {f : A0 → A1 → A2 → A3 → A4 → A5 → A6 → A7 → A8 → A9 → A10 → A11 → A12 → A13 → A14 → Option γ} {a0 : A0} {a1 : A1} {a2 : A2} {a3 : A3} {a4 : A4} {a5 : A5} {a6 : A6} {a7 : A7} {a8 : A8} {a9 : A9} {a10 : A10} {a11 : A11} {a12 : A12} {a13 : A13} {a14 : A14} (h : x = some (a0, a1, a2, a3, a4, a5, a6, a7, a8, a9, a10, a11, a12, a13, a14)) : k_bd15 x f = f a0 a1 a2 a3 a4 a5 a6 a7 a8 a9 a10 a11 a12 a13 a14 := by rw [h]; rfl
def k_bd16 {A0 A1 A2 A3 A4 A5 A6 A7 A8 A9 A10 A11 A12 A13 A14 A15 γ : Type} (x : Option (A0 × A1 × A2 × A3 × A4 × A5 × A6 × A7 × A8 × A9 × A10 × A11 × A12 × A13 × A14 × A15)) (f : A0 → A1 → A2 → A3 → A4 → A5 → A6 → A7 → A8 → A9 → A10 → A11 → A12 → A13 → A14 → A15 → Option γ) : Option γ := k_bd x (fun q => f (q.1) (q.2.1) (q.2.2.1) (q.2.2.2.1) (q.2.2.2.2.1) (q.2.2.2.2.2.1) (q.2.2.2.2.2.2.1) (q.2.2.2.2.2.2.2.1) (q.2.2.2.2.2.2.2.2.1) (q.2.2.2.2.2.2.2.2.2.1) (q.2.2.2.2.2.2.2.2.2.2.1) (q.2.2.2.2.2.2.2.2.2.2.2.1) (q.2.2.2.2.2.2.2.2.2.2.2.2.1) (q.2.2.2.2.2.2.2.2.2.2.2.2.2.1) (q.2.2.2.2.2.2.2.2.2.2.2.2.2.2.1) (q.2.2.2.2.2.2.2.2.2.2.2.2.2.2.2))
theorem k_bd16s {A0 A1 A2 A3 A4 A5 A6 A7 A8 A9 A10 A11 A12 A13 A14 A15 γ : Type} {x : Option (A0 × A1 × A2 × A3 × A4 × A5 × A6 × A7 × A8 × A9 × A10 × A11 × A12 × A13 × A14 × A15)} {f : A0 → A1 → A2 → A3 → A4 → A5 → A6 → A7 → A8 → A9 → A10 → A11 → A12 → A13 → A14 → A15 → Option γ} {r : γ} (h : k_bd16 x f = some r) : ∃ a0 a1 a2 a3 a4 a5 a6 a7 a8 a9 a10 a11 a12 a13 a14 a15, x = some (a0, a1, a2, a3, a4, a5, a6, a7, a8, a9, a10, a11, a12, a13, a14, a15) ∧ f a0 a1 a2 a3 a4 a5 a6 a7 a8 a9 a10 a11 a12 a13 a14 a15 = some r := by
  obtain ⟨q, h1, h2⟩ := k_bds h
  exact ⟨q.1, q.2.1, q.2.2.1, q.2.2.2.1, q.2.2.2.2.1, q.2.2.2.2.2.1, q.2.2.2.2.2.2.1, q.2.2.2.2.2.2.2.1, q.2.2.2.2.2.2.2.2.1, q.2.2.2.2.2.2.2.2.2.1, q.2.2.2.2.2.2.2.2.2.2.1, q.2.2.2.2.2.2.2.2.2.2.2.1, q.2.2.2.2.2.2.2.2.2.2.2.2.1, q.2.2.2.2.2.2.2.2.2.2.2.2.2.1, q.2.2.2.2.2.2.2.2.2.2.2.2.2.2.1, q.2.2.2.2.2.2.2.2.2.2.2.2.2.2.2, h1, h2⟩
theorem k_bd16_some {A0 A1 A2 A3 A4 A5 A6 A7 A8 A9 A10 A11 A12 A13 A14 A15 γ : Type} {x : Option (A0 × A1 × A2 × A3 × A4 × A5 × A6 × A7 × A8 × A9 × A10 × A11 × A12 × A13 × A14 × A15)} {f : A0 → A1 → A2 → A3 → A4 → A5 → A6 → A7 → A8 → A9 → A10 → A11 → A12 → A13 → A14 → A15 → Option γ} {a0 : A0} {a1 : A1} {a2 : A2} {a3 : A3} {a4 : A4} {a5 : A5} {a6 : A6} {a7 : A7} {a8 : A8} {a9 : A9} {a10 : A10} {a11 : A11} {a12 : A12} {a13 : A13} {a14 : A14} {a15 : A15} (h : x = some (a0, a1, a2, a3, a4, a5, a6, a7, a8, a9, a10, a11, a12, a13, a14, a15)) : k_bd16 x f = f a0 a1 a2 a3 a4 a5 a6 a7 a8 a9 a10 a11 a12 a13 a14 a15 := by rw [h]; rfl
def k_bd17 {A0 A1 A2 A3 A4 A5 A6 A7 A8 A9 A10 A11 A12 A13 A14 A15 A16 γ : Type} (x : Option (A0 × A1 × A2 × A3 × A4 × A5 × A6 × A7 × A8 × A9 × A10 × A11 × A12 × A13 × A14 × A15 × A16)) (f : A0 → A1 → A2 → A3 → A4 → A5 → A6 → A7 → A8 → A9 → A10 → A11 → A12 → A13 → A14 → A15 → A16 → Option γ) : Option γ := k_bd x (fun q => f (q.1) (q.2.1) (q.2.2.1) (q.2.2.2.1) (q.2.2.2.2.1) (q.2.2.2.2.2.1) (q.2.2.2.2.2.2.1) (q.2.2.2.2.2.2.2.1) (q.2.2.2.2.2.2.2.2.1) (q.2.2.2.2.2.2.2.2.2.1) (q.2.2.2.2.2.2.2.2.2.2.1) (q.2.2.2.2.2.2.2.2.2.2.2.1) (q.2.2.2.2.2.2.2.2.2.2.2.2.1) (q.2.2.2.2.2.2.2.2.2.2.2.2.2.1) (q.2.2.2.2.2.2.2.2.2.2.2.2.2.2.1) (q.2.2.2.2.2.2.2.2.2.2.2.2.2.2.2.1) (q.2.2.2.2.2.2.2.2.2.2.2.2.2.2.2.2))
theorem k_bd17s {A0 A1 A2 A3 A4 A5 A6 A7 A8 A9 A10 A11 A12 A13 A14 A15 A16 γ : Type} {x : Option (A0 × A1 × A2 × A3 × A4 × A5 × A6 × A7 × A8 × A9 × A10 × A11 × A12 × A13 × A14 × A15 × A16)} {f : A0 → A1 → A2 → A3 → A4 → A5 → A6 → A7 → A8 → A9 → A10 → A11 → A12 → A13 → A14 → A15 → A16 → Option γ} {r : γ} (h : k_bd17 x f = some r) : ∃ a0 a1 a2 a3 a4 a5 a6 a7 a8 a9 a10 a11 a12 a13 a14 a15 a16, x = some (a0, a1, a2, a3, a4, a5, a6, a7, a8, a9, a10, a11, a12, a13, a14, a15, a16) ∧ f a0 a1 a2 a3 a4 a5 a6 a7 a8 a9 a10 a11 a12 a13 a14 a15 a16 = some r := by
  obtain ⟨q, h1, h2⟩ := k_bds h
  exact ⟨q.1, q.2.1, q.2.2.1, q.2.2.2.1, q.2.2.2.2.1, q.2.2.2.2.2.1, q.2.2.2.2.2.2.1, q.2.2.2.2.2.2.2.1, q.2.2.2.2.2.2.2.2.1, q.2.2.2.2.2.2.2.2.2.1, q.2.2.2.2.2.2.2.2.2.2.1, q.2.2.2.2.2.2.2.2.2.2.2.1, q.2.2.2.2.2.2.2.2.2.2.2.2.1, q.2.2.2.2.2.2.2.2.2.2.2.2.2.1, q.2.2.2.2.2.2.2.2.2.2.2.2.2.2.1, q.2.2.2.2.2.2.2.2.2.2.2.2.2.2.2.1, q.2.2.2.2.2.2.2.2.2.2.2.2.2.2.2.2, h1, h2⟩
theorem k_bd17_some {A0 A1 A2 A3 A4 A5 A6 A7 A8 A9 A10 A11 A12 A13 A14 A15 A16 γ : Type} {x : Option (A0 × A1 × A2 × A3 × A4 × A5 × A6 × A7 × A8 × A9 × A10 × A11 × A12 × A13 × A14 × A15 × A16)} {f : A0 → A1 → A2 → A3 → A4 → A5 → A6 → A7 → A8 → A9 → A10 → A11 → A12 → A13 → A14 → A15 → A16 → Option γ} {a0 : A0} {a1 : A1} {a2 : A2} {a3 : A3} {a4 : A4} {a5 : A5} {a6 : A6} {a7 : A7} {a8 : A8} {a9 : A9} {a10 : A10} {a11 : A11} {a12 : A12} {a13 : A13} {a14 : A14} {a15 : A15} {a16 : A16} (h : x = some (a0, a1, a2, a3, a4, a5, a6, a7, a8, a9, a10, a11, a12, a13, a14, a15, a16)) : k_bd17 x f = f a0 a1 a2 a3 a4 a5 a6 a7 a8 a9 a10 a11 a12 a13 a14 a15 a16 := by rw [h]; rfl
abbrev XT := Bool × Int32 × GT × (Nat → GT) × GT × (Nat → Int32) × Int32
abbrev MT := (Nat → Int32) × (Nat → Int32) × (Int32) × (Nat → Int32) × (Bool) × (Nat → Int32) × (Nat → Int32) × (Int32) × (Int32) × (Nat → Int32) × (Int32) × (Bool) × (Bool) × (Nat → Int64) × (Nat → Int64) × (Int32) × (Nat → Int64) × (Nat → Int64) × (Nat → Int32) × (Int64)
abbrev wXt (cI cJ cC cG : ClassId) (h9 hn : Nat) (ap q ht : Nat → Nat) (h0 : Nat) (pa pb pc : Nat → Nat) (jk : JT) (x : XT) : va_W := wX cI cJ cC cG h9 hn ap q ht h0 pa pb pc jk (x.1) (x.2.1) (x.2.2.1) (x.2.2.2.1) (x.2.2.2.2.1.1) (x.2.2.2.2.1.2.1) (x.2.2.2.2.1.2.2.1) (x.2.2.2.2.1.2.2.2.1) (x.2.2.2.2.1.2.2.2.2.1) (x.2.2.2.2.1.2.2.2.2.2.1) (x.2.2.2.2.1.2.2.2.2.2.2.1) (x.2.2.2.2.1.2.2.2.2.2.2.2.1) (x.2.2.2.2.1.2.2.2.2.2.2.2.2.1) (x.2.2.2.2.1.2.2.2.2.2.2.2.2.2.1) (x.2.2.2.2.1.2.2.2.2.2.2.2.2.2.2.1) (x.2.2.2.2.1.2.2.2.2.2.2.2.2.2.2.2.1) (x.2.2.2.2.1.2.2.2.2.2.2.2.2.2.2.2.2) (x.2.2.2.2.2.1) (x.2.2.2.2.2.2)
abbrev wMt (cI cJ : ClassId) (ad : Nat → Nat) (m : MT) : va_W := wM cI cJ ad (m.1) (m.2.1) (m.2.2.1) (m.2.2.2.1) (m.2.2.2.2.1) (m.2.2.2.2.2.1) (m.2.2.2.2.2.2.1) (m.2.2.2.2.2.2.2.1) (m.2.2.2.2.2.2.2.2.1) (m.2.2.2.2.2.2.2.2.2.1) (m.2.2.2.2.2.2.2.2.2.2.1) (m.2.2.2.2.2.2.2.2.2.2.2.1) (m.2.2.2.2.2.2.2.2.2.2.2.2.1) (m.2.2.2.2.2.2.2.2.2.2.2.2.2.1) (m.2.2.2.2.2.2.2.2.2.2.2.2.2.2.1) (m.2.2.2.2.2.2.2.2.2.2.2.2.2.2.2.1) (m.2.2.2.2.2.2.2.2.2.2.2.2.2.2.2.2.1) (m.2.2.2.2.2.2.2.2.2.2.2.2.2.2.2.2.2.1) (m.2.2.2.2.2.2.2.2.2.2.2.2.2.2.2.2.2.2.1) (m.2.2.2.2.2.2.2.2.2.2.2.2.2.2.2.2.2.2.2)
def thr (m : MT) : Int32 := m.2.2.2.2.2.2.2.2.1
def XN_roll (x : XT) (p0 : Int32) (p1 : Int32) : Option (Int32 × XT) := k_bd5 (mX9_roll (x.2.1) (x.2.2.2.1) (x.2.2.2.2.1.1) (x.2.2.2.2.1.2.1) (x.2.2.2.2.1.2.2.1) (x.2.2.2.2.1.2.2.2.1) (x.2.2.2.2.1.2.2.2.2.1) (x.2.2.2.2.1.2.2.2.2.2.1) (x.2.2.2.2.1.2.2.2.2.2.2.1) (x.2.2.2.2.1.2.2.2.2.2.2.2.1) (x.2.2.2.2.1.2.2.2.2.2.2.2.2.1) (x.2.2.2.2.1.2.2.2.2.2.2.2.2.2.1) (x.2.2.2.2.1.2.2.2.2.2.2.2.2.2.2.1) (x.2.2.2.2.1.2.2.2.2.2.2.2.2.2.2.2.1) (x.2.2.2.2.1.2.2.2.2.2.2.2.2.2.2.2.2) p0 p1) (fun r w_cnt w_G w_c_phase w_c_dice => some (r, ((x.1), w_cnt, (x.2.2.1), w_G, ((x.2.2.2.2.1.1), w_c_phase, w_c_dice, (x.2.2.2.2.1.2.2.2.1), (x.2.2.2.2.1.2.2.2.2.1), (x.2.2.2.2.1.2.2.2.2.2.1), (x.2.2.2.2.1.2.2.2.2.2.2.1), (x.2.2.2.2.1.2.2.2.2.2.2.2.1), (x.2.2.2.2.1.2.2.2.2.2.2.2.2.1), (x.2.2.2.2.1.2.2.2.2.2.2.2.2.2.1), (x.2.2.2.2.1.2.2.2.2.2.2.2.2.2.2.1), (x.2.2.2.2.1.2.2.2.2.2.2.2.2.2.2.2.1), (x.2.2.2.2.1.2.2.2.2.2.2.2.2.2.2.2.2)), (x.2.2.2.2.2.1), (x.2.2.2.2.2.2))))
theorem zB_roll {l : Launch} {D : va_G} {cI cJ cC cG : ClassId} {sz : Nat} {h9 hn h0 : Nat} {ap q ht pa pb pc : Nat → Nat} {jk : JT} {x : XT} {oa : Nat} {out : Nat → Int64} {p0 : Int32} {p1 : Int32} {r : Int32} {x' : XT} (hm : XN_roll x p0 p1 = some (r, x')) : k_MiE l yL_roll wsL_roll rmL_roll D (kT cI cJ cC cG) sz ([.ref h9, .int p0, .int p1, .ref oa] : List Value) (wXt cI cJ cC cG h9 hn ap q ht h0 pa pb pc jk x ++ wO cJ oa out) (fun u : (Nat → Nat) × (Nat → Nat) × (Nat → Nat) × (JT) => wXt cI cJ cC cG h9 hn ap (u.1) ht h0 (u.2.1) (u.2.2.1) pc (u.2.2.2) x' ++ wO cJ oa (vp_updL out (Int32.toNatClampNeg 0) (Int32.toInt64 r))) 0 := by
  unfold XN_roll at hm
  obtain ⟨r, w_cnt, w_G, w_c_phase, w_c_dice, hm9, e⟩ := k_bd5s hm
  cases e
  exact zL_roll hm9
def XT_roll (x : XT) (p0 : Int32) (p1 : Int32) : Option String := mT9_roll (x.2.1) (x.2.2.2.1) (x.2.2.2.2.1.1) (x.2.2.2.2.1.2.1) (x.2.2.2.2.1.2.2.1) (x.2.2.2.2.1.2.2.2.1) (x.2.2.2.2.1.2.2.2.2.1) (x.2.2.2.2.1.2.2.2.2.2.1) (x.2.2.2.2.1.2.2.2.2.2.2.1) (x.2.2.2.2.1.2.2.2.2.2.2.2.1) (x.2.2.2.2.1.2.2.2.2.2.2.2.2.1) (x.2.2.2.2.1.2.2.2.2.2.2.2.2.2.1) (x.2.2.2.2.1.2.2.2.2.2.2.2.2.2.2.1) (x.2.2.2.2.1.2.2.2.2.2.2.2.2.2.2.2.1) (x.2.2.2.2.1.2.2.2.2.2.2.2.2.2.2.2.2) p0 p1
def MN_roll (m : MT) (p0 : Int32) (p1 : Int32) : Option (Int32 × MT) := k_bd5 (mX10_roll (m.1) (m.2.1) (m.2.2.1) (m.2.2.2.2.2.2.2.2.1) p0 p1) (fun r w_c_s w_c_before w_c_known w_c_thrown => some (r, (w_c_s, w_c_before, w_c_known, (m.2.2.2.1), (m.2.2.2.2.1), (m.2.2.2.2.2.1), (m.2.2.2.2.2.2.1), (m.2.2.2.2.2.2.2.1), w_c_thrown, (m.2.2.2.2.2.2.2.2.2.1), (m.2.2.2.2.2.2.2.2.2.2.1), (m.2.2.2.2.2.2.2.2.2.2.2.1), (m.2.2.2.2.2.2.2.2.2.2.2.2.1), (m.2.2.2.2.2.2.2.2.2.2.2.2.2.1), (m.2.2.2.2.2.2.2.2.2.2.2.2.2.2.1), (m.2.2.2.2.2.2.2.2.2.2.2.2.2.2.2.1), (m.2.2.2.2.2.2.2.2.2.2.2.2.2.2.2.2.1), (m.2.2.2.2.2.2.2.2.2.2.2.2.2.2.2.2.2.1), (m.2.2.2.2.2.2.2.2.2.2.2.2.2.2.2.2.2.2.1), (m.2.2.2.2.2.2.2.2.2.2.2.2.2.2.2.2.2.2.2))))
theorem zM_roll {l : Launch} {D : va_G} {cI cJ cC cG : ClassId} {sz : Nat} {ad : Nat → Nat} {m : MT} {p0 : Int32} {p1 : Int32} {r : Int32} {m' : MT} (hm : MN_roll m p0 p1 = some (r, m')) : k_Mi l yX10_roll wsX10_roll rmX10_roll D (kT cI cJ cC cG) sz ([.ref (ad 0), .int p0, .int p1] : List Value) (wMt cI cJ ad m) (wMt cI cJ ad m') r := by
  unfold MN_roll at hm
  obtain ⟨r, w_c_s, w_c_before, w_c_known, w_c_thrown, hm9, e⟩ := k_bd5s hm
  cases e
  exact zX10_roll hm9
def XN_step (x : XT) (p0 : Int32) (p1 : Int32) : Option (Bool × XT) := k_bd11 (mX9_step (x.2.1) (x.2.2.2.1) (x.2.2.2.2.1.1) (x.2.2.2.2.1.2.1) (x.2.2.2.2.1.2.2.1) (x.2.2.2.2.1.2.2.2.1) (x.2.2.2.2.1.2.2.2.2.1) (x.2.2.2.2.1.2.2.2.2.2.1) (x.2.2.2.2.1.2.2.2.2.2.2.1) (x.2.2.2.2.1.2.2.2.2.2.2.2.1) (x.2.2.2.2.1.2.2.2.2.2.2.2.2.1) (x.2.2.2.2.1.2.2.2.2.2.2.2.2.2.1) (x.2.2.2.2.1.2.2.2.2.2.2.2.2.2.2.1) (x.2.2.2.2.1.2.2.2.2.2.2.2.2.2.2.2.1) (x.2.2.2.2.1.2.2.2.2.2.2.2.2.2.2.2.2) p0 p1) (fun r w_cnt w_G w_c_phase w_c_dice w_c_pieces0 w_c_pieces1 w_c_score0 w_c_score1 w_c_hits0 w_c_hits1 => some (r, ((x.1), w_cnt, (x.2.2.1), w_G, ((x.2.2.2.2.1.1), w_c_phase, w_c_dice, (x.2.2.2.2.1.2.2.2.1), (x.2.2.2.2.1.2.2.2.2.1), w_c_pieces0, w_c_pieces1, w_c_score0, w_c_score1, w_c_hits0, w_c_hits1, (x.2.2.2.2.1.2.2.2.2.2.2.2.2.2.2.2.1), (x.2.2.2.2.1.2.2.2.2.2.2.2.2.2.2.2.2)), (x.2.2.2.2.2.1), (x.2.2.2.2.2.2))))
theorem zB_step {l : Launch} {D : va_G} {cI cJ cC cG : ClassId} {sz : Nat} {h9 hn h0 : Nat} {ap q ht pa pb pc : Nat → Nat} {jk : JT} {x : XT} {oa : Nat} {out : Nat → Int64} {p0 : Int32} {p1 : Int32} {r : Bool} {x' : XT} (hm : XN_step x p0 p1 = some (r, x')) : k_MiE l yL_step wsL_step rmL_step D (kT cI cJ cC cG) sz ([.ref h9, .int p0, .int p1, .ref oa] : List Value) (wXt cI cJ cC cG h9 hn ap q ht h0 pa pb pc jk x ++ wO cJ oa out) (fun u : (Nat → Nat) × (Nat → Nat) × (Nat → Nat) × (JT) => wXt cI cJ cC cG h9 hn ap (u.1) ht h0 (u.2.1) (u.2.2.1) pc (u.2.2.2) x' ++ wO cJ oa (vp_updL out (Int32.toNatClampNeg 0) (k_z1 r))) 0 := by
  unfold XN_step at hm
  obtain ⟨r, w_cnt, w_G, w_c_phase, w_c_dice, w_c_pieces0, w_c_pieces1, w_c_score0, w_c_score1, w_c_hits0, w_c_hits1, hm9, e⟩ := k_bd11s hm
  cases e
  exact zL_step hm9
def XT_step (x : XT) (p0 : Int32) (p1 : Int32) : Option String := mT9_step (x.2.1) (x.2.2.2.1) (x.2.2.2.2.1.1) (x.2.2.2.2.1.2.1) (x.2.2.2.2.1.2.2.1) (x.2.2.2.2.1.2.2.2.1) (x.2.2.2.2.1.2.2.2.2.1) (x.2.2.2.2.1.2.2.2.2.2.1) (x.2.2.2.2.1.2.2.2.2.2.2.1) (x.2.2.2.2.1.2.2.2.2.2.2.2.1) (x.2.2.2.2.1.2.2.2.2.2.2.2.2.1) (x.2.2.2.2.1.2.2.2.2.2.2.2.2.2.1) (x.2.2.2.2.1.2.2.2.2.2.2.2.2.2.2.1) (x.2.2.2.2.1.2.2.2.2.2.2.2.2.2.2.2.1) (x.2.2.2.2.1.2.2.2.2.2.2.2.2.2.2.2.2) p0 p1
def MN_step (m : MT) (p0 : Int32) (p1 : Int32) : Option (Bool × MT) := k_bd6 (mX10_step (m.1) (m.2.1) (m.2.2.1) (m.2.2.2.2.2.2.2.2.1) (m.2.2.2.2.2.2.2.2.2.1) p0 p1) (fun r w_c_s w_c_before w_c_known w_c_thrown w_c_laid => some (r, (w_c_s, w_c_before, w_c_known, (m.2.2.2.1), (m.2.2.2.2.1), (m.2.2.2.2.2.1), (m.2.2.2.2.2.2.1), (m.2.2.2.2.2.2.2.1), w_c_thrown, w_c_laid, (m.2.2.2.2.2.2.2.2.2.2.1), (m.2.2.2.2.2.2.2.2.2.2.2.1), (m.2.2.2.2.2.2.2.2.2.2.2.2.1), (m.2.2.2.2.2.2.2.2.2.2.2.2.2.1), (m.2.2.2.2.2.2.2.2.2.2.2.2.2.2.1), (m.2.2.2.2.2.2.2.2.2.2.2.2.2.2.2.1), (m.2.2.2.2.2.2.2.2.2.2.2.2.2.2.2.2.1), (m.2.2.2.2.2.2.2.2.2.2.2.2.2.2.2.2.2.1), (m.2.2.2.2.2.2.2.2.2.2.2.2.2.2.2.2.2.2.1), (m.2.2.2.2.2.2.2.2.2.2.2.2.2.2.2.2.2.2.2))))
theorem zM_step {l : Launch} {D : va_G} {cI cJ cC cG : ClassId} {sz : Nat} {ad : Nat → Nat} {m : MT} {p0 : Int32} {p1 : Int32} {r : Bool} {m' : MT} (hm : MN_step m p0 p1 = some (r, m')) : k_Mi l yX10_step wsX10_step rmX10_step D (kT cI cJ cC cG) sz ([.ref (ad 0), .int p0, .int p1] : List Value) (wMt cI cJ ad m) (wMt cI cJ ad m') (k_b r) := by
  unfold MN_step at hm
  obtain ⟨r, w_c_s, w_c_before, w_c_known, w_c_thrown, w_c_laid, hm9, e⟩ := k_bd6s hm
  cases e
  exact zX10_step hm9
def XN_endTurn (x : XT) : Option (Int32 × XT) := k_bd6 (mX9_endTurn (x.2.1) (x.2.2.2.1) (x.2.2.2.2.1.1) (x.2.2.2.2.1.2.1) (x.2.2.2.2.1.2.2.1) (x.2.2.2.2.1.2.2.2.1) (x.2.2.2.2.1.2.2.2.2.1) (x.2.2.2.2.1.2.2.2.2.2.1) (x.2.2.2.2.1.2.2.2.2.2.2.1) (x.2.2.2.2.1.2.2.2.2.2.2.2.1) (x.2.2.2.2.1.2.2.2.2.2.2.2.2.1) (x.2.2.2.2.1.2.2.2.2.2.2.2.2.2.1) (x.2.2.2.2.1.2.2.2.2.2.2.2.2.2.2.1) (x.2.2.2.2.1.2.2.2.2.2.2.2.2.2.2.2.1) (x.2.2.2.2.1.2.2.2.2.2.2.2.2.2.2.2.2)) (fun r w_cnt w_G w_c_mover w_c_phase w_c_dice => some (r, ((x.1), w_cnt, (x.2.2.1), w_G, (w_c_mover, w_c_phase, w_c_dice, (x.2.2.2.2.1.2.2.2.1), (x.2.2.2.2.1.2.2.2.2.1), (x.2.2.2.2.1.2.2.2.2.2.1), (x.2.2.2.2.1.2.2.2.2.2.2.1), (x.2.2.2.2.1.2.2.2.2.2.2.2.1), (x.2.2.2.2.1.2.2.2.2.2.2.2.2.1), (x.2.2.2.2.1.2.2.2.2.2.2.2.2.2.1), (x.2.2.2.2.1.2.2.2.2.2.2.2.2.2.2.1), (x.2.2.2.2.1.2.2.2.2.2.2.2.2.2.2.2.1), (x.2.2.2.2.1.2.2.2.2.2.2.2.2.2.2.2.2)), (x.2.2.2.2.2.1), (x.2.2.2.2.2.2))))
theorem zB_endTurn {l : Launch} {D : va_G} {cI cJ cC cG : ClassId} {sz : Nat} {h9 hn h0 : Nat} {ap q ht pa pb pc : Nat → Nat} {jk : JT} {x : XT} {oa : Nat} {out : Nat → Int64} {r : Int32} {x' : XT} (hm : XN_endTurn x = some (r, x')) : k_MiE l yL_endTurn wsL_endTurn rmL_endTurn D (kT cI cJ cC cG) sz ([.ref h9, .ref oa] : List Value) (wXt cI cJ cC cG h9 hn ap q ht h0 pa pb pc jk x ++ wO cJ oa out) (fun u : (Nat → Nat) × (Nat → Nat) × (Nat → Nat) × (JT) => wXt cI cJ cC cG h9 hn ap (u.1) ht h0 (u.2.1) (u.2.2.1) pc (u.2.2.2) x' ++ wO cJ oa (vp_updL out (Int32.toNatClampNeg 0) (Int32.toInt64 r))) 0 := by
  unfold XN_endTurn at hm
  obtain ⟨r, w_cnt, w_G, w_c_mover, w_c_phase, w_c_dice, hm9, e⟩ := k_bd6s hm
  cases e
  exact zL_endTurn hm9
def XT_endTurn (x : XT) : Option String := mT9_endTurn (x.2.1) (x.2.2.2.1) (x.2.2.2.2.1.1) (x.2.2.2.2.1.2.1) (x.2.2.2.2.1.2.2.1) (x.2.2.2.2.1.2.2.2.1) (x.2.2.2.2.1.2.2.2.2.1) (x.2.2.2.2.1.2.2.2.2.2.1) (x.2.2.2.2.1.2.2.2.2.2.2.1) (x.2.2.2.2.1.2.2.2.2.2.2.2.1) (x.2.2.2.2.1.2.2.2.2.2.2.2.2.1) (x.2.2.2.2.1.2.2.2.2.2.2.2.2.2.1) (x.2.2.2.2.1.2.2.2.2.2.2.2.2.2.2.1) (x.2.2.2.2.1.2.2.2.2.2.2.2.2.2.2.2.1) (x.2.2.2.2.1.2.2.2.2.2.2.2.2.2.2.2.2)
def MN_endTurn (m : MT) : Option (Int32 × MT) := k_bd6 (mX10_endTurn (m.1) (m.2.1) (m.2.2.1) (m.2.2.2.2.2.2.2.2.1) (m.2.2.2.2.2.2.2.2.2.1)) (fun r w_c_s w_c_before w_c_known w_c_thrown w_c_laid => some (r, (w_c_s, w_c_before, w_c_known, (m.2.2.2.1), (m.2.2.2.2.1), (m.2.2.2.2.2.1), (m.2.2.2.2.2.2.1), (m.2.2.2.2.2.2.2.1), w_c_thrown, w_c_laid, (m.2.2.2.2.2.2.2.2.2.2.1), (m.2.2.2.2.2.2.2.2.2.2.2.1), (m.2.2.2.2.2.2.2.2.2.2.2.2.1), (m.2.2.2.2.2.2.2.2.2.2.2.2.2.1), (m.2.2.2.2.2.2.2.2.2.2.2.2.2.2.1), (m.2.2.2.2.2.2.2.2.2.2.2.2.2.2.2.1), (m.2.2.2.2.2.2.2.2.2.2.2.2.2.2.2.2.1), (m.2.2.2.2.2.2.2.2.2.2.2.2.2.2.2.2.2.1), (m.2.2.2.2.2.2.2.2.2.2.2.2.2.2.2.2.2.2.1), (m.2.2.2.2.2.2.2.2.2.2.2.2.2.2.2.2.2.2.2))))
theorem zM_endTurn {l : Launch} {D : va_G} {cI cJ cC cG : ClassId} {sz : Nat} {ad : Nat → Nat} {m : MT} {r : Int32} {m' : MT} (hm : MN_endTurn m = some (r, m')) : k_Mi l yX10_endTurn wsX10_endTurn rmX10_endTurn D (kT cI cJ cC cG) sz ([.ref (ad 0)] : List Value) (wMt cI cJ ad m) (wMt cI cJ ad m') r := by
  unfold MN_endTurn at hm
  obtain ⟨r, w_c_s, w_c_before, w_c_known, w_c_thrown, w_c_laid, hm9, e⟩ := k_bd6s hm
  cases e
  exact zX10_endTurn hm9
def XN_carry (x : XT) (p0 : Int32) (p1 : Int32) (p2 : Int32) : Option (Int32 × XT) := k_bd5 (mX9_carry (x.2.1) (x.2.2.2.1) (x.2.2.2.2.1.1) (x.2.2.2.2.1.2.1) (x.2.2.2.2.1.2.2.1) (x.2.2.2.2.1.2.2.2.1) (x.2.2.2.2.1.2.2.2.2.1) (x.2.2.2.2.1.2.2.2.2.2.1) (x.2.2.2.2.1.2.2.2.2.2.2.1) (x.2.2.2.2.1.2.2.2.2.2.2.2.1) (x.2.2.2.2.1.2.2.2.2.2.2.2.2.1) (x.2.2.2.2.1.2.2.2.2.2.2.2.2.2.1) (x.2.2.2.2.1.2.2.2.2.2.2.2.2.2.2.1) (x.2.2.2.2.1.2.2.2.2.2.2.2.2.2.2.2.1) (x.2.2.2.2.1.2.2.2.2.2.2.2.2.2.2.2.2) p0 p1 p2) (fun r w_cnt w_G w_c_pieces0 w_c_pieces1 => some (r, ((x.1), w_cnt, (x.2.2.1), w_G, ((x.2.2.2.2.1.1), (x.2.2.2.2.1.2.1), (x.2.2.2.2.1.2.2.1), (x.2.2.2.2.1.2.2.2.1), (x.2.2.2.2.1.2.2.2.2.1), w_c_pieces0, w_c_pieces1, (x.2.2.2.2.1.2.2.2.2.2.2.2.1), (x.2.2.2.2.1.2.2.2.2.2.2.2.2.1), (x.2.2.2.2.1.2.2.2.2.2.2.2.2.2.1), (x.2.2.2.2.1.2.2.2.2.2.2.2.2.2.2.1), (x.2.2.2.2.1.2.2.2.2.2.2.2.2.2.2.2.1), (x.2.2.2.2.1.2.2.2.2.2.2.2.2.2.2.2.2)), (x.2.2.2.2.2.1), (x.2.2.2.2.2.2))))
theorem zB_carry {l : Launch} {D : va_G} {cI cJ cC cG : ClassId} {sz : Nat} {h9 hn h0 : Nat} {ap q ht pa pb pc : Nat → Nat} {jk : JT} {x : XT} {oa : Nat} {out : Nat → Int64} {p0 : Int32} {p1 : Int32} {p2 : Int32} {r : Int32} {x' : XT} (hm : XN_carry x p0 p1 p2 = some (r, x')) : k_MiE l yL_carry wsL_carry rmL_carry D (kT cI cJ cC cG) sz ([.ref h9, .int p0, .int p1, .int p2, .ref oa] : List Value) (wXt cI cJ cC cG h9 hn ap q ht h0 pa pb pc jk x ++ wO cJ oa out) (fun u : (Nat → Nat) × (Nat → Nat) × (Nat → Nat) × (JT) => wXt cI cJ cC cG h9 hn ap (u.1) ht h0 (u.2.1) (u.2.2.1) pc (u.2.2.2) x' ++ wO cJ oa (vp_updL out (Int32.toNatClampNeg 0) (Int32.toInt64 r))) 0 := by
  unfold XN_carry at hm
  obtain ⟨r, w_cnt, w_G, w_c_pieces0, w_c_pieces1, hm9, e⟩ := k_bd5s hm
  cases e
  exact zL_carry hm9
def XT_carry (x : XT) (p0 : Int32) (p1 : Int32) (p2 : Int32) : Option String := mT9_carry (x.2.1) (x.2.2.2.1) (x.2.2.2.2.1.1) (x.2.2.2.2.1.2.1) (x.2.2.2.2.1.2.2.1) (x.2.2.2.2.1.2.2.2.1) (x.2.2.2.2.1.2.2.2.2.1) (x.2.2.2.2.1.2.2.2.2.2.1) (x.2.2.2.2.1.2.2.2.2.2.2.1) (x.2.2.2.2.1.2.2.2.2.2.2.2.1) (x.2.2.2.2.1.2.2.2.2.2.2.2.2.1) (x.2.2.2.2.1.2.2.2.2.2.2.2.2.2.1) (x.2.2.2.2.1.2.2.2.2.2.2.2.2.2.2.1) (x.2.2.2.2.1.2.2.2.2.2.2.2.2.2.2.2.1) (x.2.2.2.2.1.2.2.2.2.2.2.2.2.2.2.2.2) p0 p1 p2
def MN_carry (m : MT) (p0 : Int32) (p1 : Int32) (p2 : Int32) : Option (Int32 × MT) := k_bd5 (mX10_carry (m.1) (m.2.1) (m.2.2.1) (m.2.2.2.2.2.2.2.2.1) p0 p1 p2) (fun r w_c_s w_c_before w_c_known w_c_thrown => some (r, (w_c_s, w_c_before, w_c_known, (m.2.2.2.1), (m.2.2.2.2.1), (m.2.2.2.2.2.1), (m.2.2.2.2.2.2.1), (m.2.2.2.2.2.2.2.1), w_c_thrown, (m.2.2.2.2.2.2.2.2.2.1), (m.2.2.2.2.2.2.2.2.2.2.1), (m.2.2.2.2.2.2.2.2.2.2.2.1), (m.2.2.2.2.2.2.2.2.2.2.2.2.1), (m.2.2.2.2.2.2.2.2.2.2.2.2.2.1), (m.2.2.2.2.2.2.2.2.2.2.2.2.2.2.1), (m.2.2.2.2.2.2.2.2.2.2.2.2.2.2.2.1), (m.2.2.2.2.2.2.2.2.2.2.2.2.2.2.2.2.1), (m.2.2.2.2.2.2.2.2.2.2.2.2.2.2.2.2.2.1), (m.2.2.2.2.2.2.2.2.2.2.2.2.2.2.2.2.2.2.1), (m.2.2.2.2.2.2.2.2.2.2.2.2.2.2.2.2.2.2.2))))
theorem zM_carry {l : Launch} {D : va_G} {cI cJ cC cG : ClassId} {sz : Nat} {ad : Nat → Nat} {m : MT} {p0 : Int32} {p1 : Int32} {p2 : Int32} {r : Int32} {m' : MT} (hm : MN_carry m p0 p1 p2 = some (r, m')) : k_Mi l yX10_carry wsX10_carry rmX10_carry D (kT cI cJ cC cG) sz ([.ref (ad 0), .int p0, .int p1, .int p2] : List Value) (wMt cI cJ ad m) (wMt cI cJ ad m') r := by
  unfold MN_carry at hm
  obtain ⟨r, w_c_s, w_c_before, w_c_known, w_c_thrown, hm9, e⟩ := k_bd5s hm
  cases e
  exact zX10_carry hm9
def XN_offer (x : XT) : Option (Int32 × XT) := k_bd4 (mX9_offer (x.2.1) (x.2.2.2.1) (x.2.2.2.2.1.1) (x.2.2.2.2.1.2.1) (x.2.2.2.2.1.2.2.1) (x.2.2.2.2.1.2.2.2.1) (x.2.2.2.2.1.2.2.2.2.1) (x.2.2.2.2.1.2.2.2.2.2.1) (x.2.2.2.2.1.2.2.2.2.2.2.1) (x.2.2.2.2.1.2.2.2.2.2.2.2.1) (x.2.2.2.2.1.2.2.2.2.2.2.2.2.1) (x.2.2.2.2.1.2.2.2.2.2.2.2.2.2.1) (x.2.2.2.2.1.2.2.2.2.2.2.2.2.2.2.1) (x.2.2.2.2.1.2.2.2.2.2.2.2.2.2.2.2.1) (x.2.2.2.2.1.2.2.2.2.2.2.2.2.2.2.2.2)) (fun r w_cnt w_G w_c_phase => some (r, ((x.1), w_cnt, (x.2.2.1), w_G, ((x.2.2.2.2.1.1), w_c_phase, (x.2.2.2.2.1.2.2.1), (x.2.2.2.2.1.2.2.2.1), (x.2.2.2.2.1.2.2.2.2.1), (x.2.2.2.2.1.2.2.2.2.2.1), (x.2.2.2.2.1.2.2.2.2.2.2.1), (x.2.2.2.2.1.2.2.2.2.2.2.2.1), (x.2.2.2.2.1.2.2.2.2.2.2.2.2.1), (x.2.2.2.2.1.2.2.2.2.2.2.2.2.2.1), (x.2.2.2.2.1.2.2.2.2.2.2.2.2.2.2.1), (x.2.2.2.2.1.2.2.2.2.2.2.2.2.2.2.2.1), (x.2.2.2.2.1.2.2.2.2.2.2.2.2.2.2.2.2)), (x.2.2.2.2.2.1), (x.2.2.2.2.2.2))))
theorem zB_offer {l : Launch} {D : va_G} {cI cJ cC cG : ClassId} {sz : Nat} {h9 hn h0 : Nat} {ap q ht pa pb pc : Nat → Nat} {jk : JT} {x : XT} {oa : Nat} {out : Nat → Int64} {r : Int32} {x' : XT} (hm : XN_offer x = some (r, x')) : k_MiE l yL_offer wsL_offer rmL_offer D (kT cI cJ cC cG) sz ([.ref h9, .ref oa] : List Value) (wXt cI cJ cC cG h9 hn ap q ht h0 pa pb pc jk x ++ wO cJ oa out) (fun u : (Nat → Nat) × (Nat → Nat) × (Nat → Nat) × (JT) => wXt cI cJ cC cG h9 hn ap (u.1) ht h0 (u.2.1) (u.2.2.1) pc (u.2.2.2) x' ++ wO cJ oa (vp_updL out (Int32.toNatClampNeg 0) (Int32.toInt64 r))) 0 := by
  unfold XN_offer at hm
  obtain ⟨r, w_cnt, w_G, w_c_phase, hm9, e⟩ := k_bd4s hm
  cases e
  exact zL_offer hm9
def XT_offer (x : XT) : Option String := mT9_offer (x.2.1) (x.2.2.2.1) (x.2.2.2.2.1.1) (x.2.2.2.2.1.2.1) (x.2.2.2.2.1.2.2.1) (x.2.2.2.2.1.2.2.2.1) (x.2.2.2.2.1.2.2.2.2.1) (x.2.2.2.2.1.2.2.2.2.2.1) (x.2.2.2.2.1.2.2.2.2.2.2.1) (x.2.2.2.2.1.2.2.2.2.2.2.2.1) (x.2.2.2.2.1.2.2.2.2.2.2.2.2.1) (x.2.2.2.2.1.2.2.2.2.2.2.2.2.2.1) (x.2.2.2.2.1.2.2.2.2.2.2.2.2.2.2.1) (x.2.2.2.2.1.2.2.2.2.2.2.2.2.2.2.2.1) (x.2.2.2.2.1.2.2.2.2.2.2.2.2.2.2.2.2)
def MN_offer (m : MT) : Option (Int32 × MT) := k_bd5 (mX10_offer (m.1) (m.2.1) (m.2.2.1) (m.2.2.2.2.2.2.2.2.1)) (fun r w_c_s w_c_before w_c_known w_c_thrown => some (r, (w_c_s, w_c_before, w_c_known, (m.2.2.2.1), (m.2.2.2.2.1), (m.2.2.2.2.2.1), (m.2.2.2.2.2.2.1), (m.2.2.2.2.2.2.2.1), w_c_thrown, (m.2.2.2.2.2.2.2.2.2.1), (m.2.2.2.2.2.2.2.2.2.2.1), (m.2.2.2.2.2.2.2.2.2.2.2.1), (m.2.2.2.2.2.2.2.2.2.2.2.2.1), (m.2.2.2.2.2.2.2.2.2.2.2.2.2.1), (m.2.2.2.2.2.2.2.2.2.2.2.2.2.2.1), (m.2.2.2.2.2.2.2.2.2.2.2.2.2.2.2.1), (m.2.2.2.2.2.2.2.2.2.2.2.2.2.2.2.2.1), (m.2.2.2.2.2.2.2.2.2.2.2.2.2.2.2.2.2.1), (m.2.2.2.2.2.2.2.2.2.2.2.2.2.2.2.2.2.2.1), (m.2.2.2.2.2.2.2.2.2.2.2.2.2.2.2.2.2.2.2))))
theorem zM_offer {l : Launch} {D : va_G} {cI cJ cC cG : ClassId} {sz : Nat} {ad : Nat → Nat} {m : MT} {r : Int32} {m' : MT} (hm : MN_offer m = some (r, m')) : k_Mi l yX10_offer wsX10_offer rmX10_offer D (kT cI cJ cC cG) sz ([.ref (ad 0)] : List Value) (wMt cI cJ ad m) (wMt cI cJ ad m') r := by
  unfold MN_offer at hm
  obtain ⟨r, w_c_s, w_c_before, w_c_known, w_c_thrown, hm9, e⟩ := k_bd5s hm
  cases e
  exact zX10_offer hm9
def XN_take (x : XT) : Option (Int32 × XT) := k_bd6 (mX9_take (x.2.1) (x.2.2.2.1) (x.2.2.2.2.1.1) (x.2.2.2.2.1.2.1) (x.2.2.2.2.1.2.2.1) (x.2.2.2.2.1.2.2.2.1) (x.2.2.2.2.1.2.2.2.2.1) (x.2.2.2.2.1.2.2.2.2.2.1) (x.2.2.2.2.1.2.2.2.2.2.2.1) (x.2.2.2.2.1.2.2.2.2.2.2.2.1) (x.2.2.2.2.1.2.2.2.2.2.2.2.2.1) (x.2.2.2.2.1.2.2.2.2.2.2.2.2.2.1) (x.2.2.2.2.1.2.2.2.2.2.2.2.2.2.2.1) (x.2.2.2.2.1.2.2.2.2.2.2.2.2.2.2.2.1) (x.2.2.2.2.1.2.2.2.2.2.2.2.2.2.2.2.2)) (fun r w_cnt w_G w_c_phase w_c_stake w_c_cube => some (r, ((x.1), w_cnt, (x.2.2.1), w_G, ((x.2.2.2.2.1.1), w_c_phase, (x.2.2.2.2.1.2.2.1), w_c_stake, w_c_cube, (x.2.2.2.2.1.2.2.2.2.2.1), (x.2.2.2.2.1.2.2.2.2.2.2.1), (x.2.2.2.2.1.2.2.2.2.2.2.2.1), (x.2.2.2.2.1.2.2.2.2.2.2.2.2.1), (x.2.2.2.2.1.2.2.2.2.2.2.2.2.2.1), (x.2.2.2.2.1.2.2.2.2.2.2.2.2.2.2.1), (x.2.2.2.2.1.2.2.2.2.2.2.2.2.2.2.2.1), (x.2.2.2.2.1.2.2.2.2.2.2.2.2.2.2.2.2)), (x.2.2.2.2.2.1), (x.2.2.2.2.2.2))))
theorem zB_take {l : Launch} {D : va_G} {cI cJ cC cG : ClassId} {sz : Nat} {h9 hn h0 : Nat} {ap q ht pa pb pc : Nat → Nat} {jk : JT} {x : XT} {oa : Nat} {out : Nat → Int64} {r : Int32} {x' : XT} (hm : XN_take x = some (r, x')) : k_MiE l yL_take wsL_take rmL_take D (kT cI cJ cC cG) sz ([.ref h9, .ref oa] : List Value) (wXt cI cJ cC cG h9 hn ap q ht h0 pa pb pc jk x ++ wO cJ oa out) (fun u : (Nat → Nat) × (Nat → Nat) × (Nat → Nat) × (JT) => wXt cI cJ cC cG h9 hn ap (u.1) ht h0 (u.2.1) (u.2.2.1) pc (u.2.2.2) x' ++ wO cJ oa (vp_updL out (Int32.toNatClampNeg 0) (Int32.toInt64 r))) 0 := by
  unfold XN_take at hm
  obtain ⟨r, w_cnt, w_G, w_c_phase, w_c_stake, w_c_cube, hm9, e⟩ := k_bd6s hm
  cases e
  exact zL_take hm9
def XT_take (x : XT) : Option String := mT9_take (x.2.1) (x.2.2.2.1) (x.2.2.2.2.1.1) (x.2.2.2.2.1.2.1) (x.2.2.2.2.1.2.2.1) (x.2.2.2.2.1.2.2.2.1) (x.2.2.2.2.1.2.2.2.2.1) (x.2.2.2.2.1.2.2.2.2.2.1) (x.2.2.2.2.1.2.2.2.2.2.2.1) (x.2.2.2.2.1.2.2.2.2.2.2.2.1) (x.2.2.2.2.1.2.2.2.2.2.2.2.2.1) (x.2.2.2.2.1.2.2.2.2.2.2.2.2.2.1) (x.2.2.2.2.1.2.2.2.2.2.2.2.2.2.2.1) (x.2.2.2.2.1.2.2.2.2.2.2.2.2.2.2.2.1) (x.2.2.2.2.1.2.2.2.2.2.2.2.2.2.2.2.2)
def MN_take (m : MT) : Option (Int32 × MT) := k_bd5 (mX10_take (m.1) (m.2.1) (m.2.2.1) (m.2.2.2.2.2.2.2.2.1)) (fun r w_c_s w_c_before w_c_known w_c_thrown => some (r, (w_c_s, w_c_before, w_c_known, (m.2.2.2.1), (m.2.2.2.2.1), (m.2.2.2.2.2.1), (m.2.2.2.2.2.2.1), (m.2.2.2.2.2.2.2.1), w_c_thrown, (m.2.2.2.2.2.2.2.2.2.1), (m.2.2.2.2.2.2.2.2.2.2.1), (m.2.2.2.2.2.2.2.2.2.2.2.1), (m.2.2.2.2.2.2.2.2.2.2.2.2.1), (m.2.2.2.2.2.2.2.2.2.2.2.2.2.1), (m.2.2.2.2.2.2.2.2.2.2.2.2.2.2.1), (m.2.2.2.2.2.2.2.2.2.2.2.2.2.2.2.1), (m.2.2.2.2.2.2.2.2.2.2.2.2.2.2.2.2.1), (m.2.2.2.2.2.2.2.2.2.2.2.2.2.2.2.2.2.1), (m.2.2.2.2.2.2.2.2.2.2.2.2.2.2.2.2.2.2.1), (m.2.2.2.2.2.2.2.2.2.2.2.2.2.2.2.2.2.2.2))))
theorem zM_take {l : Launch} {D : va_G} {cI cJ cC cG : ClassId} {sz : Nat} {ad : Nat → Nat} {m : MT} {r : Int32} {m' : MT} (hm : MN_take m = some (r, m')) : k_Mi l yX10_take wsX10_take rmX10_take D (kT cI cJ cC cG) sz ([.ref (ad 0)] : List Value) (wMt cI cJ ad m) (wMt cI cJ ad m') r := by
  unfold MN_take at hm
  obtain ⟨r, w_c_s, w_c_before, w_c_known, w_c_thrown, hm9, e⟩ := k_bd5s hm
  cases e
  exact zX10_take hm9
def XN_drop (x : XT) : Option (Int32 × XT) := k_bd7 (mX9_drop (x.2.1) (x.2.2.2.1) (x.2.2.2.2.1.1) (x.2.2.2.2.1.2.1) (x.2.2.2.2.1.2.2.1) (x.2.2.2.2.1.2.2.2.1) (x.2.2.2.2.1.2.2.2.2.1) (x.2.2.2.2.1.2.2.2.2.2.1) (x.2.2.2.2.1.2.2.2.2.2.2.1) (x.2.2.2.2.1.2.2.2.2.2.2.2.1) (x.2.2.2.2.1.2.2.2.2.2.2.2.2.1) (x.2.2.2.2.1.2.2.2.2.2.2.2.2.2.1) (x.2.2.2.2.1.2.2.2.2.2.2.2.2.2.2.1) (x.2.2.2.2.1.2.2.2.2.2.2.2.2.2.2.2.1) (x.2.2.2.2.1.2.2.2.2.2.2.2.2.2.2.2.2)) (fun r w_cnt w_G w_c_phase w_c_dice w_c_score0 w_c_score1 => some (r, ((x.1), w_cnt, (x.2.2.1), w_G, ((x.2.2.2.2.1.1), w_c_phase, w_c_dice, (x.2.2.2.2.1.2.2.2.1), (x.2.2.2.2.1.2.2.2.2.1), (x.2.2.2.2.1.2.2.2.2.2.1), (x.2.2.2.2.1.2.2.2.2.2.2.1), w_c_score0, w_c_score1, (x.2.2.2.2.1.2.2.2.2.2.2.2.2.2.1), (x.2.2.2.2.1.2.2.2.2.2.2.2.2.2.2.1), (x.2.2.2.2.1.2.2.2.2.2.2.2.2.2.2.2.1), (x.2.2.2.2.1.2.2.2.2.2.2.2.2.2.2.2.2)), (x.2.2.2.2.2.1), (x.2.2.2.2.2.2))))
theorem zB_drop {l : Launch} {D : va_G} {cI cJ cC cG : ClassId} {sz : Nat} {h9 hn h0 : Nat} {ap q ht pa pb pc : Nat → Nat} {jk : JT} {x : XT} {oa : Nat} {out : Nat → Int64} {r : Int32} {x' : XT} (hm : XN_drop x = some (r, x')) : k_MiE l yL_drop wsL_drop rmL_drop D (kT cI cJ cC cG) sz ([.ref h9, .ref oa] : List Value) (wXt cI cJ cC cG h9 hn ap q ht h0 pa pb pc jk x ++ wO cJ oa out) (fun u : (Nat → Nat) × (Nat → Nat) × (Nat → Nat) × (JT) => wXt cI cJ cC cG h9 hn ap (u.1) ht h0 (u.2.1) (u.2.2.1) pc (u.2.2.2) x' ++ wO cJ oa (vp_updL out (Int32.toNatClampNeg 0) (Int32.toInt64 r))) 0 := by
  unfold XN_drop at hm
  obtain ⟨r, w_cnt, w_G, w_c_phase, w_c_dice, w_c_score0, w_c_score1, hm9, e⟩ := k_bd7s hm
  cases e
  exact zL_drop hm9
def XT_drop (x : XT) : Option String := mT9_drop (x.2.1) (x.2.2.2.1) (x.2.2.2.2.1.1) (x.2.2.2.2.1.2.1) (x.2.2.2.2.1.2.2.1) (x.2.2.2.2.1.2.2.2.1) (x.2.2.2.2.1.2.2.2.2.1) (x.2.2.2.2.1.2.2.2.2.2.1) (x.2.2.2.2.1.2.2.2.2.2.2.1) (x.2.2.2.2.1.2.2.2.2.2.2.2.1) (x.2.2.2.2.1.2.2.2.2.2.2.2.2.1) (x.2.2.2.2.1.2.2.2.2.2.2.2.2.2.1) (x.2.2.2.2.1.2.2.2.2.2.2.2.2.2.2.1) (x.2.2.2.2.1.2.2.2.2.2.2.2.2.2.2.2.1) (x.2.2.2.2.1.2.2.2.2.2.2.2.2.2.2.2.2)
def MN_drop (m : MT) : Option (Int32 × MT) := k_bd5 (mX10_drop (m.1) (m.2.1) (m.2.2.1) (m.2.2.2.2.2.2.2.2.1)) (fun r w_c_s w_c_before w_c_known w_c_thrown => some (r, (w_c_s, w_c_before, w_c_known, (m.2.2.2.1), (m.2.2.2.2.1), (m.2.2.2.2.2.1), (m.2.2.2.2.2.2.1), (m.2.2.2.2.2.2.2.1), w_c_thrown, (m.2.2.2.2.2.2.2.2.2.1), (m.2.2.2.2.2.2.2.2.2.2.1), (m.2.2.2.2.2.2.2.2.2.2.2.1), (m.2.2.2.2.2.2.2.2.2.2.2.2.1), (m.2.2.2.2.2.2.2.2.2.2.2.2.2.1), (m.2.2.2.2.2.2.2.2.2.2.2.2.2.2.1), (m.2.2.2.2.2.2.2.2.2.2.2.2.2.2.2.1), (m.2.2.2.2.2.2.2.2.2.2.2.2.2.2.2.2.1), (m.2.2.2.2.2.2.2.2.2.2.2.2.2.2.2.2.2.1), (m.2.2.2.2.2.2.2.2.2.2.2.2.2.2.2.2.2.2.1), (m.2.2.2.2.2.2.2.2.2.2.2.2.2.2.2.2.2.2.2))))
theorem zM_drop {l : Launch} {D : va_G} {cI cJ cC cG : ClassId} {sz : Nat} {ad : Nat → Nat} {m : MT} {r : Int32} {m' : MT} (hm : MN_drop m = some (r, m')) : k_Mi l yX10_drop wsX10_drop rmX10_drop D (kT cI cJ cC cG) sz ([.ref (ad 0)] : List Value) (wMt cI cJ ad m) (wMt cI cJ ad m') r := by
  unfold MN_drop at hm
  obtain ⟨r, w_c_s, w_c_before, w_c_known, w_c_thrown, hm9, e⟩ := k_bd5s hm
  cases e
  exact zX10_drop hm9
def XN_newGame (x : XT) : Option (Int32 × XT) := k_bd9 (mX9_newGame (x.2.1) (x.2.2.2.1) (x.2.2.2.2.1.1) (x.2.2.2.2.1.2.1) (x.2.2.2.2.1.2.2.1) (x.2.2.2.2.1.2.2.2.1) (x.2.2.2.2.1.2.2.2.2.1) (x.2.2.2.2.1.2.2.2.2.2.1) (x.2.2.2.2.1.2.2.2.2.2.2.1) (x.2.2.2.2.1.2.2.2.2.2.2.2.1) (x.2.2.2.2.1.2.2.2.2.2.2.2.2.1) (x.2.2.2.2.1.2.2.2.2.2.2.2.2.2.1) (x.2.2.2.2.1.2.2.2.2.2.2.2.2.2.2.1) (x.2.2.2.2.1.2.2.2.2.2.2.2.2.2.2.2.1) (x.2.2.2.2.1.2.2.2.2.2.2.2.2.2.2.2.2)) (fun r w_cnt w_G w_c_mover w_c_phase w_c_stake w_c_cube w_c_pieces0 w_c_pieces1 => some (r, ((x.1), w_cnt, (x.2.2.1), w_G, (w_c_mover, w_c_phase, (x.2.2.2.2.1.2.2.1), w_c_stake, w_c_cube, w_c_pieces0, w_c_pieces1, (x.2.2.2.2.1.2.2.2.2.2.2.2.1), (x.2.2.2.2.1.2.2.2.2.2.2.2.2.1), (x.2.2.2.2.1.2.2.2.2.2.2.2.2.2.1), (x.2.2.2.2.1.2.2.2.2.2.2.2.2.2.2.1), (x.2.2.2.2.1.2.2.2.2.2.2.2.2.2.2.2.1), (x.2.2.2.2.1.2.2.2.2.2.2.2.2.2.2.2.2)), (x.2.2.2.2.2.1), (x.2.2.2.2.2.2))))
theorem zB_newGame {l : Launch} {D : va_G} {cI cJ cC cG : ClassId} {sz : Nat} {h9 hn h0 : Nat} {ap q ht pa pb pc : Nat → Nat} {jk : JT} {x : XT} {oa : Nat} {out : Nat → Int64} {r : Int32} {x' : XT} (hm : XN_newGame x = some (r, x')) : k_MiE l yL_newGame wsL_newGame rmL_newGame D (kT cI cJ cC cG) sz ([.ref h9, .ref oa] : List Value) (wXt cI cJ cC cG h9 hn ap q ht h0 pa pb pc jk x ++ wO cJ oa out) (fun u : (Nat → Nat) × (Nat → Nat) × (Nat → Nat) × (JT) => wXt cI cJ cC cG h9 hn ap (u.1) ht h0 (u.2.1) (u.2.2.1) pc (u.2.2.2) x' ++ wO cJ oa (vp_updL out (Int32.toNatClampNeg 0) (Int32.toInt64 r))) 0 := by
  unfold XN_newGame at hm
  obtain ⟨r, w_cnt, w_G, w_c_mover, w_c_phase, w_c_stake, w_c_cube, w_c_pieces0, w_c_pieces1, hm9, e⟩ := k_bd9s hm
  cases e
  exact zL_newGame hm9
def XT_newGame (x : XT) : Option String := mT9_newGame (x.2.1) (x.2.2.2.1) (x.2.2.2.2.1.1) (x.2.2.2.2.1.2.1) (x.2.2.2.2.1.2.2.1) (x.2.2.2.2.1.2.2.2.1) (x.2.2.2.2.1.2.2.2.2.1) (x.2.2.2.2.1.2.2.2.2.2.1) (x.2.2.2.2.1.2.2.2.2.2.2.1) (x.2.2.2.2.1.2.2.2.2.2.2.2.1) (x.2.2.2.2.1.2.2.2.2.2.2.2.2.1) (x.2.2.2.2.1.2.2.2.2.2.2.2.2.2.1) (x.2.2.2.2.1.2.2.2.2.2.2.2.2.2.2.1) (x.2.2.2.2.1.2.2.2.2.2.2.2.2.2.2.2.1) (x.2.2.2.2.1.2.2.2.2.2.2.2.2.2.2.2.2)
def MN_newGame (m : MT) : Option (Int32 × MT) := k_bd5 (mX10_newGame (m.1) (m.2.1) (m.2.2.1) (m.2.2.2.2.2.2.2.2.1)) (fun r w_c_s w_c_before w_c_known w_c_thrown => some (r, (w_c_s, w_c_before, w_c_known, (m.2.2.2.1), (m.2.2.2.2.1), (m.2.2.2.2.2.1), (m.2.2.2.2.2.2.1), (m.2.2.2.2.2.2.2.1), w_c_thrown, (m.2.2.2.2.2.2.2.2.2.1), (m.2.2.2.2.2.2.2.2.2.2.1), (m.2.2.2.2.2.2.2.2.2.2.2.1), (m.2.2.2.2.2.2.2.2.2.2.2.2.1), (m.2.2.2.2.2.2.2.2.2.2.2.2.2.1), (m.2.2.2.2.2.2.2.2.2.2.2.2.2.2.1), (m.2.2.2.2.2.2.2.2.2.2.2.2.2.2.2.1), (m.2.2.2.2.2.2.2.2.2.2.2.2.2.2.2.2.1), (m.2.2.2.2.2.2.2.2.2.2.2.2.2.2.2.2.2.1), (m.2.2.2.2.2.2.2.2.2.2.2.2.2.2.2.2.2.2.1), (m.2.2.2.2.2.2.2.2.2.2.2.2.2.2.2.2.2.2.2))))
theorem zM_newGame {l : Launch} {D : va_G} {cI cJ cC cG : ClassId} {sz : Nat} {ad : Nat → Nat} {m : MT} {r : Int32} {m' : MT} (hm : MN_newGame m = some (r, m')) : k_Mi l yX10_newGame wsX10_newGame rmX10_newGame D (kT cI cJ cC cG) sz ([.ref (ad 0)] : List Value) (wMt cI cJ ad m) (wMt cI cJ ad m') r := by
  unfold MN_newGame at hm
  obtain ⟨r, w_c_s, w_c_before, w_c_known, w_c_thrown, hm9, e⟩ := k_bd5s hm
  cases e
  exact zX10_newGame hm9
def XN_append (x : XT) (p0 : Int32) : Option (Int32 × XT) := k_bd3 (mX9_append (x.2.2.2.2.2.1) (x.2.2.2.2.2.2) p0) (fun r w_t_signs w_t_length => some (r, ((x.1), (x.2.1), (x.2.2.1), (x.2.2.2.1), (x.2.2.2.2.1), w_t_signs, w_t_length)))
theorem zB_append {l : Launch} {D : va_G} {cI cJ cC cG : ClassId} {sz : Nat} {h9 hn h0 : Nat} {ap q ht pa pb pc : Nat → Nat} {jk : JT} {x : XT} {oa : Nat} {out : Nat → Int64} {p0 : Int32} {r : Int32} {x' : XT} (hm : XN_append x p0 = some (r, x')) : k_MiE l yL_append wsL_append rmL_append D (kT cI cJ cC cG) sz ([.ref h9, .int p0, .ref oa] : List Value) (wXt cI cJ cC cG h9 hn ap q ht h0 pa pb pc jk x ++ wO cJ oa out) (fun u : (Nat → Nat) × (Nat → Nat) × (Nat → Nat) × (JT) => wXt cI cJ cC cG h9 hn ap (u.1) ht h0 (u.2.1) (u.2.2.1) pc (u.2.2.2) x' ++ wO cJ oa (vp_updL out (Int32.toNatClampNeg 0) (Int32.toInt64 r))) 0 := by
  unfold XN_append at hm
  obtain ⟨r, w_t_signs, w_t_length, hm9, e⟩ := k_bd3s hm
  cases e
  exact zL_append hm9
def XT_append (x : XT) (p0 : Int32) : Option String := mT9_append (x.2.2.2.2.2.1) (x.2.2.2.2.2.2) p0
def MN_append (m : MT) (p0 : Int32) : Option (Int32 × MT) := k_bd4 (mX10_append (m.2.2.2.2.2.2.1) (m.2.2.2.2.2.2.2.1) (m.2.2.2.2.2.2.2.2.1) p0) (fun r w_c_buffer w_c_length w_c_thrown => some (r, ((m.1), (m.2.1), (m.2.2.1), (m.2.2.2.1), (m.2.2.2.2.1), (m.2.2.2.2.2.1), w_c_buffer, w_c_length, w_c_thrown, (m.2.2.2.2.2.2.2.2.2.1), (m.2.2.2.2.2.2.2.2.2.2.1), (m.2.2.2.2.2.2.2.2.2.2.2.1), (m.2.2.2.2.2.2.2.2.2.2.2.2.1), (m.2.2.2.2.2.2.2.2.2.2.2.2.2.1), (m.2.2.2.2.2.2.2.2.2.2.2.2.2.2.1), (m.2.2.2.2.2.2.2.2.2.2.2.2.2.2.2.1), (m.2.2.2.2.2.2.2.2.2.2.2.2.2.2.2.2.1), (m.2.2.2.2.2.2.2.2.2.2.2.2.2.2.2.2.2.1), (m.2.2.2.2.2.2.2.2.2.2.2.2.2.2.2.2.2.2.1), (m.2.2.2.2.2.2.2.2.2.2.2.2.2.2.2.2.2.2.2))))
theorem zM_append {l : Launch} {D : va_G} {cI cJ cC cG : ClassId} {sz : Nat} {ad : Nat → Nat} {m : MT} {p0 : Int32} {r : Int32} {m' : MT} (hm : MN_append m p0 = some (r, m')) : k_Mi l yX10_append wsX10_append rmX10_append D (kT cI cJ cC cG) sz ([.ref (ad 0), .int p0] : List Value) (wMt cI cJ ad m) (wMt cI cJ ad m') r := by
  unfold MN_append at hm
  obtain ⟨r, w_c_buffer, w_c_length, w_c_thrown, hm9, e⟩ := k_bd4s hm
  cases e
  exact zX10_append hm9
def XN_clearBuffer (x : XT) : Option (Int32 × XT) := k_bd2 (mX9_clearBuffer (x.2.2.2.2.2.2)) (fun r w_t_length => some (r, ((x.1), (x.2.1), (x.2.2.1), (x.2.2.2.1), (x.2.2.2.2.1), (x.2.2.2.2.2.1), w_t_length)))
theorem zB_clearBuffer {l : Launch} {D : va_G} {cI cJ cC cG : ClassId} {sz : Nat} {h9 hn h0 : Nat} {ap q ht pa pb pc : Nat → Nat} {jk : JT} {x : XT} {r : Int32} {x' : XT} (hm : XN_clearBuffer x = some (r, x')) : k_MiE l yX9_clearBuffer wsX9_clearBuffer rmX9_clearBuffer D (kT cI cJ cC cG) sz ([.ref h9] : List Value) (wXt cI cJ cC cG h9 hn ap q ht h0 pa pb pc jk x) (fun u : (Nat → Nat) × (Nat → Nat) × (Nat → Nat) × (JT) => wXt cI cJ cC cG h9 hn ap (u.1) ht h0 (u.2.1) (u.2.2.1) pc (u.2.2.2) x') r := by
  unfold XN_clearBuffer at hm
  obtain ⟨r, w_t_length, hm9, e⟩ := k_bd2s hm
  cases e
  exact zX9_clearBuffer hm9
def MN_clearBuffer (m : MT) : Option (Int32 × MT) := k_bd3 (mX10_clearBuffer (m.2.2.2.2.2.2.2.1) (m.2.2.2.2.2.2.2.2.1)) (fun r w_c_length w_c_thrown => some (r, ((m.1), (m.2.1), (m.2.2.1), (m.2.2.2.1), (m.2.2.2.2.1), (m.2.2.2.2.2.1), (m.2.2.2.2.2.2.1), w_c_length, w_c_thrown, (m.2.2.2.2.2.2.2.2.2.1), (m.2.2.2.2.2.2.2.2.2.2.1), (m.2.2.2.2.2.2.2.2.2.2.2.1), (m.2.2.2.2.2.2.2.2.2.2.2.2.1), (m.2.2.2.2.2.2.2.2.2.2.2.2.2.1), (m.2.2.2.2.2.2.2.2.2.2.2.2.2.2.1), (m.2.2.2.2.2.2.2.2.2.2.2.2.2.2.2.1), (m.2.2.2.2.2.2.2.2.2.2.2.2.2.2.2.2.1), (m.2.2.2.2.2.2.2.2.2.2.2.2.2.2.2.2.2.1), (m.2.2.2.2.2.2.2.2.2.2.2.2.2.2.2.2.2.2.1), (m.2.2.2.2.2.2.2.2.2.2.2.2.2.2.2.2.2.2.2))))
theorem zM_clearBuffer {l : Launch} {D : va_G} {cI cJ cC cG : ClassId} {sz : Nat} {ad : Nat → Nat} {m : MT} {r : Int32} {m' : MT} (hm : MN_clearBuffer m = some (r, m')) : k_Mi l yX10_clearBuffer wsX10_clearBuffer rmX10_clearBuffer D (kT cI cJ cC cG) sz ([.ref (ad 0)] : List Value) (wMt cI cJ ad m) (wMt cI cJ ad m') r := by
  unfold MN_clearBuffer at hm
  obtain ⟨r, w_c_length, w_c_thrown, hm9, e⟩ := k_bd3s hm
  cases e
  exact zX10_clearBuffer hm9
def XN_firstError (x : XT) : Option (Int32 × XT) := k_bd (mX9_firstError (x.2.2.2.2.2.1) (x.2.2.2.2.2.2)) (fun r => some (r, ((x.1), (x.2.1), (x.2.2.1), (x.2.2.2.1), (x.2.2.2.2.1), (x.2.2.2.2.2.1), (x.2.2.2.2.2.2))))
theorem zB_firstError {l : Launch} {D : va_G} {cI cJ cC cG : ClassId} {sz : Nat} {h9 hn h0 : Nat} {ap q ht pa pb pc : Nat → Nat} {jk : JT} {x : XT} {r : Int32} {x' : XT} (hm : XN_firstError x = some (r, x')) : k_MiE l yX9_firstError wsX9_firstError rmX9_firstError D (kT cI cJ cC cG) sz ([.ref h9] : List Value) (wXt cI cJ cC cG h9 hn ap q ht h0 pa pb pc jk x) (fun u : (Nat → Nat) × (Nat → Nat) × (Nat → Nat) × (JT) => wXt cI cJ cC cG h9 hn ap (u.1) ht h0 (u.2.1) (u.2.2.1) pc (u.2.2.2) x') r := by
  unfold XN_firstError at hm
  obtain ⟨r, hm9, e⟩ := k_bds hm
  cases e
  exact zX9_firstError hm9
def MN_firstError (m : MT) : Option (Int32 × MT) := k_bd7 (mX10_firstError (m.1) (m.2.2.2.2.2.2.1) (m.2.2.2.2.2.2.2.1) (m.2.2.2.2.2.2.2.2.1) (m.2.2.2.2.2.2.2.2.2.1) (m.2.2.2.2.2.2.2.2.2.2.1) (m.2.2.2.2.2.2.2.2.2.2.2.1) (m.2.2.2.2.2.2.2.2.2.2.2.2.1)) (fun r w_c_s w_c_thrown w_c_laid w_c_spot w_c_isWrong w_c_isHalted => some (r, (w_c_s, (m.2.1), (m.2.2.1), (m.2.2.2.1), (m.2.2.2.2.1), (m.2.2.2.2.2.1), (m.2.2.2.2.2.2.1), (m.2.2.2.2.2.2.2.1), w_c_thrown, w_c_laid, w_c_spot, w_c_isWrong, w_c_isHalted, (m.2.2.2.2.2.2.2.2.2.2.2.2.2.1), (m.2.2.2.2.2.2.2.2.2.2.2.2.2.2.1), (m.2.2.2.2.2.2.2.2.2.2.2.2.2.2.2.1), (m.2.2.2.2.2.2.2.2.2.2.2.2.2.2.2.2.1), (m.2.2.2.2.2.2.2.2.2.2.2.2.2.2.2.2.2.1), (m.2.2.2.2.2.2.2.2.2.2.2.2.2.2.2.2.2.2.1), (m.2.2.2.2.2.2.2.2.2.2.2.2.2.2.2.2.2.2.2))))
theorem zM_firstError {l : Launch} {D : va_G} {cI cJ cC cG : ClassId} {sz : Nat} {ad : Nat → Nat} {m : MT} {r : Int32} {m' : MT} (hm : MN_firstError m = some (r, m')) : k_Mi l yX10_firstError wsX10_firstError rmX10_firstError D (kT cI cJ cC cG) sz ([.ref (ad 0)] : List Value) (wMt cI cJ ad m) (wMt cI cJ ad m') r := by
  unfold MN_firstError at hm
  obtain ⟨r, w_c_s, w_c_thrown, w_c_laid, w_c_spot, w_c_isWrong, w_c_isHalted, hm9, e⟩ := k_bd7s hm
  cases e
  exact zX10_firstError hm9
def XN_play (x : XT) : Option (Int32 × XT) := k_bd17 (mX9_play (x.2.1) (x.2.2.2.1) (x.2.2.2.2.1.1) (x.2.2.2.2.1.2.1) (x.2.2.2.2.1.2.2.1) (x.2.2.2.2.1.2.2.2.1) (x.2.2.2.2.1.2.2.2.2.1) (x.2.2.2.2.1.2.2.2.2.2.1) (x.2.2.2.2.1.2.2.2.2.2.2.1) (x.2.2.2.2.1.2.2.2.2.2.2.2.1) (x.2.2.2.2.1.2.2.2.2.2.2.2.2.1) (x.2.2.2.2.1.2.2.2.2.2.2.2.2.2.1) (x.2.2.2.2.1.2.2.2.2.2.2.2.2.2.2.1) (x.2.2.2.2.1.2.2.2.2.2.2.2.2.2.2.2.1) (x.2.2.2.2.1.2.2.2.2.2.2.2.2.2.2.2.2) (x.2.2.2.2.2.1) (x.2.2.2.2.2.2)) (fun r w_cnt w_G w_c_mover w_c_phase w_c_dice w_c_stake w_c_cube w_c_pieces0 w_c_pieces1 w_c_score0 w_c_score1 w_c_hits0 w_c_hits1 w_c_stopped w_c_stopPart w_t_length => some (r, ((x.1), w_cnt, (x.2.2.1), w_G, (w_c_mover, w_c_phase, w_c_dice, w_c_stake, w_c_cube, w_c_pieces0, w_c_pieces1, w_c_score0, w_c_score1, w_c_hits0, w_c_hits1, w_c_stopped, w_c_stopPart), (x.2.2.2.2.2.1), w_t_length)))
theorem zB_play {l : Launch} {D : va_G} {cI cJ cC cG : ClassId} {sz : Nat} {h9 hn h0 : Nat} {ap q ht pa pb pc : Nat → Nat} {jk : JT} {x : XT} {oa : Nat} {out : Nat → Int64} {r : Int32} {x' : XT} (hm : XN_play x = some (r, x')) : k_MiE l yL_play wsL_play rmL_play D (kT cI cJ cC cG) sz ([.ref h9, .ref oa] : List Value) (wXt cI cJ cC cG h9 hn ap q ht h0 pa pb pc jk x ++ wO cJ oa out) (fun u : (Nat → Nat) × (Nat → Nat) × (Nat → Nat) × (JT) => wXt cI cJ cC cG h9 hn ap (u.1) ht h0 (u.2.1) (u.2.2.1) pc (u.2.2.2) x' ++ wO cJ oa (vp_updL out (Int32.toNatClampNeg 0) (Int32.toInt64 r))) 0 := by
  unfold XN_play at hm
  obtain ⟨r, w_cnt, w_G, w_c_mover, w_c_phase, w_c_dice, w_c_stake, w_c_cube, w_c_pieces0, w_c_pieces1, w_c_score0, w_c_score1, w_c_hits0, w_c_hits1, w_c_stopped, w_c_stopPart, w_t_length, hm9, e⟩ := k_bd17s hm
  cases e
  exact zL_play hm9
def XT_play (x : XT) : Option String := mT9_play (x.2.1) (x.2.2.2.1) (x.2.2.2.2.1.1) (x.2.2.2.2.1.2.1) (x.2.2.2.2.1.2.2.1) (x.2.2.2.2.1.2.2.2.1) (x.2.2.2.2.1.2.2.2.2.1) (x.2.2.2.2.1.2.2.2.2.2.1) (x.2.2.2.2.1.2.2.2.2.2.2.1) (x.2.2.2.2.1.2.2.2.2.2.2.2.1) (x.2.2.2.2.1.2.2.2.2.2.2.2.2.1) (x.2.2.2.2.1.2.2.2.2.2.2.2.2.2.1) (x.2.2.2.2.1.2.2.2.2.2.2.2.2.2.2.1) (x.2.2.2.2.1.2.2.2.2.2.2.2.2.2.2.2.1) (x.2.2.2.2.1.2.2.2.2.2.2.2.2.2.2.2.2) (x.2.2.2.2.2.1) (x.2.2.2.2.2.2)
def MN_play (m : MT) : Option (Int32 × MT) := k_bd10 (mX10_play (m.1) (m.2.1) (m.2.2.1) (m.2.2.2.2.2.2.1) (m.2.2.2.2.2.2.2.1) (m.2.2.2.2.2.2.2.2.1) (m.2.2.2.2.2.2.2.2.2.1) (m.2.2.2.2.2.2.2.2.2.2.1) (m.2.2.2.2.2.2.2.2.2.2.2.1) (m.2.2.2.2.2.2.2.2.2.2.2.2.1)) (fun r w_c_s w_c_before w_c_known w_c_length w_c_thrown w_c_laid w_c_spot w_c_isWrong w_c_isHalted => some (r, (w_c_s, w_c_before, w_c_known, (m.2.2.2.1), (m.2.2.2.2.1), (m.2.2.2.2.2.1), (m.2.2.2.2.2.2.1), w_c_length, w_c_thrown, w_c_laid, w_c_spot, w_c_isWrong, w_c_isHalted, (m.2.2.2.2.2.2.2.2.2.2.2.2.2.1), (m.2.2.2.2.2.2.2.2.2.2.2.2.2.2.1), (m.2.2.2.2.2.2.2.2.2.2.2.2.2.2.2.1), (m.2.2.2.2.2.2.2.2.2.2.2.2.2.2.2.2.1), (m.2.2.2.2.2.2.2.2.2.2.2.2.2.2.2.2.2.1), (m.2.2.2.2.2.2.2.2.2.2.2.2.2.2.2.2.2.2.1), (m.2.2.2.2.2.2.2.2.2.2.2.2.2.2.2.2.2.2.2))))
theorem zM_play {l : Launch} {D : va_G} {cI cJ cC cG : ClassId} {sz : Nat} {ad : Nat → Nat} {m : MT} {r : Int32} {m' : MT} (hm : MN_play m = some (r, m')) : k_Mi l yX10_play wsX10_play rmX10_play D (kT cI cJ cC cG) sz ([.ref (ad 0)] : List Value) (wMt cI cJ ad m) (wMt cI cJ ad m') r := by
  unfold MN_play at hm
  obtain ⟨r, w_c_s, w_c_before, w_c_known, w_c_length, w_c_thrown, w_c_laid, w_c_spot, w_c_isWrong, w_c_isHalted, hm9, e⟩ := k_bd10s hm
  cases e
  exact zX10_play hm9
def XN_hasStopped (x : XT) : Option (Bool × XT) := k_bd (mX9_hasStopped (x.2.2.2.2.1.2.2.2.2.2.2.2.2.2.2.2.1)) (fun r => some (r, ((x.1), (x.2.1), (x.2.2.1), (x.2.2.2.1), (x.2.2.2.2.1), (x.2.2.2.2.2.1), (x.2.2.2.2.2.2))))
theorem zB_hasStopped {l : Launch} {D : va_G} {cI cJ cC cG : ClassId} {sz : Nat} {h9 hn h0 : Nat} {ap q ht pa pb pc : Nat → Nat} {jk : JT} {x : XT} {r : Bool} {x' : XT} (hm : XN_hasStopped x = some (r, x')) : k_MiE l yX9_hasStopped wsX9_hasStopped rmX9_hasStopped D (kT cI cJ cC cG) sz ([.ref h9] : List Value) (wXt cI cJ cC cG h9 hn ap q ht h0 pa pb pc jk x) (fun u : (Nat → Nat) × (Nat → Nat) × (Nat → Nat) × (JT) => wXt cI cJ cC cG h9 hn ap (u.1) ht h0 (u.2.1) (u.2.2.1) pc (u.2.2.2) x') (k_b r) := by
  unfold XN_hasStopped at hm
  obtain ⟨r, hm9, e⟩ := k_bds hm
  cases e
  exact zX9_hasStopped hm9
def MN_hasStopped (m : MT) : Option (Bool × MT) := k_bd2 (mX10_hasStopped (m.1) (m.2.2.2.2.2.2.2.2.1)) (fun r w_c_thrown => some (r, ((m.1), (m.2.1), (m.2.2.1), (m.2.2.2.1), (m.2.2.2.2.1), (m.2.2.2.2.2.1), (m.2.2.2.2.2.2.1), (m.2.2.2.2.2.2.2.1), w_c_thrown, (m.2.2.2.2.2.2.2.2.2.1), (m.2.2.2.2.2.2.2.2.2.2.1), (m.2.2.2.2.2.2.2.2.2.2.2.1), (m.2.2.2.2.2.2.2.2.2.2.2.2.1), (m.2.2.2.2.2.2.2.2.2.2.2.2.2.1), (m.2.2.2.2.2.2.2.2.2.2.2.2.2.2.1), (m.2.2.2.2.2.2.2.2.2.2.2.2.2.2.2.1), (m.2.2.2.2.2.2.2.2.2.2.2.2.2.2.2.2.1), (m.2.2.2.2.2.2.2.2.2.2.2.2.2.2.2.2.2.1), (m.2.2.2.2.2.2.2.2.2.2.2.2.2.2.2.2.2.2.1), (m.2.2.2.2.2.2.2.2.2.2.2.2.2.2.2.2.2.2.2))))
theorem zM_hasStopped {l : Launch} {D : va_G} {cI cJ cC cG : ClassId} {sz : Nat} {ad : Nat → Nat} {m : MT} {r : Bool} {m' : MT} (hm : MN_hasStopped m = some (r, m')) : k_Mi l yX10_hasStopped wsX10_hasStopped rmX10_hasStopped D (kT cI cJ cC cG) sz ([.ref (ad 0)] : List Value) (wMt cI cJ ad m) (wMt cI cJ ad m') (k_b r) := by
  unfold MN_hasStopped at hm
  obtain ⟨r, w_c_thrown, hm9, e⟩ := k_bd2s hm
  cases e
  exact zX10_hasStopped hm9
def XN_stoppedPart (x : XT) : Option (Int32 × XT) := k_bd (mX9_stoppedPart (x.2.2.2.2.1.2.2.2.2.2.2.2.2.2.2.2.1) (x.2.2.2.2.1.2.2.2.2.2.2.2.2.2.2.2.2)) (fun r => some (r, ((x.1), (x.2.1), (x.2.2.1), (x.2.2.2.1), (x.2.2.2.2.1), (x.2.2.2.2.2.1), (x.2.2.2.2.2.2))))
theorem zB_stoppedPart {l : Launch} {D : va_G} {cI cJ cC cG : ClassId} {sz : Nat} {h9 hn h0 : Nat} {ap q ht pa pb pc : Nat → Nat} {jk : JT} {x : XT} {oa : Nat} {out : Nat → Int64} {r : Int32} {x' : XT} (hm : XN_stoppedPart x = some (r, x')) : k_MiE l yL_stoppedPart wsL_stoppedPart rmL_stoppedPart D (kT cI cJ cC cG) sz ([.ref h9, .ref oa] : List Value) (wXt cI cJ cC cG h9 hn ap q ht h0 pa pb pc jk x ++ wO cJ oa out) (fun u : (Nat → Nat) × (Nat → Nat) × (Nat → Nat) × (JT) => wXt cI cJ cC cG h9 hn ap (u.1) ht h0 (u.2.1) (u.2.2.1) pc (u.2.2.2) x' ++ wO cJ oa (vp_updL out (Int32.toNatClampNeg 0) (Int32.toInt64 r))) 0 := by
  unfold XN_stoppedPart at hm
  obtain ⟨r, hm9, e⟩ := k_bds hm
  cases e
  exact zL_stoppedPart hm9
def XT_stoppedPart (x : XT) : Option String := mT9_stoppedPart (x.2.2.2.2.1.2.2.2.2.2.2.2.2.2.2.2.1) (x.2.2.2.2.1.2.2.2.2.2.2.2.2.2.2.2.2)
def MN_stoppedPart (m : MT) : Option (Int32 × MT) := k_bd2 (mX10_stoppedPart (m.1) (m.2.2.2.2.2.2.2.2.1)) (fun r w_c_thrown => some (r, ((m.1), (m.2.1), (m.2.2.1), (m.2.2.2.1), (m.2.2.2.2.1), (m.2.2.2.2.2.1), (m.2.2.2.2.2.2.1), (m.2.2.2.2.2.2.2.1), w_c_thrown, (m.2.2.2.2.2.2.2.2.2.1), (m.2.2.2.2.2.2.2.2.2.2.1), (m.2.2.2.2.2.2.2.2.2.2.2.1), (m.2.2.2.2.2.2.2.2.2.2.2.2.1), (m.2.2.2.2.2.2.2.2.2.2.2.2.2.1), (m.2.2.2.2.2.2.2.2.2.2.2.2.2.2.1), (m.2.2.2.2.2.2.2.2.2.2.2.2.2.2.2.1), (m.2.2.2.2.2.2.2.2.2.2.2.2.2.2.2.2.1), (m.2.2.2.2.2.2.2.2.2.2.2.2.2.2.2.2.2.1), (m.2.2.2.2.2.2.2.2.2.2.2.2.2.2.2.2.2.2.1), (m.2.2.2.2.2.2.2.2.2.2.2.2.2.2.2.2.2.2.2))))
theorem zM_stoppedPart {l : Launch} {D : va_G} {cI cJ cC cG : ClassId} {sz : Nat} {ad : Nat → Nat} {m : MT} {r : Int32} {m' : MT} (hm : MN_stoppedPart m = some (r, m')) : k_Mi l yX10_stoppedPart wsX10_stoppedPart rmX10_stoppedPart D (kT cI cJ cC cG) sz ([.ref (ad 0)] : List Value) (wMt cI cJ ad m) (wMt cI cJ ad m') r := by
  unfold MN_stoppedPart at hm
  obtain ⟨r, w_c_thrown, hm9, e⟩ := k_bd2s hm
  cases e
  exact zX10_stoppedPart hm9
def XN_undo (x : XT) : Option (Int32 × XT) := k_bd15 (mX9_undo (x.2.1) (x.2.2.2.1) (x.2.2.2.2.1.1) (x.2.2.2.2.1.2.1) (x.2.2.2.2.1.2.2.1) (x.2.2.2.2.1.2.2.2.1) (x.2.2.2.2.1.2.2.2.2.1) (x.2.2.2.2.1.2.2.2.2.2.1) (x.2.2.2.2.1.2.2.2.2.2.2.1) (x.2.2.2.2.1.2.2.2.2.2.2.2.1) (x.2.2.2.2.1.2.2.2.2.2.2.2.2.1) (x.2.2.2.2.1.2.2.2.2.2.2.2.2.2.1) (x.2.2.2.2.1.2.2.2.2.2.2.2.2.2.2.1) (x.2.2.2.2.1.2.2.2.2.2.2.2.2.2.2.2.1) (x.2.2.2.2.1.2.2.2.2.2.2.2.2.2.2.2.2)) (fun r w_cnt w_c_mover w_c_phase w_c_dice w_c_stake w_c_cube w_c_pieces0 w_c_pieces1 w_c_score0 w_c_score1 w_c_hits0 w_c_hits1 w_c_stopped w_c_stopPart => some (r, ((x.1), w_cnt, (x.2.2.1), (x.2.2.2.1), (w_c_mover, w_c_phase, w_c_dice, w_c_stake, w_c_cube, w_c_pieces0, w_c_pieces1, w_c_score0, w_c_score1, w_c_hits0, w_c_hits1, w_c_stopped, w_c_stopPart), (x.2.2.2.2.2.1), (x.2.2.2.2.2.2))))
theorem zB_undo {l : Launch} {D : va_G} {cI cJ cC cG : ClassId} {sz : Nat} {h9 hn h0 : Nat} {ap q ht pa pb pc : Nat → Nat} {jk : JT} {x : XT} {oa : Nat} {out : Nat → Int64} {r : Int32} {x' : XT} (hm : XN_undo x = some (r, x')) : k_MiE l yL_undo wsL_undo rmL_undo D (kT cI cJ cC cG) sz ([.ref h9, .ref oa] : List Value) (wXt cI cJ cC cG h9 hn ap q ht h0 pa pb pc jk x ++ wO cJ oa out) (fun u : (Nat → Nat) × (Nat → Nat) × (Nat → Nat) × (JT) => wXt cI cJ cC cG h9 hn ap (u.1) ht h0 (u.2.1) (u.2.2.1) pc (u.2.2.2) x' ++ wO cJ oa (vp_updL out (Int32.toNatClampNeg 0) (Int32.toInt64 r))) 0 := by
  unfold XN_undo at hm
  obtain ⟨r, w_cnt, w_c_mover, w_c_phase, w_c_dice, w_c_stake, w_c_cube, w_c_pieces0, w_c_pieces1, w_c_score0, w_c_score1, w_c_hits0, w_c_hits1, w_c_stopped, w_c_stopPart, hm9, e⟩ := k_bd15s hm
  cases e
  exact zL_undo hm9
def XT_undo (x : XT) : Option String := mT9_undo (x.2.1) (x.2.2.2.1) (x.2.2.2.2.1.1) (x.2.2.2.2.1.2.1) (x.2.2.2.2.1.2.2.1) (x.2.2.2.2.1.2.2.2.1) (x.2.2.2.2.1.2.2.2.2.1) (x.2.2.2.2.1.2.2.2.2.2.1) (x.2.2.2.2.1.2.2.2.2.2.2.1) (x.2.2.2.2.1.2.2.2.2.2.2.2.1) (x.2.2.2.2.1.2.2.2.2.2.2.2.2.1) (x.2.2.2.2.1.2.2.2.2.2.2.2.2.2.1) (x.2.2.2.2.1.2.2.2.2.2.2.2.2.2.2.1) (x.2.2.2.2.1.2.2.2.2.2.2.2.2.2.2.2.1) (x.2.2.2.2.1.2.2.2.2.2.2.2.2.2.2.2.2)
def MN_undo (m : MT) : Option (Int32 × MT) := k_bd4 (mX10_undo (m.1) (m.2.1) (m.2.2.1) (m.2.2.2.2.2.2.2.2.1)) (fun r w_c_s w_c_known w_c_thrown => some (r, (w_c_s, (m.2.1), w_c_known, (m.2.2.2.1), (m.2.2.2.2.1), (m.2.2.2.2.2.1), (m.2.2.2.2.2.2.1), (m.2.2.2.2.2.2.2.1), w_c_thrown, (m.2.2.2.2.2.2.2.2.2.1), (m.2.2.2.2.2.2.2.2.2.2.1), (m.2.2.2.2.2.2.2.2.2.2.2.1), (m.2.2.2.2.2.2.2.2.2.2.2.2.1), (m.2.2.2.2.2.2.2.2.2.2.2.2.2.1), (m.2.2.2.2.2.2.2.2.2.2.2.2.2.2.1), (m.2.2.2.2.2.2.2.2.2.2.2.2.2.2.2.1), (m.2.2.2.2.2.2.2.2.2.2.2.2.2.2.2.2.1), (m.2.2.2.2.2.2.2.2.2.2.2.2.2.2.2.2.2.1), (m.2.2.2.2.2.2.2.2.2.2.2.2.2.2.2.2.2.2.1), (m.2.2.2.2.2.2.2.2.2.2.2.2.2.2.2.2.2.2.2))))
theorem zM_undo {l : Launch} {D : va_G} {cI cJ cC cG : ClassId} {sz : Nat} {ad : Nat → Nat} {m : MT} {r : Int32} {m' : MT} (hm : MN_undo m = some (r, m')) : k_Mi l yX10_undo wsX10_undo rmX10_undo D (kT cI cJ cC cG) sz ([.ref (ad 0)] : List Value) (wMt cI cJ ad m) (wMt cI cJ ad m') r := by
  unfold MN_undo at hm
  obtain ⟨r, w_c_s, w_c_known, w_c_thrown, hm9, e⟩ := k_bd4s hm
  cases e
  exact zX10_undo hm9
def XN_keep (x : XT) : Option (Int32 × XT) := k_bd3 (mX9_keep (x.1) (x.2.2.1) (x.2.2.2.2.1.1) (x.2.2.2.2.1.2.1) (x.2.2.2.2.1.2.2.1) (x.2.2.2.2.1.2.2.2.1) (x.2.2.2.2.1.2.2.2.2.1) (x.2.2.2.2.1.2.2.2.2.2.1) (x.2.2.2.2.1.2.2.2.2.2.2.1) (x.2.2.2.2.1.2.2.2.2.2.2.2.1) (x.2.2.2.2.1.2.2.2.2.2.2.2.2.1) (x.2.2.2.2.1.2.2.2.2.2.2.2.2.2.1) (x.2.2.2.2.1.2.2.2.2.2.2.2.2.2.2.1) (x.2.2.2.2.1.2.2.2.2.2.2.2.2.2.2.2.1) (x.2.2.2.2.1.2.2.2.2.2.2.2.2.2.2.2.2)) (fun r w_hasS w_snp => some (r, (w_hasS, (x.2.1), w_snp, (x.2.2.2.1), (x.2.2.2.2.1), (x.2.2.2.2.2.1), (x.2.2.2.2.2.2))))
theorem zB_keep {l : Launch} {D : va_G} {cI cJ cC cG : ClassId} {sz : Nat} {h9 hn h0 : Nat} {ap q ht pa pb pc : Nat → Nat} {jk : JT} {x : XT} {r : Int32} {x' : XT} (hm : XN_keep x = some (r, x')) : k_MiE l yX9_keep wsX9_keep rmX9_keep D (kT cI cJ cC cG) sz ([.ref h9] : List Value) (wXt cI cJ cC cG h9 hn ap q ht h0 pa pb pc jk x) (fun u : (Nat → Nat) × (Nat → Nat) × (Nat → Nat) × (JT) => wXt cI cJ cC cG h9 hn ap (u.1) ht h0 (u.2.1) (u.2.2.1) pc (u.2.2.2) x') r := by
  unfold XN_keep at hm
  obtain ⟨r, w_hasS, w_snp, hm9, e⟩ := k_bd3s hm
  cases e
  exact zX9_keep hm9
def MN_keep (m : MT) : Option (Int32 × MT) := k_bd4 (mX10_keep (m.1) (m.2.2.2.1) (m.2.2.2.2.1) (m.2.2.2.2.2.2.2.2.1)) (fun r w_c_kept w_c_isKept w_c_thrown => some (r, ((m.1), (m.2.1), (m.2.2.1), w_c_kept, w_c_isKept, (m.2.2.2.2.2.1), (m.2.2.2.2.2.2.1), (m.2.2.2.2.2.2.2.1), w_c_thrown, (m.2.2.2.2.2.2.2.2.2.1), (m.2.2.2.2.2.2.2.2.2.2.1), (m.2.2.2.2.2.2.2.2.2.2.2.1), (m.2.2.2.2.2.2.2.2.2.2.2.2.1), (m.2.2.2.2.2.2.2.2.2.2.2.2.2.1), (m.2.2.2.2.2.2.2.2.2.2.2.2.2.2.1), (m.2.2.2.2.2.2.2.2.2.2.2.2.2.2.2.1), (m.2.2.2.2.2.2.2.2.2.2.2.2.2.2.2.2.1), (m.2.2.2.2.2.2.2.2.2.2.2.2.2.2.2.2.2.1), (m.2.2.2.2.2.2.2.2.2.2.2.2.2.2.2.2.2.2.1), (m.2.2.2.2.2.2.2.2.2.2.2.2.2.2.2.2.2.2.2))))
theorem zM_keep {l : Launch} {D : va_G} {cI cJ cC cG : ClassId} {sz : Nat} {ad : Nat → Nat} {m : MT} {r : Int32} {m' : MT} (hm : MN_keep m = some (r, m')) : k_Mi l yX10_keep wsX10_keep rmX10_keep D (kT cI cJ cC cG) sz ([.ref (ad 0)] : List Value) (wMt cI cJ ad m) (wMt cI cJ ad m') r := by
  unfold MN_keep at hm
  obtain ⟨r, w_c_kept, w_c_isKept, w_c_thrown, hm9, e⟩ := k_bd4s hm
  cases e
  exact zX10_keep hm9
def XN_restore (x : XT) : Option (Int32 × XT) := k_bd16 (mX9_restore (x.1) (x.2.1) (x.2.2.1) (x.2.2.2.1) (x.2.2.2.2.1.1) (x.2.2.2.2.1.2.1) (x.2.2.2.2.1.2.2.1) (x.2.2.2.2.1.2.2.2.1) (x.2.2.2.2.1.2.2.2.2.1) (x.2.2.2.2.1.2.2.2.2.2.1) (x.2.2.2.2.1.2.2.2.2.2.2.1) (x.2.2.2.2.1.2.2.2.2.2.2.2.1) (x.2.2.2.2.1.2.2.2.2.2.2.2.2.1) (x.2.2.2.2.1.2.2.2.2.2.2.2.2.2.1) (x.2.2.2.2.1.2.2.2.2.2.2.2.2.2.2.1) (x.2.2.2.2.1.2.2.2.2.2.2.2.2.2.2.2.1) (x.2.2.2.2.1.2.2.2.2.2.2.2.2.2.2.2.2)) (fun r w_cnt w_G w_c_mover w_c_phase w_c_dice w_c_stake w_c_cube w_c_pieces0 w_c_pieces1 w_c_score0 w_c_score1 w_c_hits0 w_c_hits1 w_c_stopped w_c_stopPart => some (r, ((x.1), w_cnt, (x.2.2.1), w_G, (w_c_mover, w_c_phase, w_c_dice, w_c_stake, w_c_cube, w_c_pieces0, w_c_pieces1, w_c_score0, w_c_score1, w_c_hits0, w_c_hits1, w_c_stopped, w_c_stopPart), (x.2.2.2.2.2.1), (x.2.2.2.2.2.2))))
theorem zB_restore {l : Launch} {D : va_G} {cI cJ cC cG : ClassId} {sz : Nat} {h9 hn h0 : Nat} {ap q ht pa pb pc : Nat → Nat} {jk : JT} {x : XT} {oa : Nat} {out : Nat → Int64} {r : Int32} {x' : XT} (hm : XN_restore x = some (r, x')) : k_MiE l yL_restore wsL_restore rmL_restore D (kT cI cJ cC cG) sz ([.ref h9, .ref oa] : List Value) (wXt cI cJ cC cG h9 hn ap q ht h0 pa pb pc jk x ++ wO cJ oa out) (fun u : (Nat → Nat) × (Nat → Nat) × (Nat → Nat) × (JT) => wXt cI cJ cC cG h9 hn ap (u.1) ht h0 (u.2.1) (u.2.2.1) pc (u.2.2.2) x' ++ wO cJ oa (vp_updL out (Int32.toNatClampNeg 0) (Int32.toInt64 r))) 0 := by
  unfold XN_restore at hm
  obtain ⟨r, w_cnt, w_G, w_c_mover, w_c_phase, w_c_dice, w_c_stake, w_c_cube, w_c_pieces0, w_c_pieces1, w_c_score0, w_c_score1, w_c_hits0, w_c_hits1, w_c_stopped, w_c_stopPart, hm9, e⟩ := k_bd16s hm
  cases e
  exact zL_restore hm9
def XT_restore (x : XT) : Option String := mT9_restore (x.1) (x.2.1) (x.2.2.1) (x.2.2.2.1) (x.2.2.2.2.1.1) (x.2.2.2.2.1.2.1) (x.2.2.2.2.1.2.2.1) (x.2.2.2.2.1.2.2.2.1) (x.2.2.2.2.1.2.2.2.2.1) (x.2.2.2.2.1.2.2.2.2.2.1) (x.2.2.2.2.1.2.2.2.2.2.2.1) (x.2.2.2.2.1.2.2.2.2.2.2.2.1) (x.2.2.2.2.1.2.2.2.2.2.2.2.2.1) (x.2.2.2.2.1.2.2.2.2.2.2.2.2.2.1) (x.2.2.2.2.1.2.2.2.2.2.2.2.2.2.2.1) (x.2.2.2.2.1.2.2.2.2.2.2.2.2.2.2.2.1) (x.2.2.2.2.1.2.2.2.2.2.2.2.2.2.2.2.2)
def MN_restore (m : MT) : Option (Int32 × MT) := k_bd5 (mX10_restore (m.1) (m.2.1) (m.2.2.1) (m.2.2.2.1) (m.2.2.2.2.1) (m.2.2.2.2.2.2.2.2.1)) (fun r w_c_s w_c_before w_c_known w_c_thrown => some (r, (w_c_s, w_c_before, w_c_known, (m.2.2.2.1), (m.2.2.2.2.1), (m.2.2.2.2.2.1), (m.2.2.2.2.2.2.1), (m.2.2.2.2.2.2.2.1), w_c_thrown, (m.2.2.2.2.2.2.2.2.2.1), (m.2.2.2.2.2.2.2.2.2.2.1), (m.2.2.2.2.2.2.2.2.2.2.2.1), (m.2.2.2.2.2.2.2.2.2.2.2.2.1), (m.2.2.2.2.2.2.2.2.2.2.2.2.2.1), (m.2.2.2.2.2.2.2.2.2.2.2.2.2.2.1), (m.2.2.2.2.2.2.2.2.2.2.2.2.2.2.2.1), (m.2.2.2.2.2.2.2.2.2.2.2.2.2.2.2.2.1), (m.2.2.2.2.2.2.2.2.2.2.2.2.2.2.2.2.2.1), (m.2.2.2.2.2.2.2.2.2.2.2.2.2.2.2.2.2.2.1), (m.2.2.2.2.2.2.2.2.2.2.2.2.2.2.2.2.2.2.2))))
theorem zM_restore {l : Launch} {D : va_G} {cI cJ cC cG : ClassId} {sz : Nat} {ad : Nat → Nat} {m : MT} {r : Int32} {m' : MT} (hm : MN_restore m = some (r, m')) : k_Mi l yX10_restore wsX10_restore rmX10_restore D (kT cI cJ cC cG) sz ([.ref (ad 0)] : List Value) (wMt cI cJ ad m) (wMt cI cJ ad m') r := by
  unfold MN_restore at hm
  obtain ⟨r, w_c_s, w_c_before, w_c_known, w_c_thrown, hm9, e⟩ := k_bd5s hm
  cases e
  exact zX10_restore hm9
def XN_savedStates (x : XT) : Option (Int32 × XT) := k_bd (mX9_savedStates (x.2.1)) (fun r => some (r, ((x.1), (x.2.1), (x.2.2.1), (x.2.2.2.1), (x.2.2.2.2.1), (x.2.2.2.2.2.1), (x.2.2.2.2.2.2))))
theorem zB_savedStates {l : Launch} {D : va_G} {cI cJ cC cG : ClassId} {sz : Nat} {h9 hn h0 : Nat} {ap q ht pa pb pc : Nat → Nat} {jk : JT} {x : XT} {r : Int32} {x' : XT} (hm : XN_savedStates x = some (r, x')) : k_MiE l yX9_savedStates wsX9_savedStates rmX9_savedStates D (kT cI cJ cC cG) sz ([.ref h9] : List Value) (wXt cI cJ cC cG h9 hn ap q ht h0 pa pb pc jk x) (fun u : (Nat → Nat) × (Nat → Nat) × (Nat → Nat) × (JT) => wXt cI cJ cC cG h9 hn ap (u.1) ht h0 (u.2.1) (u.2.2.1) pc (u.2.2.2) x') r := by
  unfold XN_savedStates at hm
  obtain ⟨r, hm9, e⟩ := k_bds hm
  cases e
  exact zX9_savedStates hm9
def MN_savedStates (m : MT) : Option (Int32 × MT) := k_bd2 (mX10_savedStates (m.2.2.1) (m.2.2.2.2.2.2.2.2.1)) (fun r w_c_thrown => some (r, ((m.1), (m.2.1), (m.2.2.1), (m.2.2.2.1), (m.2.2.2.2.1), (m.2.2.2.2.2.1), (m.2.2.2.2.2.2.1), (m.2.2.2.2.2.2.2.1), w_c_thrown, (m.2.2.2.2.2.2.2.2.2.1), (m.2.2.2.2.2.2.2.2.2.2.1), (m.2.2.2.2.2.2.2.2.2.2.2.1), (m.2.2.2.2.2.2.2.2.2.2.2.2.1), (m.2.2.2.2.2.2.2.2.2.2.2.2.2.1), (m.2.2.2.2.2.2.2.2.2.2.2.2.2.2.1), (m.2.2.2.2.2.2.2.2.2.2.2.2.2.2.2.1), (m.2.2.2.2.2.2.2.2.2.2.2.2.2.2.2.2.1), (m.2.2.2.2.2.2.2.2.2.2.2.2.2.2.2.2.2.1), (m.2.2.2.2.2.2.2.2.2.2.2.2.2.2.2.2.2.2.1), (m.2.2.2.2.2.2.2.2.2.2.2.2.2.2.2.2.2.2.2))))
theorem zM_savedStates {l : Launch} {D : va_G} {cI cJ cC cG : ClassId} {sz : Nat} {ad : Nat → Nat} {m : MT} {r : Int32} {m' : MT} (hm : MN_savedStates m = some (r, m')) : k_Mi l yX10_savedStates wsX10_savedStates rmX10_savedStates D (kT cI cJ cC cG) sz ([.ref (ad 0)] : List Value) (wMt cI cJ ad m) (wMt cI cJ ad m') r := by
  unfold MN_savedStates at hm
  obtain ⟨r, w_c_thrown, hm9, e⟩ := k_bd2s hm
  cases e
  exact zX10_savedStates hm9
def XN_mover (x : XT) : Option (Int32 × XT) := k_bd (mX9_mover (x.2.2.2.2.1.1)) (fun r => some (r, ((x.1), (x.2.1), (x.2.2.1), (x.2.2.2.1), (x.2.2.2.2.1), (x.2.2.2.2.2.1), (x.2.2.2.2.2.2))))
theorem zB_mover {l : Launch} {D : va_G} {cI cJ cC cG : ClassId} {sz : Nat} {h9 hn h0 : Nat} {ap q ht pa pb pc : Nat → Nat} {jk : JT} {x : XT} {r : Int32} {x' : XT} (hm : XN_mover x = some (r, x')) : k_MiE l yX9_mover wsX9_mover rmX9_mover D (kT cI cJ cC cG) sz ([.ref h9] : List Value) (wXt cI cJ cC cG h9 hn ap q ht h0 pa pb pc jk x) (fun u : (Nat → Nat) × (Nat → Nat) × (Nat → Nat) × (JT) => wXt cI cJ cC cG h9 hn ap (u.1) ht h0 (u.2.1) (u.2.2.1) pc (u.2.2.2) x') r := by
  unfold XN_mover at hm
  obtain ⟨r, hm9, e⟩ := k_bds hm
  cases e
  exact zX9_mover hm9
def MN_mover (m : MT) : Option (Int32 × MT) := k_bd2 (mX10_mover (m.1) (m.2.2.2.2.2.2.2.2.1)) (fun r w_c_thrown => some (r, ((m.1), (m.2.1), (m.2.2.1), (m.2.2.2.1), (m.2.2.2.2.1), (m.2.2.2.2.2.1), (m.2.2.2.2.2.2.1), (m.2.2.2.2.2.2.2.1), w_c_thrown, (m.2.2.2.2.2.2.2.2.2.1), (m.2.2.2.2.2.2.2.2.2.2.1), (m.2.2.2.2.2.2.2.2.2.2.2.1), (m.2.2.2.2.2.2.2.2.2.2.2.2.1), (m.2.2.2.2.2.2.2.2.2.2.2.2.2.1), (m.2.2.2.2.2.2.2.2.2.2.2.2.2.2.1), (m.2.2.2.2.2.2.2.2.2.2.2.2.2.2.2.1), (m.2.2.2.2.2.2.2.2.2.2.2.2.2.2.2.2.1), (m.2.2.2.2.2.2.2.2.2.2.2.2.2.2.2.2.2.1), (m.2.2.2.2.2.2.2.2.2.2.2.2.2.2.2.2.2.2.1), (m.2.2.2.2.2.2.2.2.2.2.2.2.2.2.2.2.2.2.2))))
theorem zM_mover {l : Launch} {D : va_G} {cI cJ cC cG : ClassId} {sz : Nat} {ad : Nat → Nat} {m : MT} {r : Int32} {m' : MT} (hm : MN_mover m = some (r, m')) : k_Mi l yX10_mover wsX10_mover rmX10_mover D (kT cI cJ cC cG) sz ([.ref (ad 0)] : List Value) (wMt cI cJ ad m) (wMt cI cJ ad m') r := by
  unfold MN_mover at hm
  obtain ⟨r, w_c_thrown, hm9, e⟩ := k_bd2s hm
  cases e
  exact zX10_mover hm9
def XN_phase (x : XT) : Option (Int32 × XT) := k_bd (mX9_phase (x.2.2.2.2.1.2.1)) (fun r => some (r, ((x.1), (x.2.1), (x.2.2.1), (x.2.2.2.1), (x.2.2.2.2.1), (x.2.2.2.2.2.1), (x.2.2.2.2.2.2))))
theorem zB_phase {l : Launch} {D : va_G} {cI cJ cC cG : ClassId} {sz : Nat} {h9 hn h0 : Nat} {ap q ht pa pb pc : Nat → Nat} {jk : JT} {x : XT} {r : Int32} {x' : XT} (hm : XN_phase x = some (r, x')) : k_MiE l yX9_phase wsX9_phase rmX9_phase D (kT cI cJ cC cG) sz ([.ref h9] : List Value) (wXt cI cJ cC cG h9 hn ap q ht h0 pa pb pc jk x) (fun u : (Nat → Nat) × (Nat → Nat) × (Nat → Nat) × (JT) => wXt cI cJ cC cG h9 hn ap (u.1) ht h0 (u.2.1) (u.2.2.1) pc (u.2.2.2) x') r := by
  unfold XN_phase at hm
  obtain ⟨r, hm9, e⟩ := k_bds hm
  cases e
  exact zX9_phase hm9
def MN_phase (m : MT) : Option (Int32 × MT) := k_bd2 (mX10_phase (m.1) (m.2.2.2.2.2.2.2.2.1)) (fun r w_c_thrown => some (r, ((m.1), (m.2.1), (m.2.2.1), (m.2.2.2.1), (m.2.2.2.2.1), (m.2.2.2.2.2.1), (m.2.2.2.2.2.2.1), (m.2.2.2.2.2.2.2.1), w_c_thrown, (m.2.2.2.2.2.2.2.2.2.1), (m.2.2.2.2.2.2.2.2.2.2.1), (m.2.2.2.2.2.2.2.2.2.2.2.1), (m.2.2.2.2.2.2.2.2.2.2.2.2.1), (m.2.2.2.2.2.2.2.2.2.2.2.2.2.1), (m.2.2.2.2.2.2.2.2.2.2.2.2.2.2.1), (m.2.2.2.2.2.2.2.2.2.2.2.2.2.2.2.1), (m.2.2.2.2.2.2.2.2.2.2.2.2.2.2.2.2.1), (m.2.2.2.2.2.2.2.2.2.2.2.2.2.2.2.2.2.1), (m.2.2.2.2.2.2.2.2.2.2.2.2.2.2.2.2.2.2.1), (m.2.2.2.2.2.2.2.2.2.2.2.2.2.2.2.2.2.2.2))))
theorem zM_phase {l : Launch} {D : va_G} {cI cJ cC cG : ClassId} {sz : Nat} {ad : Nat → Nat} {m : MT} {r : Int32} {m' : MT} (hm : MN_phase m = some (r, m')) : k_Mi l yX10_phase wsX10_phase rmX10_phase D (kT cI cJ cC cG) sz ([.ref (ad 0)] : List Value) (wMt cI cJ ad m) (wMt cI cJ ad m') r := by
  unfold MN_phase at hm
  obtain ⟨r, w_c_thrown, hm9, e⟩ := k_bd2s hm
  cases e
  exact zX10_phase hm9
def XN_diceLeft (x : XT) : Option (Int32 × XT) := k_bd (mX9_diceLeft (x.2.2.2.2.1.2.2.1)) (fun r => some (r, ((x.1), (x.2.1), (x.2.2.1), (x.2.2.2.1), (x.2.2.2.2.1), (x.2.2.2.2.2.1), (x.2.2.2.2.2.2))))
theorem zB_diceLeft {l : Launch} {D : va_G} {cI cJ cC cG : ClassId} {sz : Nat} {h9 hn h0 : Nat} {ap q ht pa pb pc : Nat → Nat} {jk : JT} {x : XT} {r : Int32} {x' : XT} (hm : XN_diceLeft x = some (r, x')) : k_MiE l yX9_diceLeft wsX9_diceLeft rmX9_diceLeft D (kT cI cJ cC cG) sz ([.ref h9] : List Value) (wXt cI cJ cC cG h9 hn ap q ht h0 pa pb pc jk x) (fun u : (Nat → Nat) × (Nat → Nat) × (Nat → Nat) × (JT) => wXt cI cJ cC cG h9 hn ap (u.1) ht h0 (u.2.1) (u.2.2.1) pc (u.2.2.2) x') r := by
  unfold XN_diceLeft at hm
  obtain ⟨r, hm9, e⟩ := k_bds hm
  cases e
  exact zX9_diceLeft hm9
def MN_diceLeft (m : MT) : Option (Int32 × MT) := k_bd2 (mX10_diceLeft (m.1) (m.2.2.2.2.2.2.2.2.1)) (fun r w_c_thrown => some (r, ((m.1), (m.2.1), (m.2.2.1), (m.2.2.2.1), (m.2.2.2.2.1), (m.2.2.2.2.2.1), (m.2.2.2.2.2.2.1), (m.2.2.2.2.2.2.2.1), w_c_thrown, (m.2.2.2.2.2.2.2.2.2.1), (m.2.2.2.2.2.2.2.2.2.2.1), (m.2.2.2.2.2.2.2.2.2.2.2.1), (m.2.2.2.2.2.2.2.2.2.2.2.2.1), (m.2.2.2.2.2.2.2.2.2.2.2.2.2.1), (m.2.2.2.2.2.2.2.2.2.2.2.2.2.2.1), (m.2.2.2.2.2.2.2.2.2.2.2.2.2.2.2.1), (m.2.2.2.2.2.2.2.2.2.2.2.2.2.2.2.2.1), (m.2.2.2.2.2.2.2.2.2.2.2.2.2.2.2.2.2.1), (m.2.2.2.2.2.2.2.2.2.2.2.2.2.2.2.2.2.2.1), (m.2.2.2.2.2.2.2.2.2.2.2.2.2.2.2.2.2.2.2))))
theorem zM_diceLeft {l : Launch} {D : va_G} {cI cJ cC cG : ClassId} {sz : Nat} {ad : Nat → Nat} {m : MT} {r : Int32} {m' : MT} (hm : MN_diceLeft m = some (r, m')) : k_Mi l yX10_diceLeft wsX10_diceLeft rmX10_diceLeft D (kT cI cJ cC cG) sz ([.ref (ad 0)] : List Value) (wMt cI cJ ad m) (wMt cI cJ ad m') r := by
  unfold MN_diceLeft at hm
  obtain ⟨r, w_c_thrown, hm9, e⟩ := k_bd2s hm
  cases e
  exact zX10_diceLeft hm9
def XN_dieLeft (x : XT) (p0 : Int32) : Option (Int32 × XT) := k_bd (mX9_dieLeft (x.2.2.2.2.1.2.2.1) p0) (fun r => some (r, ((x.1), (x.2.1), (x.2.2.1), (x.2.2.2.1), (x.2.2.2.2.1), (x.2.2.2.2.2.1), (x.2.2.2.2.2.2))))
theorem zB_dieLeft {l : Launch} {D : va_G} {cI cJ cC cG : ClassId} {sz : Nat} {h9 hn h0 : Nat} {ap q ht pa pb pc : Nat → Nat} {jk : JT} {x : XT} {oa : Nat} {out : Nat → Int64} {p0 : Int32} {r : Int32} {x' : XT} (hm : XN_dieLeft x p0 = some (r, x')) : k_MiE l yL_dieLeft wsL_dieLeft rmL_dieLeft D (kT cI cJ cC cG) sz ([.ref h9, .int p0, .ref oa] : List Value) (wXt cI cJ cC cG h9 hn ap q ht h0 pa pb pc jk x ++ wO cJ oa out) (fun u : (Nat → Nat) × (Nat → Nat) × (Nat → Nat) × (JT) => wXt cI cJ cC cG h9 hn ap (u.1) ht h0 (u.2.1) (u.2.2.1) pc (u.2.2.2) x' ++ wO cJ oa (vp_updL out (Int32.toNatClampNeg 0) (Int32.toInt64 r))) 0 := by
  unfold XN_dieLeft at hm
  obtain ⟨r, hm9, e⟩ := k_bds hm
  cases e
  exact zL_dieLeft hm9
def XT_dieLeft (x : XT) (p0 : Int32) : Option String := mT9_dieLeft (x.2.2.2.2.1.2.2.1) p0
def MN_dieLeft (m : MT) (p0 : Int32) : Option (Int32 × MT) := k_bd2 (mX10_dieLeft (m.1) (m.2.2.2.2.2.2.2.2.1) p0) (fun r w_c_thrown => some (r, ((m.1), (m.2.1), (m.2.2.1), (m.2.2.2.1), (m.2.2.2.2.1), (m.2.2.2.2.2.1), (m.2.2.2.2.2.2.1), (m.2.2.2.2.2.2.2.1), w_c_thrown, (m.2.2.2.2.2.2.2.2.2.1), (m.2.2.2.2.2.2.2.2.2.2.1), (m.2.2.2.2.2.2.2.2.2.2.2.1), (m.2.2.2.2.2.2.2.2.2.2.2.2.1), (m.2.2.2.2.2.2.2.2.2.2.2.2.2.1), (m.2.2.2.2.2.2.2.2.2.2.2.2.2.2.1), (m.2.2.2.2.2.2.2.2.2.2.2.2.2.2.2.1), (m.2.2.2.2.2.2.2.2.2.2.2.2.2.2.2.2.1), (m.2.2.2.2.2.2.2.2.2.2.2.2.2.2.2.2.2.1), (m.2.2.2.2.2.2.2.2.2.2.2.2.2.2.2.2.2.2.1), (m.2.2.2.2.2.2.2.2.2.2.2.2.2.2.2.2.2.2.2))))
theorem zM_dieLeft {l : Launch} {D : va_G} {cI cJ cC cG : ClassId} {sz : Nat} {ad : Nat → Nat} {m : MT} {p0 : Int32} {r : Int32} {m' : MT} (hm : MN_dieLeft m p0 = some (r, m')) : k_Mi l yX10_dieLeft wsX10_dieLeft rmX10_dieLeft D (kT cI cJ cC cG) sz ([.ref (ad 0), .int p0] : List Value) (wMt cI cJ ad m) (wMt cI cJ ad m') r := by
  unfold MN_dieLeft at hm
  obtain ⟨r, w_c_thrown, hm9, e⟩ := k_bd2s hm
  cases e
  exact zX10_dieLeft hm9
def XN_piecesOn (x : XT) (p0 : Int32) (p1 : Int32) : Option (Int32 × XT) := k_bd (mX9_piecesOn (x.2.2.2.2.1.2.2.2.2.2.1) (x.2.2.2.2.1.2.2.2.2.2.2.1) p0 p1) (fun r => some (r, ((x.1), (x.2.1), (x.2.2.1), (x.2.2.2.1), (x.2.2.2.2.1), (x.2.2.2.2.2.1), (x.2.2.2.2.2.2))))
theorem zB_piecesOn {l : Launch} {D : va_G} {cI cJ cC cG : ClassId} {sz : Nat} {h9 hn h0 : Nat} {ap q ht pa pb pc : Nat → Nat} {jk : JT} {x : XT} {oa : Nat} {out : Nat → Int64} {p0 : Int32} {p1 : Int32} {r : Int32} {x' : XT} (hm : XN_piecesOn x p0 p1 = some (r, x')) : k_MiE l yL_piecesOn wsL_piecesOn rmL_piecesOn D (kT cI cJ cC cG) sz ([.ref h9, .int p0, .int p1, .ref oa] : List Value) (wXt cI cJ cC cG h9 hn ap q ht h0 pa pb pc jk x ++ wO cJ oa out) (fun u : (Nat → Nat) × (Nat → Nat) × (Nat → Nat) × (JT) => wXt cI cJ cC cG h9 hn ap (u.1) ht h0 (u.2.1) (u.2.2.1) pc (u.2.2.2) x' ++ wO cJ oa (vp_updL out (Int32.toNatClampNeg 0) (Int32.toInt64 r))) 0 := by
  unfold XN_piecesOn at hm
  obtain ⟨r, hm9, e⟩ := k_bds hm
  cases e
  exact zL_piecesOn hm9
def XT_piecesOn (x : XT) (p0 : Int32) (p1 : Int32) : Option String := mT9_piecesOn (x.2.2.2.2.1.2.2.2.2.2.1) (x.2.2.2.2.1.2.2.2.2.2.2.1) p0 p1
def MN_piecesOn (m : MT) (p0 : Int32) (p1 : Int32) : Option (Int32 × MT) := k_bd2 (mX10_piecesOn (m.1) (m.2.2.2.2.2.2.2.2.1) p0 p1) (fun r w_c_thrown => some (r, ((m.1), (m.2.1), (m.2.2.1), (m.2.2.2.1), (m.2.2.2.2.1), (m.2.2.2.2.2.1), (m.2.2.2.2.2.2.1), (m.2.2.2.2.2.2.2.1), w_c_thrown, (m.2.2.2.2.2.2.2.2.2.1), (m.2.2.2.2.2.2.2.2.2.2.1), (m.2.2.2.2.2.2.2.2.2.2.2.1), (m.2.2.2.2.2.2.2.2.2.2.2.2.1), (m.2.2.2.2.2.2.2.2.2.2.2.2.2.1), (m.2.2.2.2.2.2.2.2.2.2.2.2.2.2.1), (m.2.2.2.2.2.2.2.2.2.2.2.2.2.2.2.1), (m.2.2.2.2.2.2.2.2.2.2.2.2.2.2.2.2.1), (m.2.2.2.2.2.2.2.2.2.2.2.2.2.2.2.2.2.1), (m.2.2.2.2.2.2.2.2.2.2.2.2.2.2.2.2.2.2.1), (m.2.2.2.2.2.2.2.2.2.2.2.2.2.2.2.2.2.2.2))))
theorem zM_piecesOn {l : Launch} {D : va_G} {cI cJ cC cG : ClassId} {sz : Nat} {ad : Nat → Nat} {m : MT} {p0 : Int32} {p1 : Int32} {r : Int32} {m' : MT} (hm : MN_piecesOn m p0 p1 = some (r, m')) : k_Mi l yX10_piecesOn wsX10_piecesOn rmX10_piecesOn D (kT cI cJ cC cG) sz ([.ref (ad 0), .int p0, .int p1] : List Value) (wMt cI cJ ad m) (wMt cI cJ ad m') r := by
  unfold MN_piecesOn at hm
  obtain ⟨r, w_c_thrown, hm9, e⟩ := k_bd2s hm
  cases e
  exact zX10_piecesOn hm9
def XN_onBar (x : XT) (p0 : Int32) : Option (Int32 × XT) := k_bd (mX9_onBar (x.2.2.2.2.1.2.2.2.2.2.1) (x.2.2.2.2.1.2.2.2.2.2.2.1) p0) (fun r => some (r, ((x.1), (x.2.1), (x.2.2.1), (x.2.2.2.1), (x.2.2.2.2.1), (x.2.2.2.2.2.1), (x.2.2.2.2.2.2))))
theorem zB_onBar {l : Launch} {D : va_G} {cI cJ cC cG : ClassId} {sz : Nat} {h9 hn h0 : Nat} {ap q ht pa pb pc : Nat → Nat} {jk : JT} {x : XT} {oa : Nat} {out : Nat → Int64} {p0 : Int32} {r : Int32} {x' : XT} (hm : XN_onBar x p0 = some (r, x')) : k_MiE l yL_onBar wsL_onBar rmL_onBar D (kT cI cJ cC cG) sz ([.ref h9, .int p0, .ref oa] : List Value) (wXt cI cJ cC cG h9 hn ap q ht h0 pa pb pc jk x ++ wO cJ oa out) (fun u : (Nat → Nat) × (Nat → Nat) × (Nat → Nat) × (JT) => wXt cI cJ cC cG h9 hn ap (u.1) ht h0 (u.2.1) (u.2.2.1) pc (u.2.2.2) x' ++ wO cJ oa (vp_updL out (Int32.toNatClampNeg 0) (Int32.toInt64 r))) 0 := by
  unfold XN_onBar at hm
  obtain ⟨r, hm9, e⟩ := k_bds hm
  cases e
  exact zL_onBar hm9
def XT_onBar (x : XT) (p0 : Int32) : Option String := mT9_onBar (x.2.2.2.2.1.2.2.2.2.2.1) (x.2.2.2.2.1.2.2.2.2.2.2.1) p0
def MN_onBar (m : MT) (p0 : Int32) : Option (Int32 × MT) := k_bd2 (mX10_onBar (m.1) (m.2.2.2.2.2.2.2.2.1) p0) (fun r w_c_thrown => some (r, ((m.1), (m.2.1), (m.2.2.1), (m.2.2.2.1), (m.2.2.2.2.1), (m.2.2.2.2.2.1), (m.2.2.2.2.2.2.1), (m.2.2.2.2.2.2.2.1), w_c_thrown, (m.2.2.2.2.2.2.2.2.2.1), (m.2.2.2.2.2.2.2.2.2.2.1), (m.2.2.2.2.2.2.2.2.2.2.2.1), (m.2.2.2.2.2.2.2.2.2.2.2.2.1), (m.2.2.2.2.2.2.2.2.2.2.2.2.2.1), (m.2.2.2.2.2.2.2.2.2.2.2.2.2.2.1), (m.2.2.2.2.2.2.2.2.2.2.2.2.2.2.2.1), (m.2.2.2.2.2.2.2.2.2.2.2.2.2.2.2.2.1), (m.2.2.2.2.2.2.2.2.2.2.2.2.2.2.2.2.2.1), (m.2.2.2.2.2.2.2.2.2.2.2.2.2.2.2.2.2.2.1), (m.2.2.2.2.2.2.2.2.2.2.2.2.2.2.2.2.2.2.2))))
theorem zM_onBar {l : Launch} {D : va_G} {cI cJ cC cG : ClassId} {sz : Nat} {ad : Nat → Nat} {m : MT} {p0 : Int32} {r : Int32} {m' : MT} (hm : MN_onBar m p0 = some (r, m')) : k_Mi l yX10_onBar wsX10_onBar rmX10_onBar D (kT cI cJ cC cG) sz ([.ref (ad 0), .int p0] : List Value) (wMt cI cJ ad m) (wMt cI cJ ad m') r := by
  unfold MN_onBar at hm
  obtain ⟨r, w_c_thrown, hm9, e⟩ := k_bd2s hm
  cases e
  exact zX10_onBar hm9
def XN_borneOff (x : XT) (p0 : Int32) : Option (Int32 × XT) := k_bd (mX9_borneOff (x.2.2.2.2.1.2.2.2.2.2.1) (x.2.2.2.2.1.2.2.2.2.2.2.1) p0) (fun r => some (r, ((x.1), (x.2.1), (x.2.2.1), (x.2.2.2.1), (x.2.2.2.2.1), (x.2.2.2.2.2.1), (x.2.2.2.2.2.2))))
theorem zB_borneOff {l : Launch} {D : va_G} {cI cJ cC cG : ClassId} {sz : Nat} {h9 hn h0 : Nat} {ap q ht pa pb pc : Nat → Nat} {jk : JT} {x : XT} {oa : Nat} {out : Nat → Int64} {p0 : Int32} {r : Int32} {x' : XT} (hm : XN_borneOff x p0 = some (r, x')) : k_MiE l yL_borneOff wsL_borneOff rmL_borneOff D (kT cI cJ cC cG) sz ([.ref h9, .int p0, .ref oa] : List Value) (wXt cI cJ cC cG h9 hn ap q ht h0 pa pb pc jk x ++ wO cJ oa out) (fun u : (Nat → Nat) × (Nat → Nat) × (Nat → Nat) × (JT) => wXt cI cJ cC cG h9 hn ap (u.1) ht h0 (u.2.1) (u.2.2.1) pc (u.2.2.2) x' ++ wO cJ oa (vp_updL out (Int32.toNatClampNeg 0) (Int32.toInt64 r))) 0 := by
  unfold XN_borneOff at hm
  obtain ⟨r, hm9, e⟩ := k_bds hm
  cases e
  exact zL_borneOff hm9
def XT_borneOff (x : XT) (p0 : Int32) : Option String := mT9_borneOff (x.2.2.2.2.1.2.2.2.2.2.1) (x.2.2.2.2.1.2.2.2.2.2.2.1) p0
def MN_borneOff (m : MT) (p0 : Int32) : Option (Int32 × MT) := k_bd2 (mX10_borneOff (m.1) (m.2.2.2.2.2.2.2.2.1) p0) (fun r w_c_thrown => some (r, ((m.1), (m.2.1), (m.2.2.1), (m.2.2.2.1), (m.2.2.2.2.1), (m.2.2.2.2.2.1), (m.2.2.2.2.2.2.1), (m.2.2.2.2.2.2.2.1), w_c_thrown, (m.2.2.2.2.2.2.2.2.2.1), (m.2.2.2.2.2.2.2.2.2.2.1), (m.2.2.2.2.2.2.2.2.2.2.2.1), (m.2.2.2.2.2.2.2.2.2.2.2.2.1), (m.2.2.2.2.2.2.2.2.2.2.2.2.2.1), (m.2.2.2.2.2.2.2.2.2.2.2.2.2.2.1), (m.2.2.2.2.2.2.2.2.2.2.2.2.2.2.2.1), (m.2.2.2.2.2.2.2.2.2.2.2.2.2.2.2.2.1), (m.2.2.2.2.2.2.2.2.2.2.2.2.2.2.2.2.2.1), (m.2.2.2.2.2.2.2.2.2.2.2.2.2.2.2.2.2.2.1), (m.2.2.2.2.2.2.2.2.2.2.2.2.2.2.2.2.2.2.2))))
theorem zM_borneOff {l : Launch} {D : va_G} {cI cJ cC cG : ClassId} {sz : Nat} {ad : Nat → Nat} {m : MT} {p0 : Int32} {r : Int32} {m' : MT} (hm : MN_borneOff m p0 = some (r, m')) : k_Mi l yX10_borneOff wsX10_borneOff rmX10_borneOff D (kT cI cJ cC cG) sz ([.ref (ad 0), .int p0] : List Value) (wMt cI cJ ad m) (wMt cI cJ ad m') r := by
  unfold MN_borneOff at hm
  obtain ⟨r, w_c_thrown, hm9, e⟩ := k_bd2s hm
  cases e
  exact zX10_borneOff hm9
def XN_pips (x : XT) (p0 : Int32) : Option (Int32 × XT) := k_bd (mX9_pips (x.2.2.2.2.1.2.2.2.2.2.1) (x.2.2.2.2.1.2.2.2.2.2.2.1) p0) (fun r => some (r, ((x.1), (x.2.1), (x.2.2.1), (x.2.2.2.1), (x.2.2.2.2.1), (x.2.2.2.2.2.1), (x.2.2.2.2.2.2))))
theorem zB_pips {l : Launch} {D : va_G} {cI cJ cC cG : ClassId} {sz : Nat} {h9 hn h0 : Nat} {ap q ht pa pb pc : Nat → Nat} {jk : JT} {x : XT} {oa : Nat} {out : Nat → Int64} {p0 : Int32} {r : Int32} {x' : XT} (hm : XN_pips x p0 = some (r, x')) : k_MiE l yL_pips wsL_pips rmL_pips D (kT cI cJ cC cG) sz ([.ref h9, .int p0, .ref oa] : List Value) (wXt cI cJ cC cG h9 hn ap q ht h0 pa pb pc jk x ++ wO cJ oa out) (fun u : (Nat → Nat) × (Nat → Nat) × (Nat → Nat) × (JT) => wXt cI cJ cC cG h9 hn ap (u.1) ht h0 (u.2.1) (u.2.2.1) pc (u.2.2.2) x' ++ wO cJ oa (vp_updL out (Int32.toNatClampNeg 0) (Int32.toInt64 r))) 0 := by
  unfold XN_pips at hm
  obtain ⟨r, hm9, e⟩ := k_bds hm
  cases e
  exact zL_pips hm9
def XT_pips (x : XT) (p0 : Int32) : Option String := mT9_pips (x.2.2.2.2.1.2.2.2.2.2.1) (x.2.2.2.2.1.2.2.2.2.2.2.1) p0
def MN_pips (m : MT) (p0 : Int32) : Option (Int32 × MT) := k_bd2 (mX10_pips (m.1) (m.2.2.2.2.2.2.2.2.1) p0) (fun r w_c_thrown => some (r, ((m.1), (m.2.1), (m.2.2.1), (m.2.2.2.1), (m.2.2.2.2.1), (m.2.2.2.2.2.1), (m.2.2.2.2.2.2.1), (m.2.2.2.2.2.2.2.1), w_c_thrown, (m.2.2.2.2.2.2.2.2.2.1), (m.2.2.2.2.2.2.2.2.2.2.1), (m.2.2.2.2.2.2.2.2.2.2.2.1), (m.2.2.2.2.2.2.2.2.2.2.2.2.1), (m.2.2.2.2.2.2.2.2.2.2.2.2.2.1), (m.2.2.2.2.2.2.2.2.2.2.2.2.2.2.1), (m.2.2.2.2.2.2.2.2.2.2.2.2.2.2.2.1), (m.2.2.2.2.2.2.2.2.2.2.2.2.2.2.2.2.1), (m.2.2.2.2.2.2.2.2.2.2.2.2.2.2.2.2.2.1), (m.2.2.2.2.2.2.2.2.2.2.2.2.2.2.2.2.2.2.1), (m.2.2.2.2.2.2.2.2.2.2.2.2.2.2.2.2.2.2.2))))
theorem zM_pips {l : Launch} {D : va_G} {cI cJ cC cG : ClassId} {sz : Nat} {ad : Nat → Nat} {m : MT} {p0 : Int32} {r : Int32} {m' : MT} (hm : MN_pips m p0 = some (r, m')) : k_Mi l yX10_pips wsX10_pips rmX10_pips D (kT cI cJ cC cG) sz ([.ref (ad 0), .int p0] : List Value) (wMt cI cJ ad m) (wMt cI cJ ad m') r := by
  unfold MN_pips at hm
  obtain ⟨r, w_c_thrown, hm9, e⟩ := k_bd2s hm
  cases e
  exact zX10_pips hm9
def XN_blots (x : XT) (p0 : Int32) : Option (Int32 × XT) := k_bd (mX9_blots (x.2.2.2.2.1.2.2.2.2.2.1) (x.2.2.2.2.1.2.2.2.2.2.2.1) p0) (fun r => some (r, ((x.1), (x.2.1), (x.2.2.1), (x.2.2.2.1), (x.2.2.2.2.1), (x.2.2.2.2.2.1), (x.2.2.2.2.2.2))))
theorem zB_blots {l : Launch} {D : va_G} {cI cJ cC cG : ClassId} {sz : Nat} {h9 hn h0 : Nat} {ap q ht pa pb pc : Nat → Nat} {jk : JT} {x : XT} {oa : Nat} {out : Nat → Int64} {p0 : Int32} {r : Int32} {x' : XT} (hm : XN_blots x p0 = some (r, x')) : k_MiE l yL_blots wsL_blots rmL_blots D (kT cI cJ cC cG) sz ([.ref h9, .int p0, .ref oa] : List Value) (wXt cI cJ cC cG h9 hn ap q ht h0 pa pb pc jk x ++ wO cJ oa out) (fun u : (Nat → Nat) × (Nat → Nat) × (Nat → Nat) × (JT) => wXt cI cJ cC cG h9 hn ap (u.1) ht h0 (u.2.1) (u.2.2.1) pc (u.2.2.2) x' ++ wO cJ oa (vp_updL out (Int32.toNatClampNeg 0) (Int32.toInt64 r))) 0 := by
  unfold XN_blots at hm
  obtain ⟨r, hm9, e⟩ := k_bds hm
  cases e
  exact zL_blots hm9
def XT_blots (x : XT) (p0 : Int32) : Option String := mT9_blots (x.2.2.2.2.1.2.2.2.2.2.1) (x.2.2.2.2.1.2.2.2.2.2.2.1) p0
def MN_blots (m : MT) (p0 : Int32) : Option (Int32 × MT) := k_bd2 (mX10_blots (m.1) (m.2.2.2.2.2.2.2.2.1) p0) (fun r w_c_thrown => some (r, ((m.1), (m.2.1), (m.2.2.1), (m.2.2.2.1), (m.2.2.2.2.1), (m.2.2.2.2.2.1), (m.2.2.2.2.2.2.1), (m.2.2.2.2.2.2.2.1), w_c_thrown, (m.2.2.2.2.2.2.2.2.2.1), (m.2.2.2.2.2.2.2.2.2.2.1), (m.2.2.2.2.2.2.2.2.2.2.2.1), (m.2.2.2.2.2.2.2.2.2.2.2.2.1), (m.2.2.2.2.2.2.2.2.2.2.2.2.2.1), (m.2.2.2.2.2.2.2.2.2.2.2.2.2.2.1), (m.2.2.2.2.2.2.2.2.2.2.2.2.2.2.2.1), (m.2.2.2.2.2.2.2.2.2.2.2.2.2.2.2.2.1), (m.2.2.2.2.2.2.2.2.2.2.2.2.2.2.2.2.2.1), (m.2.2.2.2.2.2.2.2.2.2.2.2.2.2.2.2.2.2.1), (m.2.2.2.2.2.2.2.2.2.2.2.2.2.2.2.2.2.2.2))))
theorem zM_blots {l : Launch} {D : va_G} {cI cJ cC cG : ClassId} {sz : Nat} {ad : Nat → Nat} {m : MT} {p0 : Int32} {r : Int32} {m' : MT} (hm : MN_blots m p0 = some (r, m')) : k_Mi l yX10_blots wsX10_blots rmX10_blots D (kT cI cJ cC cG) sz ([.ref (ad 0), .int p0] : List Value) (wMt cI cJ ad m) (wMt cI cJ ad m') r := by
  unfold MN_blots at hm
  obtain ⟨r, w_c_thrown, hm9, e⟩ := k_bd2s hm
  cases e
  exact zX10_blots hm9
def XN_blockade (x : XT) (p0 : Int32) : Option (Int32 × XT) := k_bd (mX9_blockade (x.2.2.2.2.1.2.2.2.2.2.1) (x.2.2.2.2.1.2.2.2.2.2.2.1) p0) (fun r => some (r, ((x.1), (x.2.1), (x.2.2.1), (x.2.2.2.1), (x.2.2.2.2.1), (x.2.2.2.2.2.1), (x.2.2.2.2.2.2))))
theorem zB_blockade {l : Launch} {D : va_G} {cI cJ cC cG : ClassId} {sz : Nat} {h9 hn h0 : Nat} {ap q ht pa pb pc : Nat → Nat} {jk : JT} {x : XT} {oa : Nat} {out : Nat → Int64} {p0 : Int32} {r : Int32} {x' : XT} (hm : XN_blockade x p0 = some (r, x')) : k_MiE l yL_blockade wsL_blockade rmL_blockade D (kT cI cJ cC cG) sz ([.ref h9, .int p0, .ref oa] : List Value) (wXt cI cJ cC cG h9 hn ap q ht h0 pa pb pc jk x ++ wO cJ oa out) (fun u : (Nat → Nat) × (Nat → Nat) × (Nat → Nat) × (JT) => wXt cI cJ cC cG h9 hn ap (u.1) ht h0 (u.2.1) (u.2.2.1) pc (u.2.2.2) x' ++ wO cJ oa (vp_updL out (Int32.toNatClampNeg 0) (Int32.toInt64 r))) 0 := by
  unfold XN_blockade at hm
  obtain ⟨r, hm9, e⟩ := k_bds hm
  cases e
  exact zL_blockade hm9
def XT_blockade (x : XT) (p0 : Int32) : Option String := mT9_blockade (x.2.2.2.2.1.2.2.2.2.2.1) (x.2.2.2.2.1.2.2.2.2.2.2.1) p0
def MN_blockade (m : MT) (p0 : Int32) : Option (Int32 × MT) := k_bd2 (mX10_blockade (m.1) (m.2.2.2.2.2.2.2.2.1) p0) (fun r w_c_thrown => some (r, ((m.1), (m.2.1), (m.2.2.1), (m.2.2.2.1), (m.2.2.2.2.1), (m.2.2.2.2.2.1), (m.2.2.2.2.2.2.1), (m.2.2.2.2.2.2.2.1), w_c_thrown, (m.2.2.2.2.2.2.2.2.2.1), (m.2.2.2.2.2.2.2.2.2.2.1), (m.2.2.2.2.2.2.2.2.2.2.2.1), (m.2.2.2.2.2.2.2.2.2.2.2.2.1), (m.2.2.2.2.2.2.2.2.2.2.2.2.2.1), (m.2.2.2.2.2.2.2.2.2.2.2.2.2.2.1), (m.2.2.2.2.2.2.2.2.2.2.2.2.2.2.2.1), (m.2.2.2.2.2.2.2.2.2.2.2.2.2.2.2.2.1), (m.2.2.2.2.2.2.2.2.2.2.2.2.2.2.2.2.2.1), (m.2.2.2.2.2.2.2.2.2.2.2.2.2.2.2.2.2.2.1), (m.2.2.2.2.2.2.2.2.2.2.2.2.2.2.2.2.2.2.2))))
theorem zM_blockade {l : Launch} {D : va_G} {cI cJ cC cG : ClassId} {sz : Nat} {ad : Nat → Nat} {m : MT} {p0 : Int32} {r : Int32} {m' : MT} (hm : MN_blockade m p0 = some (r, m')) : k_Mi l yX10_blockade wsX10_blockade rmX10_blockade D (kT cI cJ cC cG) sz ([.ref (ad 0), .int p0] : List Value) (wMt cI cJ ad m) (wMt cI cJ ad m') r := by
  unfold MN_blockade at hm
  obtain ⟨r, w_c_thrown, hm9, e⟩ := k_bd2s hm
  cases e
  exact zX10_blockade hm9
def XN_stake (x : XT) : Option (Int32 × XT) := k_bd (mX9_stake (x.2.2.2.2.1.2.2.2.1)) (fun r => some (r, ((x.1), (x.2.1), (x.2.2.1), (x.2.2.2.1), (x.2.2.2.2.1), (x.2.2.2.2.2.1), (x.2.2.2.2.2.2))))
theorem zB_stake {l : Launch} {D : va_G} {cI cJ cC cG : ClassId} {sz : Nat} {h9 hn h0 : Nat} {ap q ht pa pb pc : Nat → Nat} {jk : JT} {x : XT} {r : Int32} {x' : XT} (hm : XN_stake x = some (r, x')) : k_MiE l yX9_stake wsX9_stake rmX9_stake D (kT cI cJ cC cG) sz ([.ref h9] : List Value) (wXt cI cJ cC cG h9 hn ap q ht h0 pa pb pc jk x) (fun u : (Nat → Nat) × (Nat → Nat) × (Nat → Nat) × (JT) => wXt cI cJ cC cG h9 hn ap (u.1) ht h0 (u.2.1) (u.2.2.1) pc (u.2.2.2) x') r := by
  unfold XN_stake at hm
  obtain ⟨r, hm9, e⟩ := k_bds hm
  cases e
  exact zX9_stake hm9
def MN_stake (m : MT) : Option (Int32 × MT) := k_bd2 (mX10_stake (m.1) (m.2.2.2.2.2.2.2.2.1)) (fun r w_c_thrown => some (r, ((m.1), (m.2.1), (m.2.2.1), (m.2.2.2.1), (m.2.2.2.2.1), (m.2.2.2.2.2.1), (m.2.2.2.2.2.2.1), (m.2.2.2.2.2.2.2.1), w_c_thrown, (m.2.2.2.2.2.2.2.2.2.1), (m.2.2.2.2.2.2.2.2.2.2.1), (m.2.2.2.2.2.2.2.2.2.2.2.1), (m.2.2.2.2.2.2.2.2.2.2.2.2.1), (m.2.2.2.2.2.2.2.2.2.2.2.2.2.1), (m.2.2.2.2.2.2.2.2.2.2.2.2.2.2.1), (m.2.2.2.2.2.2.2.2.2.2.2.2.2.2.2.1), (m.2.2.2.2.2.2.2.2.2.2.2.2.2.2.2.2.1), (m.2.2.2.2.2.2.2.2.2.2.2.2.2.2.2.2.2.1), (m.2.2.2.2.2.2.2.2.2.2.2.2.2.2.2.2.2.2.1), (m.2.2.2.2.2.2.2.2.2.2.2.2.2.2.2.2.2.2.2))))
theorem zM_stake {l : Launch} {D : va_G} {cI cJ cC cG : ClassId} {sz : Nat} {ad : Nat → Nat} {m : MT} {r : Int32} {m' : MT} (hm : MN_stake m = some (r, m')) : k_Mi l yX10_stake wsX10_stake rmX10_stake D (kT cI cJ cC cG) sz ([.ref (ad 0)] : List Value) (wMt cI cJ ad m) (wMt cI cJ ad m') r := by
  unfold MN_stake at hm
  obtain ⟨r, w_c_thrown, hm9, e⟩ := k_bd2s hm
  cases e
  exact zX10_stake hm9
def XN_cubeOf (x : XT) : Option (Int32 × XT) := k_bd (mX9_cubeOf (x.2.2.2.2.1.2.2.2.2.1)) (fun r => some (r, ((x.1), (x.2.1), (x.2.2.1), (x.2.2.2.1), (x.2.2.2.2.1), (x.2.2.2.2.2.1), (x.2.2.2.2.2.2))))
theorem zB_cubeOf {l : Launch} {D : va_G} {cI cJ cC cG : ClassId} {sz : Nat} {h9 hn h0 : Nat} {ap q ht pa pb pc : Nat → Nat} {jk : JT} {x : XT} {r : Int32} {x' : XT} (hm : XN_cubeOf x = some (r, x')) : k_MiE l yX9_cubeOf wsX9_cubeOf rmX9_cubeOf D (kT cI cJ cC cG) sz ([.ref h9] : List Value) (wXt cI cJ cC cG h9 hn ap q ht h0 pa pb pc jk x) (fun u : (Nat → Nat) × (Nat → Nat) × (Nat → Nat) × (JT) => wXt cI cJ cC cG h9 hn ap (u.1) ht h0 (u.2.1) (u.2.2.1) pc (u.2.2.2) x') r := by
  unfold XN_cubeOf at hm
  obtain ⟨r, hm9, e⟩ := k_bds hm
  cases e
  exact zX9_cubeOf hm9
def MN_cubeOf (m : MT) : Option (Int32 × MT) := k_bd2 (mX10_cubeOf (m.1) (m.2.2.2.2.2.2.2.2.1)) (fun r w_c_thrown => some (r, ((m.1), (m.2.1), (m.2.2.1), (m.2.2.2.1), (m.2.2.2.2.1), (m.2.2.2.2.2.1), (m.2.2.2.2.2.2.1), (m.2.2.2.2.2.2.2.1), w_c_thrown, (m.2.2.2.2.2.2.2.2.2.1), (m.2.2.2.2.2.2.2.2.2.2.1), (m.2.2.2.2.2.2.2.2.2.2.2.1), (m.2.2.2.2.2.2.2.2.2.2.2.2.1), (m.2.2.2.2.2.2.2.2.2.2.2.2.2.1), (m.2.2.2.2.2.2.2.2.2.2.2.2.2.2.1), (m.2.2.2.2.2.2.2.2.2.2.2.2.2.2.2.1), (m.2.2.2.2.2.2.2.2.2.2.2.2.2.2.2.2.1), (m.2.2.2.2.2.2.2.2.2.2.2.2.2.2.2.2.2.1), (m.2.2.2.2.2.2.2.2.2.2.2.2.2.2.2.2.2.2.1), (m.2.2.2.2.2.2.2.2.2.2.2.2.2.2.2.2.2.2.2))))
theorem zM_cubeOf {l : Launch} {D : va_G} {cI cJ cC cG : ClassId} {sz : Nat} {ad : Nat → Nat} {m : MT} {r : Int32} {m' : MT} (hm : MN_cubeOf m = some (r, m')) : k_Mi l yX10_cubeOf wsX10_cubeOf rmX10_cubeOf D (kT cI cJ cC cG) sz ([.ref (ad 0)] : List Value) (wMt cI cJ ad m) (wMt cI cJ ad m') r := by
  unfold MN_cubeOf at hm
  obtain ⟨r, w_c_thrown, hm9, e⟩ := k_bd2s hm
  cases e
  exact zX10_cubeOf hm9
def XN_score (x : XT) (p0 : Int32) : Option (Int32 × XT) := k_bd (mX9_score (x.2.2.2.2.1.2.2.2.2.2.2.2.1) (x.2.2.2.2.1.2.2.2.2.2.2.2.2.1) p0) (fun r => some (r, ((x.1), (x.2.1), (x.2.2.1), (x.2.2.2.1), (x.2.2.2.2.1), (x.2.2.2.2.2.1), (x.2.2.2.2.2.2))))
theorem zB_score {l : Launch} {D : va_G} {cI cJ cC cG : ClassId} {sz : Nat} {h9 hn h0 : Nat} {ap q ht pa pb pc : Nat → Nat} {jk : JT} {x : XT} {oa : Nat} {out : Nat → Int64} {p0 : Int32} {r : Int32} {x' : XT} (hm : XN_score x p0 = some (r, x')) : k_MiE l yL_score wsL_score rmL_score D (kT cI cJ cC cG) sz ([.ref h9, .int p0, .ref oa] : List Value) (wXt cI cJ cC cG h9 hn ap q ht h0 pa pb pc jk x ++ wO cJ oa out) (fun u : (Nat → Nat) × (Nat → Nat) × (Nat → Nat) × (JT) => wXt cI cJ cC cG h9 hn ap (u.1) ht h0 (u.2.1) (u.2.2.1) pc (u.2.2.2) x' ++ wO cJ oa (vp_updL out (Int32.toNatClampNeg 0) (Int32.toInt64 r))) 0 := by
  unfold XN_score at hm
  obtain ⟨r, hm9, e⟩ := k_bds hm
  cases e
  exact zL_score hm9
def XT_score (x : XT) (p0 : Int32) : Option String := mT9_score (x.2.2.2.2.1.2.2.2.2.2.2.2.1) (x.2.2.2.2.1.2.2.2.2.2.2.2.2.1) p0
def MN_score (m : MT) (p0 : Int32) : Option (Int32 × MT) := k_bd2 (mX10_score (m.1) (m.2.2.2.2.2.2.2.2.1) p0) (fun r w_c_thrown => some (r, ((m.1), (m.2.1), (m.2.2.1), (m.2.2.2.1), (m.2.2.2.2.1), (m.2.2.2.2.2.1), (m.2.2.2.2.2.2.1), (m.2.2.2.2.2.2.2.1), w_c_thrown, (m.2.2.2.2.2.2.2.2.2.1), (m.2.2.2.2.2.2.2.2.2.2.1), (m.2.2.2.2.2.2.2.2.2.2.2.1), (m.2.2.2.2.2.2.2.2.2.2.2.2.1), (m.2.2.2.2.2.2.2.2.2.2.2.2.2.1), (m.2.2.2.2.2.2.2.2.2.2.2.2.2.2.1), (m.2.2.2.2.2.2.2.2.2.2.2.2.2.2.2.1), (m.2.2.2.2.2.2.2.2.2.2.2.2.2.2.2.2.1), (m.2.2.2.2.2.2.2.2.2.2.2.2.2.2.2.2.2.1), (m.2.2.2.2.2.2.2.2.2.2.2.2.2.2.2.2.2.2.1), (m.2.2.2.2.2.2.2.2.2.2.2.2.2.2.2.2.2.2.2))))
theorem zM_score {l : Launch} {D : va_G} {cI cJ cC cG : ClassId} {sz : Nat} {ad : Nat → Nat} {m : MT} {p0 : Int32} {r : Int32} {m' : MT} (hm : MN_score m p0 = some (r, m')) : k_Mi l yX10_score wsX10_score rmX10_score D (kT cI cJ cC cG) sz ([.ref (ad 0), .int p0] : List Value) (wMt cI cJ ad m) (wMt cI cJ ad m') r := by
  unfold MN_score at hm
  obtain ⟨r, w_c_thrown, hm9, e⟩ := k_bd2s hm
  cases e
  exact zX10_score hm9
def XN_hits (x : XT) (p0 : Int32) : Option (Int32 × XT) := k_bd (mX9_hits (x.2.2.2.2.1.2.2.2.2.2.2.2.2.2.1) (x.2.2.2.2.1.2.2.2.2.2.2.2.2.2.2.1) p0) (fun r => some (r, ((x.1), (x.2.1), (x.2.2.1), (x.2.2.2.1), (x.2.2.2.2.1), (x.2.2.2.2.2.1), (x.2.2.2.2.2.2))))
theorem zB_hits {l : Launch} {D : va_G} {cI cJ cC cG : ClassId} {sz : Nat} {h9 hn h0 : Nat} {ap q ht pa pb pc : Nat → Nat} {jk : JT} {x : XT} {oa : Nat} {out : Nat → Int64} {p0 : Int32} {r : Int32} {x' : XT} (hm : XN_hits x p0 = some (r, x')) : k_MiE l yL_hits wsL_hits rmL_hits D (kT cI cJ cC cG) sz ([.ref h9, .int p0, .ref oa] : List Value) (wXt cI cJ cC cG h9 hn ap q ht h0 pa pb pc jk x ++ wO cJ oa out) (fun u : (Nat → Nat) × (Nat → Nat) × (Nat → Nat) × (JT) => wXt cI cJ cC cG h9 hn ap (u.1) ht h0 (u.2.1) (u.2.2.1) pc (u.2.2.2) x' ++ wO cJ oa (vp_updL out (Int32.toNatClampNeg 0) (Int32.toInt64 r))) 0 := by
  unfold XN_hits at hm
  obtain ⟨r, hm9, e⟩ := k_bds hm
  cases e
  exact zL_hits hm9
def XT_hits (x : XT) (p0 : Int32) : Option String := mT9_hits (x.2.2.2.2.1.2.2.2.2.2.2.2.2.2.1) (x.2.2.2.2.1.2.2.2.2.2.2.2.2.2.2.1) p0
def MN_hits (m : MT) (p0 : Int32) : Option (Int32 × MT) := k_bd2 (mX10_hits (m.1) (m.2.2.2.2.2.2.2.2.1) p0) (fun r w_c_thrown => some (r, ((m.1), (m.2.1), (m.2.2.1), (m.2.2.2.1), (m.2.2.2.2.1), (m.2.2.2.2.2.1), (m.2.2.2.2.2.2.1), (m.2.2.2.2.2.2.2.1), w_c_thrown, (m.2.2.2.2.2.2.2.2.2.1), (m.2.2.2.2.2.2.2.2.2.2.1), (m.2.2.2.2.2.2.2.2.2.2.2.1), (m.2.2.2.2.2.2.2.2.2.2.2.2.1), (m.2.2.2.2.2.2.2.2.2.2.2.2.2.1), (m.2.2.2.2.2.2.2.2.2.2.2.2.2.2.1), (m.2.2.2.2.2.2.2.2.2.2.2.2.2.2.2.1), (m.2.2.2.2.2.2.2.2.2.2.2.2.2.2.2.2.1), (m.2.2.2.2.2.2.2.2.2.2.2.2.2.2.2.2.2.1), (m.2.2.2.2.2.2.2.2.2.2.2.2.2.2.2.2.2.2.1), (m.2.2.2.2.2.2.2.2.2.2.2.2.2.2.2.2.2.2.2))))
theorem zM_hits {l : Launch} {D : va_G} {cI cJ cC cG : ClassId} {sz : Nat} {ad : Nat → Nat} {m : MT} {p0 : Int32} {r : Int32} {m' : MT} (hm : MN_hits m p0 = some (r, m')) : k_Mi l yX10_hits wsX10_hits rmX10_hits D (kT cI cJ cC cG) sz ([.ref (ad 0), .int p0] : List Value) (wMt cI cJ ad m) (wMt cI cJ ad m') r := by
  unfold MN_hits at hm
  obtain ⟨r, w_c_thrown, hm9, e⟩ := k_bd2s hm
  cases e
  exact zX10_hits hm9
def XN_whyNoStep (x : XT) (p0 : Int32) (p1 : Int32) : Option (Int32 × XT) := k_bd (mX9_whyNoStep (x.2.2.2.2.1.1) (x.2.2.2.2.1.2.2.1) (x.2.2.2.2.1.2.2.2.2.2.1) (x.2.2.2.2.1.2.2.2.2.2.2.1) p0 p1) (fun r => some (r, ((x.1), (x.2.1), (x.2.2.1), (x.2.2.2.1), (x.2.2.2.2.1), (x.2.2.2.2.2.1), (x.2.2.2.2.2.2))))
theorem zB_whyNoStep {l : Launch} {D : va_G} {cI cJ cC cG : ClassId} {sz : Nat} {h9 hn h0 : Nat} {ap q ht pa pb pc : Nat → Nat} {jk : JT} {x : XT} {oa : Nat} {out : Nat → Int64} {p0 : Int32} {p1 : Int32} {r : Int32} {x' : XT} (hm : XN_whyNoStep x p0 p1 = some (r, x')) : k_MiE l yL_whyNoStep wsL_whyNoStep rmL_whyNoStep D (kT cI cJ cC cG) sz ([.ref h9, .int p0, .int p1, .ref oa] : List Value) (wXt cI cJ cC cG h9 hn ap q ht h0 pa pb pc jk x ++ wO cJ oa out) (fun u : (Nat → Nat) × (Nat → Nat) × (Nat → Nat) × (JT) => wXt cI cJ cC cG h9 hn ap (u.1) ht h0 (u.2.1) (u.2.2.1) pc (u.2.2.2) x' ++ wO cJ oa (vp_updL out (Int32.toNatClampNeg 0) (Int32.toInt64 r))) 0 := by
  unfold XN_whyNoStep at hm
  obtain ⟨r, hm9, e⟩ := k_bds hm
  cases e
  exact zL_whyNoStep hm9
def XT_whyNoStep (x : XT) (p0 : Int32) (p1 : Int32) : Option String := mT9_whyNoStep (x.2.2.2.2.1.1) (x.2.2.2.2.1.2.2.1) (x.2.2.2.2.1.2.2.2.2.2.1) (x.2.2.2.2.1.2.2.2.2.2.2.1) p0 p1
def MN_whyNoStep (m : MT) (p0 : Int32) (p1 : Int32) : Option (Int32 × MT) := k_bd4 (mX10_whyNoStep (m.1) (m.2.2.2.2.2.2.2.2.1) (m.2.2.2.2.2.2.2.2.2.1) p0 p1) (fun r w_c_s w_c_thrown w_c_laid => some (r, (w_c_s, (m.2.1), (m.2.2.1), (m.2.2.2.1), (m.2.2.2.2.1), (m.2.2.2.2.2.1), (m.2.2.2.2.2.2.1), (m.2.2.2.2.2.2.2.1), w_c_thrown, w_c_laid, (m.2.2.2.2.2.2.2.2.2.2.1), (m.2.2.2.2.2.2.2.2.2.2.2.1), (m.2.2.2.2.2.2.2.2.2.2.2.2.1), (m.2.2.2.2.2.2.2.2.2.2.2.2.2.1), (m.2.2.2.2.2.2.2.2.2.2.2.2.2.2.1), (m.2.2.2.2.2.2.2.2.2.2.2.2.2.2.2.1), (m.2.2.2.2.2.2.2.2.2.2.2.2.2.2.2.2.1), (m.2.2.2.2.2.2.2.2.2.2.2.2.2.2.2.2.2.1), (m.2.2.2.2.2.2.2.2.2.2.2.2.2.2.2.2.2.2.1), (m.2.2.2.2.2.2.2.2.2.2.2.2.2.2.2.2.2.2.2))))
theorem zM_whyNoStep {l : Launch} {D : va_G} {cI cJ cC cG : ClassId} {sz : Nat} {ad : Nat → Nat} {m : MT} {p0 : Int32} {p1 : Int32} {r : Int32} {m' : MT} (hm : MN_whyNoStep m p0 p1 = some (r, m')) : k_Mi l yX10_whyNoStep wsX10_whyNoStep rmX10_whyNoStep D (kT cI cJ cC cG) sz ([.ref (ad 0), .int p0, .int p1] : List Value) (wMt cI cJ ad m) (wMt cI cJ ad m') r := by
  unfold MN_whyNoStep at hm
  obtain ⟨r, w_c_s, w_c_thrown, w_c_laid, hm9, e⟩ := k_bd4s hm
  cases e
  exact zX10_whyNoStep hm9
def XN_possibleSteps (x : XT) : Option (Int32 × XT) := k_bd (mX9_possibleSteps (x.2.2.2.2.1.1) (x.2.2.2.2.1.2.2.1) (x.2.2.2.2.1.2.2.2.2.2.1) (x.2.2.2.2.1.2.2.2.2.2.2.1)) (fun r => some (r, ((x.1), (x.2.1), (x.2.2.1), (x.2.2.2.1), (x.2.2.2.2.1), (x.2.2.2.2.2.1), (x.2.2.2.2.2.2))))
theorem zB_possibleSteps {l : Launch} {D : va_G} {cI cJ cC cG : ClassId} {sz : Nat} {h9 hn h0 : Nat} {ap q ht pa pb pc : Nat → Nat} {jk : JT} {x : XT} {r : Int32} {x' : XT} (hm : XN_possibleSteps x = some (r, x')) : k_MiE l yX9_possibleSteps wsX9_possibleSteps rmX9_possibleSteps D (kT cI cJ cC cG) sz ([.ref h9] : List Value) (wXt cI cJ cC cG h9 hn ap q ht h0 pa pb pc jk x) (fun u : (Nat → Nat) × (Nat → Nat) × (Nat → Nat) × (JT) => wXt cI cJ cC cG h9 hn ap (u.1) ht h0 (u.2.1) (u.2.2.1) pc (u.2.2.2) x') r := by
  unfold XN_possibleSteps at hm
  obtain ⟨r, hm9, e⟩ := k_bds hm
  cases e
  exact zX9_possibleSteps hm9
def MN_possibleSteps (m : MT) : Option (Int32 × MT) := k_bd4 (mX10_possibleSteps (m.1) (m.2.2.2.2.2.2.2.2.1) (m.2.2.2.2.2.2.2.2.2.1)) (fun r w_c_s w_c_thrown w_c_laid => some (r, (w_c_s, (m.2.1), (m.2.2.1), (m.2.2.2.1), (m.2.2.2.2.1), (m.2.2.2.2.2.1), (m.2.2.2.2.2.2.1), (m.2.2.2.2.2.2.2.1), w_c_thrown, w_c_laid, (m.2.2.2.2.2.2.2.2.2.2.1), (m.2.2.2.2.2.2.2.2.2.2.2.1), (m.2.2.2.2.2.2.2.2.2.2.2.2.1), (m.2.2.2.2.2.2.2.2.2.2.2.2.2.1), (m.2.2.2.2.2.2.2.2.2.2.2.2.2.2.1), (m.2.2.2.2.2.2.2.2.2.2.2.2.2.2.2.1), (m.2.2.2.2.2.2.2.2.2.2.2.2.2.2.2.2.1), (m.2.2.2.2.2.2.2.2.2.2.2.2.2.2.2.2.2.1), (m.2.2.2.2.2.2.2.2.2.2.2.2.2.2.2.2.2.2.1), (m.2.2.2.2.2.2.2.2.2.2.2.2.2.2.2.2.2.2.2))))
theorem zM_possibleSteps {l : Launch} {D : va_G} {cI cJ cC cG : ClassId} {sz : Nat} {ad : Nat → Nat} {m : MT} {r : Int32} {m' : MT} (hm : MN_possibleSteps m = some (r, m')) : k_Mi l yX10_possibleSteps wsX10_possibleSteps rmX10_possibleSteps D (kT cI cJ cC cG) sz ([.ref (ad 0)] : List Value) (wMt cI cJ ad m) (wMt cI cJ ad m') r := by
  unfold MN_possibleSteps at hm
  obtain ⟨r, w_c_s, w_c_thrown, w_c_laid, hm9, e⟩ := k_bd4s hm
  cases e
  exact zX10_possibleSteps hm9
def XN_reach (x : XT) : Option (Int32 × XT) := k_bd (mX9_reach (x.2.2.2.2.1.1) (x.2.2.2.2.1.2.2.1) (x.2.2.2.2.1.2.2.2.2.2.1) (x.2.2.2.2.1.2.2.2.2.2.2.1)) (fun r => some (r, ((x.1), (x.2.1), (x.2.2.1), (x.2.2.2.1), (x.2.2.2.2.1), (x.2.2.2.2.2.1), (x.2.2.2.2.2.2))))
theorem zB_reach {l : Launch} {D : va_G} {cI cJ cC cG : ClassId} {sz : Nat} {h9 hn h0 : Nat} {ap q ht pa pb pc : Nat → Nat} {jk : JT} {x : XT} {r : Int32} {x' : XT} (hm : XN_reach x = some (r, x')) : k_MiE l yX9_reach wsX9_reach rmX9_reach D (kT cI cJ cC cG) sz ([.ref h9] : List Value) (wXt cI cJ cC cG h9 hn ap q ht h0 pa pb pc jk x) (fun u : (Nat → Nat) × (Nat → Nat) × (Nat → Nat) × (JT) => wXt cI cJ cC cG h9 hn ap (u.1) ht h0 (u.2.1) (u.2.2.1) pc (u.2.2.2) x') r := by
  unfold XN_reach at hm
  obtain ⟨r, hm9, e⟩ := k_bds hm
  cases e
  exact zX9_reach hm9
def MN_reach (m : MT) : Option (Int32 × MT) := k_bd4 (mX10_reach (m.1) (m.2.2.2.2.2.2.2.2.1) (m.2.2.2.2.2.2.2.2.2.1)) (fun r w_c_s w_c_thrown w_c_laid => some (r, (w_c_s, (m.2.1), (m.2.2.1), (m.2.2.2.1), (m.2.2.2.2.1), (m.2.2.2.2.2.1), (m.2.2.2.2.2.2.1), (m.2.2.2.2.2.2.2.1), w_c_thrown, w_c_laid, (m.2.2.2.2.2.2.2.2.2.2.1), (m.2.2.2.2.2.2.2.2.2.2.2.1), (m.2.2.2.2.2.2.2.2.2.2.2.2.1), (m.2.2.2.2.2.2.2.2.2.2.2.2.2.1), (m.2.2.2.2.2.2.2.2.2.2.2.2.2.2.1), (m.2.2.2.2.2.2.2.2.2.2.2.2.2.2.2.1), (m.2.2.2.2.2.2.2.2.2.2.2.2.2.2.2.2.1), (m.2.2.2.2.2.2.2.2.2.2.2.2.2.2.2.2.2.1), (m.2.2.2.2.2.2.2.2.2.2.2.2.2.2.2.2.2.2.1), (m.2.2.2.2.2.2.2.2.2.2.2.2.2.2.2.2.2.2.2))))
theorem zM_reach {l : Launch} {D : va_G} {cI cJ cC cG : ClassId} {sz : Nat} {ad : Nat → Nat} {m : MT} {r : Int32} {m' : MT} (hm : MN_reach m = some (r, m')) : k_Mi l yX10_reach wsX10_reach rmX10_reach D (kT cI cJ cC cG) sz ([.ref (ad 0)] : List Value) (wMt cI cJ ad m) (wMt cI cJ ad m') r := by
  unfold MN_reach at hm
  obtain ⟨r, w_c_s, w_c_thrown, w_c_laid, hm9, e⟩ := k_bd4s hm
  cases e
  exact zX10_reach hm9
noncomputable def XN_plays (x : XT) : Option (Int32 × XT) := k_bd (mX9_plays (x.2.2.2.2.1.1) (x.2.2.2.2.1.2.2.1) (x.2.2.2.2.1.2.2.2.2.2.1) (x.2.2.2.2.1.2.2.2.2.2.2.1)) (fun r => some (r, ((x.1), (x.2.1), (x.2.2.1), (x.2.2.2.1), (x.2.2.2.2.1), (x.2.2.2.2.2.1), (x.2.2.2.2.2.2))))
theorem zB_plays {l : Launch} {D : va_G} {cI cJ cC cG : ClassId} {sz : Nat} {h9 hn h0 : Nat} {ap q ht pa pb pc : Nat → Nat} {jk : JT} {x : XT} {r : Int32} {x' : XT} (hm : XN_plays x = some (r, x')) : k_MiE l yX9_plays wsX9_plays rmX9_plays D (kT cI cJ cC cG) sz ([.ref h9] : List Value) (wXt cI cJ cC cG h9 hn ap q ht h0 pa pb pc jk x) (fun u : (Nat → Nat) × (Nat → Nat) × (Nat → Nat) × (JT) => wXt cI cJ cC cG h9 hn ap (u.1) ht h0 (u.2.1) (u.2.2.1) pc (u.2.2.2) x') r := by
  unfold XN_plays at hm
  obtain ⟨r, hm9, e⟩ := k_bds hm
  cases e
  exact zX9_plays hm9
def MN_plays (m : MT) : Option (Int32 × MT) := k_bd10 (mX10_plays (m.1) (m.2.2.2.2.2.1) (m.2.2.2.2.2.2.2.2.1) (m.2.2.2.2.2.2.2.2.2.1) (m.2.2.2.2.2.2.2.2.2.2.2.2.2.1) (m.2.2.2.2.2.2.2.2.2.2.2.2.2.2.1) (m.2.2.2.2.2.2.2.2.2.2.2.2.2.2.2.1) (m.2.2.2.2.2.2.2.2.2.2.2.2.2.2.2.2.1) (m.2.2.2.2.2.2.2.2.2.2.2.2.2.2.2.2.2.1)) (fun r w_c_s w_c_aside w_c_thrown w_c_laid w_c_mine w_c_theirs w_c_many w_c_from0 w_c_from1 => some (r, (w_c_s, (m.2.1), (m.2.2.1), (m.2.2.2.1), (m.2.2.2.2.1), w_c_aside, (m.2.2.2.2.2.2.1), (m.2.2.2.2.2.2.2.1), w_c_thrown, w_c_laid, (m.2.2.2.2.2.2.2.2.2.2.1), (m.2.2.2.2.2.2.2.2.2.2.2.1), (m.2.2.2.2.2.2.2.2.2.2.2.2.1), w_c_mine, w_c_theirs, w_c_many, w_c_from0, w_c_from1, (m.2.2.2.2.2.2.2.2.2.2.2.2.2.2.2.2.2.2.1), (m.2.2.2.2.2.2.2.2.2.2.2.2.2.2.2.2.2.2.2))))
theorem zM_plays {l : Launch} {D : va_G} {cI cJ cC cG : ClassId} {sz : Nat} {ad : Nat → Nat} {m : MT} {r : Int32} {m' : MT} (hm : MN_plays m = some (r, m')) : k_Mi l yX10_plays wsX10_plays rmX10_plays D (kT cI cJ cC cG) sz ([.ref (ad 0)] : List Value) (wMt cI cJ ad m) (wMt cI cJ ad m') r := by
  unfold MN_plays at hm
  obtain ⟨r, w_c_s, w_c_aside, w_c_thrown, w_c_laid, w_c_mine, w_c_theirs, w_c_many, w_c_from0, w_c_from1, hm9, e⟩ := k_bd10s hm
  cases e
  exact zX10_plays hm9
noncomputable def XN_playsByOrders (x : XT) : Option (Int32 × XT) := k_bd (mX9_playsByOrders (x.2.2.2.2.1.1) (x.2.2.2.2.1.2.2.1) (x.2.2.2.2.1.2.2.2.2.2.1) (x.2.2.2.2.1.2.2.2.2.2.2.1)) (fun r => some (r, ((x.1), (x.2.1), (x.2.2.1), (x.2.2.2.1), (x.2.2.2.2.1), (x.2.2.2.2.2.1), (x.2.2.2.2.2.2))))
theorem zB_playsByOrders {l : Launch} {D : va_G} {cI cJ cC cG : ClassId} {sz : Nat} {h9 hn h0 : Nat} {ap q ht pa pb pc : Nat → Nat} {jk : JT} {x : XT} {r : Int32} {x' : XT} (hm : XN_playsByOrders x = some (r, x')) : k_MiE l yX9_playsByOrders wsX9_playsByOrders rmX9_playsByOrders D (kT cI cJ cC cG) sz ([.ref h9] : List Value) (wXt cI cJ cC cG h9 hn ap q ht h0 pa pb pc jk x) (fun u : (Nat → Nat) × (Nat → Nat) × (Nat → Nat) × (JT) => wXt cI cJ cC cG h9 hn ap (u.1) ht h0 (u.2.1) (u.2.2.1) pc (u.2.2.2) x') r := by
  unfold XN_playsByOrders at hm
  obtain ⟨r, hm9, e⟩ := k_bds hm
  cases e
  exact zX9_playsByOrders hm9
def MN_playsByOrders (m : MT) : Option (Int32 × MT) := k_bd10 (mX10_playsByOrders (m.1) (m.2.2.2.2.2.1) (m.2.2.2.2.2.2.2.2.1) (m.2.2.2.2.2.2.2.2.2.1) (m.2.2.2.2.2.2.2.2.2.2.2.2.2.1) (m.2.2.2.2.2.2.2.2.2.2.2.2.2.2.1) (m.2.2.2.2.2.2.2.2.2.2.2.2.2.2.2.1) (m.2.2.2.2.2.2.2.2.2.2.2.2.2.2.2.2.1) (m.2.2.2.2.2.2.2.2.2.2.2.2.2.2.2.2.2.1)) (fun r w_c_s w_c_aside w_c_thrown w_c_laid w_c_mine w_c_theirs w_c_many w_c_from0 w_c_from1 => some (r, (w_c_s, (m.2.1), (m.2.2.1), (m.2.2.2.1), (m.2.2.2.2.1), w_c_aside, (m.2.2.2.2.2.2.1), (m.2.2.2.2.2.2.2.1), w_c_thrown, w_c_laid, (m.2.2.2.2.2.2.2.2.2.2.1), (m.2.2.2.2.2.2.2.2.2.2.2.1), (m.2.2.2.2.2.2.2.2.2.2.2.2.1), w_c_mine, w_c_theirs, w_c_many, w_c_from0, w_c_from1, (m.2.2.2.2.2.2.2.2.2.2.2.2.2.2.2.2.2.2.1), (m.2.2.2.2.2.2.2.2.2.2.2.2.2.2.2.2.2.2.2))))
theorem zM_playsByOrders {l : Launch} {D : va_G} {cI cJ cC cG : ClassId} {sz : Nat} {ad : Nat → Nat} {m : MT} {r : Int32} {m' : MT} (hm : MN_playsByOrders m = some (r, m')) : k_Mi l yX10_playsByOrders wsX10_playsByOrders rmX10_playsByOrders D (kT cI cJ cC cG) sz ([.ref (ad 0)] : List Value) (wMt cI cJ ad m) (wMt cI cJ ad m') r := by
  unfold MN_playsByOrders at hm
  obtain ⟨r, w_c_s, w_c_aside, w_c_thrown, w_c_laid, w_c_mine, w_c_theirs, w_c_many, w_c_from0, w_c_from1, hm9, e⟩ := k_bd10s hm
  cases e
  exact zX10_playsByOrders hm9
noncomputable def XN_playsWith (x : XT) (p0 : Int32) (p1 : Int32) : Option (Int32 × XT) := k_bd (mX9_playsWith (x.2.2.2.2.1.1) (x.2.2.2.2.1.2.2.2.2.2.1) (x.2.2.2.2.1.2.2.2.2.2.2.1) p0 p1) (fun r => some (r, ((x.1), (x.2.1), (x.2.2.1), (x.2.2.2.1), (x.2.2.2.2.1), (x.2.2.2.2.2.1), (x.2.2.2.2.2.2))))
theorem zB_playsWith {l : Launch} {D : va_G} {cI cJ cC cG : ClassId} {sz : Nat} {h9 hn h0 : Nat} {ap q ht pa pb pc : Nat → Nat} {jk : JT} {x : XT} {oa : Nat} {out : Nat → Int64} {p0 : Int32} {p1 : Int32} {r : Int32} {x' : XT} (hm : XN_playsWith x p0 p1 = some (r, x')) : k_MiE l yL_playsWith wsL_playsWith rmL_playsWith D (kT cI cJ cC cG) sz ([.ref h9, .int p0, .int p1, .ref oa] : List Value) (wXt cI cJ cC cG h9 hn ap q ht h0 pa pb pc jk x ++ wO cJ oa out) (fun u : (Nat → Nat) × (Nat → Nat) × (Nat → Nat) × (JT) => wXt cI cJ cC cG h9 hn ap (u.1) ht h0 (u.2.1) (u.2.2.1) pc (u.2.2.2) x' ++ wO cJ oa (vp_updL out (Int32.toNatClampNeg 0) (Int32.toInt64 r))) 0 := by
  unfold XN_playsWith at hm
  obtain ⟨r, hm9, e⟩ := k_bds hm
  cases e
  exact zL_playsWith hm9
noncomputable def XT_playsWith (x : XT) (p0 : Int32) (p1 : Int32) : Option String := mT9_playsWith (x.2.2.2.2.1.1) (x.2.2.2.2.1.2.2.2.2.2.1) (x.2.2.2.2.1.2.2.2.2.2.2.1) p0 p1
def MN_playsWith (m : MT) (p0 : Int32) (p1 : Int32) : Option (Int32 × MT) := k_bd11 (mX10_playsWith (m.1) (m.2.2.2.2.2.1) (m.2.2.2.2.2.2.2.2.1) (m.2.2.2.2.2.2.2.2.2.1) (m.2.2.2.2.2.2.2.2.2.2.2.2.2.1) (m.2.2.2.2.2.2.2.2.2.2.2.2.2.2.1) (m.2.2.2.2.2.2.2.2.2.2.2.2.2.2.2.1) (m.2.2.2.2.2.2.2.2.2.2.2.2.2.2.2.2.1) (m.2.2.2.2.2.2.2.2.2.2.2.2.2.2.2.2.2.1) (m.2.2.2.2.2.2.2.2.2.2.2.2.2.2.2.2.2.2.1) p0 p1) (fun r w_c_s w_c_aside w_c_thrown w_c_laid w_c_mine w_c_theirs w_c_many w_c_from0 w_c_from1 w_c_dice => some (r, (w_c_s, (m.2.1), (m.2.2.1), (m.2.2.2.1), (m.2.2.2.2.1), w_c_aside, (m.2.2.2.2.2.2.1), (m.2.2.2.2.2.2.2.1), w_c_thrown, w_c_laid, (m.2.2.2.2.2.2.2.2.2.2.1), (m.2.2.2.2.2.2.2.2.2.2.2.1), (m.2.2.2.2.2.2.2.2.2.2.2.2.1), w_c_mine, w_c_theirs, w_c_many, w_c_from0, w_c_from1, w_c_dice, (m.2.2.2.2.2.2.2.2.2.2.2.2.2.2.2.2.2.2.2))))
theorem zM_playsWith {l : Launch} {D : va_G} {cI cJ cC cG : ClassId} {sz : Nat} {ad : Nat → Nat} {m : MT} {p0 : Int32} {p1 : Int32} {r : Int32} {m' : MT} (hm : MN_playsWith m p0 p1 = some (r, m')) : k_Mi l yX10_playsWith wsX10_playsWith rmX10_playsWith D (kT cI cJ cC cG) sz ([.ref (ad 0), .int p0, .int p1] : List Value) (wMt cI cJ ad m) (wMt cI cJ ad m') r := by
  unfold MN_playsWith at hm
  obtain ⟨r, w_c_s, w_c_aside, w_c_thrown, w_c_laid, w_c_mine, w_c_theirs, w_c_many, w_c_from0, w_c_from1, w_c_dice, hm9, e⟩ := k_bd11s hm
  cases e
  exact zX10_playsWith hm9
def XN_shots (x : XT) (p0 : Int32) : Option (Int32 × XT) := k_bd (mX9_shots (x.2.2.2.2.1.2.2.2.2.2.1) (x.2.2.2.2.1.2.2.2.2.2.2.1) p0) (fun r => some (r, ((x.1), (x.2.1), (x.2.2.1), (x.2.2.2.1), (x.2.2.2.2.1), (x.2.2.2.2.2.1), (x.2.2.2.2.2.2))))
theorem zB_shots {l : Launch} {D : va_G} {cI cJ cC cG : ClassId} {sz : Nat} {h9 hn h0 : Nat} {ap q ht pa pb pc : Nat → Nat} {jk : JT} {x : XT} {oa : Nat} {out : Nat → Int64} {p0 : Int32} {r : Int32} {x' : XT} (hm : XN_shots x p0 = some (r, x')) : k_MiE l yL_shots wsL_shots rmL_shots D (kT cI cJ cC cG) sz ([.ref h9, .int p0, .ref oa] : List Value) (wXt cI cJ cC cG h9 hn ap q ht h0 pa pb pc jk x ++ wO cJ oa out) (fun u : (Nat → Nat) × (Nat → Nat) × (Nat → Nat) × (JT) => wXt cI cJ cC cG h9 hn ap (u.1) ht h0 (u.2.1) (u.2.2.1) pc (u.2.2.2) x' ++ wO cJ oa (vp_updL out (Int32.toNatClampNeg 0) (Int32.toInt64 r))) 0 := by
  unfold XN_shots at hm
  obtain ⟨r, hm9, e⟩ := k_bds hm
  cases e
  exact zL_shots hm9
def XT_shots (x : XT) (p0 : Int32) : Option String := mT9_shots (x.2.2.2.2.1.2.2.2.2.2.1) (x.2.2.2.2.1.2.2.2.2.2.2.1) p0
def MN_shots (m : MT) (p0 : Int32) : Option (Int32 × MT) := k_bd4 (mX10_shots (m.1) (m.2.2.2.2.2.2.2.2.1) (m.2.2.2.2.2.2.2.2.2.1) p0) (fun r w_c_s w_c_thrown w_c_laid => some (r, (w_c_s, (m.2.1), (m.2.2.1), (m.2.2.2.1), (m.2.2.2.2.1), (m.2.2.2.2.2.1), (m.2.2.2.2.2.2.1), (m.2.2.2.2.2.2.2.1), w_c_thrown, w_c_laid, (m.2.2.2.2.2.2.2.2.2.2.1), (m.2.2.2.2.2.2.2.2.2.2.2.1), (m.2.2.2.2.2.2.2.2.2.2.2.2.1), (m.2.2.2.2.2.2.2.2.2.2.2.2.2.1), (m.2.2.2.2.2.2.2.2.2.2.2.2.2.2.1), (m.2.2.2.2.2.2.2.2.2.2.2.2.2.2.2.1), (m.2.2.2.2.2.2.2.2.2.2.2.2.2.2.2.2.1), (m.2.2.2.2.2.2.2.2.2.2.2.2.2.2.2.2.2.1), (m.2.2.2.2.2.2.2.2.2.2.2.2.2.2.2.2.2.2.1), (m.2.2.2.2.2.2.2.2.2.2.2.2.2.2.2.2.2.2.2))))
theorem zM_shots {l : Launch} {D : va_G} {cI cJ cC cG : ClassId} {sz : Nat} {ad : Nat → Nat} {m : MT} {p0 : Int32} {r : Int32} {m' : MT} (hm : MN_shots m p0 = some (r, m')) : k_Mi l yX10_shots wsX10_shots rmX10_shots D (kT cI cJ cC cG) sz ([.ref (ad 0), .int p0] : List Value) (wMt cI cJ ad m) (wMt cI cJ ad m') r := by
  unfold MN_shots at hm
  obtain ⟨r, w_c_s, w_c_thrown, w_c_laid, hm9, e⟩ := k_bd4s hm
  cases e
  exact zX10_shots hm9
def XN_shotsByKinds (x : XT) (p0 : Int32) : Option (Int32 × XT) := k_bd (mX9_shotsByKinds (x.2.2.2.2.1.2.2.2.2.2.1) (x.2.2.2.2.1.2.2.2.2.2.2.1) p0) (fun r => some (r, ((x.1), (x.2.1), (x.2.2.1), (x.2.2.2.1), (x.2.2.2.2.1), (x.2.2.2.2.2.1), (x.2.2.2.2.2.2))))
theorem zB_shotsByKinds {l : Launch} {D : va_G} {cI cJ cC cG : ClassId} {sz : Nat} {h9 hn h0 : Nat} {ap q ht pa pb pc : Nat → Nat} {jk : JT} {x : XT} {oa : Nat} {out : Nat → Int64} {p0 : Int32} {r : Int32} {x' : XT} (hm : XN_shotsByKinds x p0 = some (r, x')) : k_MiE l yL_shotsByKinds wsL_shotsByKinds rmL_shotsByKinds D (kT cI cJ cC cG) sz ([.ref h9, .int p0, .ref oa] : List Value) (wXt cI cJ cC cG h9 hn ap q ht h0 pa pb pc jk x ++ wO cJ oa out) (fun u : (Nat → Nat) × (Nat → Nat) × (Nat → Nat) × (JT) => wXt cI cJ cC cG h9 hn ap (u.1) ht h0 (u.2.1) (u.2.2.1) pc (u.2.2.2) x' ++ wO cJ oa (vp_updL out (Int32.toNatClampNeg 0) (Int32.toInt64 r))) 0 := by
  unfold XN_shotsByKinds at hm
  obtain ⟨r, hm9, e⟩ := k_bds hm
  cases e
  exact zL_shotsByKinds hm9
def XT_shotsByKinds (x : XT) (p0 : Int32) : Option String := mT9_shotsByKinds (x.2.2.2.2.1.2.2.2.2.2.1) (x.2.2.2.2.1.2.2.2.2.2.2.1) p0
def MN_shotsByKinds (m : MT) (p0 : Int32) : Option (Int32 × MT) := k_bd4 (mX10_shotsByKinds (m.1) (m.2.2.2.2.2.2.2.2.1) (m.2.2.2.2.2.2.2.2.2.1) p0) (fun r w_c_s w_c_thrown w_c_laid => some (r, (w_c_s, (m.2.1), (m.2.2.1), (m.2.2.2.1), (m.2.2.2.2.1), (m.2.2.2.2.2.1), (m.2.2.2.2.2.2.1), (m.2.2.2.2.2.2.2.1), w_c_thrown, w_c_laid, (m.2.2.2.2.2.2.2.2.2.2.1), (m.2.2.2.2.2.2.2.2.2.2.2.1), (m.2.2.2.2.2.2.2.2.2.2.2.2.1), (m.2.2.2.2.2.2.2.2.2.2.2.2.2.1), (m.2.2.2.2.2.2.2.2.2.2.2.2.2.2.1), (m.2.2.2.2.2.2.2.2.2.2.2.2.2.2.2.1), (m.2.2.2.2.2.2.2.2.2.2.2.2.2.2.2.2.1), (m.2.2.2.2.2.2.2.2.2.2.2.2.2.2.2.2.2.1), (m.2.2.2.2.2.2.2.2.2.2.2.2.2.2.2.2.2.2.1), (m.2.2.2.2.2.2.2.2.2.2.2.2.2.2.2.2.2.2.2))))
theorem zM_shotsByKinds {l : Launch} {D : va_G} {cI cJ cC cG : ClassId} {sz : Nat} {ad : Nat → Nat} {m : MT} {p0 : Int32} {r : Int32} {m' : MT} (hm : MN_shotsByKinds m p0 = some (r, m')) : k_Mi l yX10_shotsByKinds wsX10_shotsByKinds rmX10_shotsByKinds D (kT cI cJ cC cG) sz ([.ref (ad 0), .int p0] : List Value) (wMt cI cJ ad m) (wMt cI cJ ad m') r := by
  unfold MN_shotsByKinds at hm
  obtain ⟨r, w_c_s, w_c_thrown, w_c_laid, hm9, e⟩ := k_bd4s hm
  cases e
  exact zX10_shotsByKinds hm9
def XN_entering (x : XT) (p0 : Int32) : Option (Int32 × XT) := k_bd (mX9_entering (x.2.2.2.2.1.2.2.2.2.2.1) (x.2.2.2.2.1.2.2.2.2.2.2.1) p0) (fun r => some (r, ((x.1), (x.2.1), (x.2.2.1), (x.2.2.2.1), (x.2.2.2.2.1), (x.2.2.2.2.2.1), (x.2.2.2.2.2.2))))
theorem zB_entering {l : Launch} {D : va_G} {cI cJ cC cG : ClassId} {sz : Nat} {h9 hn h0 : Nat} {ap q ht pa pb pc : Nat → Nat} {jk : JT} {x : XT} {oa : Nat} {out : Nat → Int64} {p0 : Int32} {r : Int32} {x' : XT} (hm : XN_entering x p0 = some (r, x')) : k_MiE l yL_entering wsL_entering rmL_entering D (kT cI cJ cC cG) sz ([.ref h9, .int p0, .ref oa] : List Value) (wXt cI cJ cC cG h9 hn ap q ht h0 pa pb pc jk x ++ wO cJ oa out) (fun u : (Nat → Nat) × (Nat → Nat) × (Nat → Nat) × (JT) => wXt cI cJ cC cG h9 hn ap (u.1) ht h0 (u.2.1) (u.2.2.1) pc (u.2.2.2) x' ++ wO cJ oa (vp_updL out (Int32.toNatClampNeg 0) (Int32.toInt64 r))) 0 := by
  unfold XN_entering at hm
  obtain ⟨r, hm9, e⟩ := k_bds hm
  cases e
  exact zL_entering hm9
def XT_entering (x : XT) (p0 : Int32) : Option String := mT9_entering (x.2.2.2.2.1.2.2.2.2.2.1) (x.2.2.2.2.1.2.2.2.2.2.2.1) p0
def MN_entering (m : MT) (p0 : Int32) : Option (Int32 × MT) := k_bd2 (mX10_entering (m.1) (m.2.2.2.2.2.2.2.2.1) p0) (fun r w_c_thrown => some (r, ((m.1), (m.2.1), (m.2.2.1), (m.2.2.2.1), (m.2.2.2.2.1), (m.2.2.2.2.2.1), (m.2.2.2.2.2.2.1), (m.2.2.2.2.2.2.2.1), w_c_thrown, (m.2.2.2.2.2.2.2.2.2.1), (m.2.2.2.2.2.2.2.2.2.2.1), (m.2.2.2.2.2.2.2.2.2.2.2.1), (m.2.2.2.2.2.2.2.2.2.2.2.2.1), (m.2.2.2.2.2.2.2.2.2.2.2.2.2.1), (m.2.2.2.2.2.2.2.2.2.2.2.2.2.2.1), (m.2.2.2.2.2.2.2.2.2.2.2.2.2.2.2.1), (m.2.2.2.2.2.2.2.2.2.2.2.2.2.2.2.2.1), (m.2.2.2.2.2.2.2.2.2.2.2.2.2.2.2.2.2.1), (m.2.2.2.2.2.2.2.2.2.2.2.2.2.2.2.2.2.2.1), (m.2.2.2.2.2.2.2.2.2.2.2.2.2.2.2.2.2.2.2))))
theorem zM_entering {l : Launch} {D : va_G} {cI cJ cC cG : ClassId} {sz : Nat} {ad : Nat → Nat} {m : MT} {p0 : Int32} {r : Int32} {m' : MT} (hm : MN_entering m p0 = some (r, m')) : k_Mi l yX10_entering wsX10_entering rmX10_entering D (kT cI cJ cC cG) sz ([.ref (ad 0), .int p0] : List Value) (wMt cI cJ ad m) (wMt cI cJ ad m') r := by
  unfold MN_entering at hm
  obtain ⟨r, w_c_thrown, hm9, e⟩ := k_bd2s hm
  cases e
  exact zX10_entering hm9
def XN_blotsBehind (x : XT) (p0 : Int32) (p1 : Int32) : Option (Int32 × XT) := k_bd (mX9_blotsBehind (x.2.2.2.2.1.1) (x.2.2.2.2.1.2.2.1) (x.2.2.2.2.1.2.2.2.2.2.1) (x.2.2.2.2.1.2.2.2.2.2.2.1) p0 p1) (fun r => some (r, ((x.1), (x.2.1), (x.2.2.1), (x.2.2.2.1), (x.2.2.2.2.1), (x.2.2.2.2.2.1), (x.2.2.2.2.2.2))))
theorem zB_blotsBehind {l : Launch} {D : va_G} {cI cJ cC cG : ClassId} {sz : Nat} {h9 hn h0 : Nat} {ap q ht pa pb pc : Nat → Nat} {jk : JT} {x : XT} {oa : Nat} {out : Nat → Int64} {p0 : Int32} {p1 : Int32} {r : Int32} {x' : XT} (hm : XN_blotsBehind x p0 p1 = some (r, x')) : k_MiE l yL_blotsBehind wsL_blotsBehind rmL_blotsBehind D (kT cI cJ cC cG) sz ([.ref h9, .int p0, .int p1, .ref oa] : List Value) (wXt cI cJ cC cG h9 hn ap q ht h0 pa pb pc jk x ++ wO cJ oa out) (fun u : (Nat → Nat) × (Nat → Nat) × (Nat → Nat) × (JT) => wXt cI cJ cC cG h9 hn ap (u.1) ht h0 (u.2.1) (u.2.2.1) pc (u.2.2.2) x' ++ wO cJ oa (vp_updL out (Int32.toNatClampNeg 0) (Int32.toInt64 r))) 0 := by
  unfold XN_blotsBehind at hm
  obtain ⟨r, hm9, e⟩ := k_bds hm
  cases e
  exact zL_blotsBehind hm9
def XT_blotsBehind (x : XT) (p0 : Int32) (p1 : Int32) : Option String := mT9_blotsBehind (x.2.2.2.2.1.1) (x.2.2.2.2.1.2.2.1) (x.2.2.2.2.1.2.2.2.2.2.1) (x.2.2.2.2.1.2.2.2.2.2.2.1) p0 p1
def MN_blotsBehind (m : MT) (p0 : Int32) (p1 : Int32) : Option (Int32 × MT) := k_bd4 (mX10_blotsBehind (m.1) (m.2.2.2.2.2.2.2.2.1) (m.2.2.2.2.2.2.2.2.2.1) p0 p1) (fun r w_c_s w_c_thrown w_c_laid => some (r, (w_c_s, (m.2.1), (m.2.2.1), (m.2.2.2.1), (m.2.2.2.2.1), (m.2.2.2.2.2.1), (m.2.2.2.2.2.2.1), (m.2.2.2.2.2.2.2.1), w_c_thrown, w_c_laid, (m.2.2.2.2.2.2.2.2.2.2.1), (m.2.2.2.2.2.2.2.2.2.2.2.1), (m.2.2.2.2.2.2.2.2.2.2.2.2.1), (m.2.2.2.2.2.2.2.2.2.2.2.2.2.1), (m.2.2.2.2.2.2.2.2.2.2.2.2.2.2.1), (m.2.2.2.2.2.2.2.2.2.2.2.2.2.2.2.1), (m.2.2.2.2.2.2.2.2.2.2.2.2.2.2.2.2.1), (m.2.2.2.2.2.2.2.2.2.2.2.2.2.2.2.2.2.1), (m.2.2.2.2.2.2.2.2.2.2.2.2.2.2.2.2.2.2.1), (m.2.2.2.2.2.2.2.2.2.2.2.2.2.2.2.2.2.2.2))))
theorem zM_blotsBehind {l : Launch} {D : va_G} {cI cJ cC cG : ClassId} {sz : Nat} {ad : Nat → Nat} {m : MT} {p0 : Int32} {p1 : Int32} {r : Int32} {m' : MT} (hm : MN_blotsBehind m p0 p1 = some (r, m')) : k_Mi l yX10_blotsBehind wsX10_blotsBehind rmX10_blotsBehind D (kT cI cJ cC cG) sz ([.ref (ad 0), .int p0, .int p1] : List Value) (wMt cI cJ ad m) (wMt cI cJ ad m') r := by
  unfold MN_blotsBehind at hm
  obtain ⟨r, w_c_s, w_c_thrown, w_c_laid, hm9, e⟩ := k_bd4s hm
  cases e
  exact zX10_blotsBehind hm9
def XN_lead (x : XT) : Option (UInt64 × XT) := k_bd (mX9_lead (x.2.2.2.2.1.1) (x.2.2.2.2.1.2.2.2.2.2.1) (x.2.2.2.2.1.2.2.2.2.2.2.1)) (fun r => some (r, ((x.1), (x.2.1), (x.2.2.1), (x.2.2.2.1), (x.2.2.2.2.1), (x.2.2.2.2.2.1), (x.2.2.2.2.2.2))))
theorem zB_lead {l : Launch} {D : va_G} {cI cJ cC cG : ClassId} {sz : Nat} {h9 hn h0 : Nat} {ap q ht pa pb pc : Nat → Nat} {jk : JT} {x : XT} {r : UInt64} {x' : XT} (hm : XN_lead x = some (r, x')) : k_MdE l yX9_lead wsX9_lead rmX9_lead D (kT cI cJ cC cG) sz ([.ref h9] : List Value) (wXt cI cJ cC cG h9 hn ap q ht h0 pa pb pc jk x) (fun u : (Nat → Nat) × (Nat → Nat) × (Nat → Nat) × (JT) => wXt cI cJ cC cG h9 hn ap (u.1) ht h0 (u.2.1) (u.2.2.1) pc (u.2.2.2) x') r := by
  unfold XN_lead at hm
  obtain ⟨r, hm9, e⟩ := k_bds hm
  cases e
  exact zX9_lead hm9
def MN_lead (m : MT) : Option (UInt64 × MT) := k_bd2 (mX10_lead (m.1) (m.2.2.2.2.2.2.2.2.1)) (fun r w_c_thrown => some (r, ((m.1), (m.2.1), (m.2.2.1), (m.2.2.2.1), (m.2.2.2.2.1), (m.2.2.2.2.2.1), (m.2.2.2.2.2.2.1), (m.2.2.2.2.2.2.2.1), w_c_thrown, (m.2.2.2.2.2.2.2.2.2.1), (m.2.2.2.2.2.2.2.2.2.2.1), (m.2.2.2.2.2.2.2.2.2.2.2.1), (m.2.2.2.2.2.2.2.2.2.2.2.2.1), (m.2.2.2.2.2.2.2.2.2.2.2.2.2.1), (m.2.2.2.2.2.2.2.2.2.2.2.2.2.2.1), (m.2.2.2.2.2.2.2.2.2.2.2.2.2.2.2.1), (m.2.2.2.2.2.2.2.2.2.2.2.2.2.2.2.2.1), (m.2.2.2.2.2.2.2.2.2.2.2.2.2.2.2.2.2.1), (m.2.2.2.2.2.2.2.2.2.2.2.2.2.2.2.2.2.2.1), (m.2.2.2.2.2.2.2.2.2.2.2.2.2.2.2.2.2.2.2))))
theorem zM_lead {l : Launch} {D : va_G} {cI cJ cC cG : ClassId} {sz : Nat} {ad : Nat → Nat} {m : MT} {r : UInt64} {m' : MT} (hm : MN_lead m = some (r, m')) : k_Md l yX10_lead wsX10_lead rmX10_lead D (kT cI cJ cC cG) sz ([.ref (ad 0)] : List Value) (wMt cI cJ ad m) (wMt cI cJ ad m') r := by
  unfold MN_lead at hm
  obtain ⟨r, w_c_thrown, hm9, e⟩ := k_bd2s hm
  cases e
  exact zX10_lead hm9
noncomputable def XN_digest (x : XT) : Option (Int64 × XT) := k_bd (mX9_digest (x.2.1) (x.2.2.2.2.1.1) (x.2.2.2.2.1.2.1) (x.2.2.2.2.1.2.2.1) (x.2.2.2.2.1.2.2.2.1) (x.2.2.2.2.1.2.2.2.2.1) (x.2.2.2.2.1.2.2.2.2.2.1) (x.2.2.2.2.1.2.2.2.2.2.2.1) (x.2.2.2.2.1.2.2.2.2.2.2.2.1) (x.2.2.2.2.1.2.2.2.2.2.2.2.2.1) (x.2.2.2.2.1.2.2.2.2.2.2.2.2.2.1) (x.2.2.2.2.1.2.2.2.2.2.2.2.2.2.2.1) (x.2.2.2.2.1.2.2.2.2.2.2.2.2.2.2.2.1) (x.2.2.2.2.1.2.2.2.2.2.2.2.2.2.2.2.2) (x.2.2.2.2.2.1) (x.2.2.2.2.2.2)) (fun r => some (r, ((x.1), (x.2.1), (x.2.2.1), (x.2.2.2.1), (x.2.2.2.2.1), (x.2.2.2.2.2.1), (x.2.2.2.2.2.2))))
theorem zB_digest {l : Launch} {D : va_G} {cI cJ cC cG : ClassId} {sz : Nat} {h9 hn h0 : Nat} {ap q ht pa pb pc : Nat → Nat} {jk : JT} {x : XT} {r : Int64} {x' : XT} (hm : XN_digest x = some (r, x')) : k_MlE l yX9_digest wsX9_digest rmX9_digest D (kT cI cJ cC cG) sz ([.ref h9] : List Value) (wXt cI cJ cC cG h9 hn ap q ht h0 pa pb pc jk x) (fun u : (Nat → Nat) × (Nat → Nat) × (Nat → Nat) × (JT) => wXt cI cJ cC cG h9 hn ap (u.1) ht h0 (u.2.1) (u.2.2.1) pc (u.2.2.2) x') r := by
  unfold XN_digest at hm
  obtain ⟨r, hm9, e⟩ := k_bds hm
  cases e
  exact zX9_digest hm9
def MN_digest (m : MT) : Option (Int64 × MT) := k_bd12 (mX10_digest (m.1) (m.2.2.1) (m.2.2.2.2.2.1) (m.2.2.2.2.2.2.1) (m.2.2.2.2.2.2.2.1) (m.2.2.2.2.2.2.2.2.1) (m.2.2.2.2.2.2.2.2.2.1) (m.2.2.2.2.2.2.2.2.2.2.2.2.2.1) (m.2.2.2.2.2.2.2.2.2.2.2.2.2.2.1) (m.2.2.2.2.2.2.2.2.2.2.2.2.2.2.2.1) (m.2.2.2.2.2.2.2.2.2.2.2.2.2.2.2.2.1) (m.2.2.2.2.2.2.2.2.2.2.2.2.2.2.2.2.2.1) (m.2.2.2.2.2.2.2.2.2.2.2.2.2.2.2.2.2.2.1) (m.2.2.2.2.2.2.2.2.2.2.2.2.2.2.2.2.2.2.2)) (fun r w_c_s w_c_aside w_c_thrown w_c_laid w_c_mine w_c_theirs w_c_many w_c_from0 w_c_from1 w_c_dice w_c_hash => some (r, (w_c_s, (m.2.1), (m.2.2.1), (m.2.2.2.1), (m.2.2.2.2.1), w_c_aside, (m.2.2.2.2.2.2.1), (m.2.2.2.2.2.2.2.1), w_c_thrown, w_c_laid, (m.2.2.2.2.2.2.2.2.2.2.1), (m.2.2.2.2.2.2.2.2.2.2.2.1), (m.2.2.2.2.2.2.2.2.2.2.2.2.1), w_c_mine, w_c_theirs, w_c_many, w_c_from0, w_c_from1, w_c_dice, w_c_hash)))
theorem zM_digest {l : Launch} {D : va_G} {cI cJ cC cG : ClassId} {sz : Nat} {ad : Nat → Nat} {m : MT} {r : Int64} {m' : MT} (hm : MN_digest m = some (r, m')) : k_Ml l yX10_digest wsX10_digest rmX10_digest D (kT cI cJ cC cG) sz ([.ref (ad 0)] : List Value) (wMt cI cJ ad m) (wMt cI cJ ad m') r := by
  unfold MN_digest at hm
  obtain ⟨r, w_c_s, w_c_aside, w_c_thrown, w_c_laid, w_c_mine, w_c_theirs, w_c_many, w_c_from0, w_c_from1, w_c_dice, w_c_hash, hm9, e⟩ := k_bd12s hm
  cases e
  exact zX10_digest hm9
theorem zM_thrown {l : Launch} {D : va_G} {cI cJ cC cG : ClassId} {sz : Nat} {ad : Nat → Nat} {m : MT} : k_Mi l yX10_thrown wsX10_thrown rmX10_thrown D (kT cI cJ cC cG) sz ([.ref (ad 0)] : List Value) (wMt cI cJ ad m) (wMt cI cJ ad m) (thr m) := zX10_thrown rfl
