/-! support of this claim: what a method answers is told by a pure function into Option; contracts over worlds of cells -/
def k_b : Bool → Int32
  | true => 1
  | false => 0
theorem k_nz (b : Bool) : narrow .boolean (.int (k_b b)) = .int (k_b b) := by cases b <;> rfl
theorem k_fz (b : Bool) : fits .boolean (.int (k_b b)) = true := by cases b <;> rfl
def k_g {α : Type} (i : Int32) (n : Nat) (k : Option α) : Option α := if i < 0 ∨ n ≤ i.toNatClampNeg then none else k
theorem k_gs {α : Type} {i : Int32} {n : Nat} {k : Option α} {r : α} (h : k_g i n k = some r) : vp_in i n ∧ k = some r := by
  unfold k_g at h
  by_cases c : i < 0 ∨ n ≤ i.toNatClampNeg
  · rw [if_pos c] at h; cases h
  · rw [if_neg c] at h; exact ⟨c, h⟩
def k_gn {α : Type} (c : Bool) (k : Option α) : Option α := if c = true then k else none
theorem k_gns {α : Type} {c : Bool} {k : Option α} {r : α} (h : k_gn c k = some r) : c = true ∧ k = some r := by
  unfold k_gn at h
  by_cases q : c = true
  · rw [if_pos q] at h; exact ⟨q, h⟩
  · rw [if_neg q] at h; cases h
theorem k_ip {α : Type} {c : Prop} [Decidable c] {a b : Option α} {r : α} (hc : c) (h : (if c then a else b) = some r) : a = some r := by rw [if_pos hc] at h; exact h
theorem k_in {α : Type} {c : Prop} [Decidable c] {a b : Option α} {r : α} (hc : ¬ c) (h : (if c then a else b) = some r) : b = some r := by rw [if_neg hc] at h; exact h
def k_bd {α γ : Type} (x : Option α) (f : α → Option γ) : Option γ := match x with
  | none => none
  | some a => f a
theorem k_bds {α γ : Type} {x : Option α} {f : α → Option γ} {r : γ} (h : k_bd x f = some r) : ∃ a, x = some a ∧ f a = some r := by
  cases x with
  | none => cases h
  | some a => exact ⟨a, rfl, h⟩
theorem k_bd_some {α γ : Type} {x : Option α} {f : α → Option γ} {a : α} (h : x = some a) : k_bd x f = f a := by rw [h]; rfl

def k_bd2 {A0 A1 γ : Type} (x : Option (A0 × A1)) (f : A0 → A1 → Option γ) : Option γ := k_bd x (fun q => f (q.1) (q.2))
theorem k_bd2s {A0 A1 γ : Type} {x : Option (A0 × A1)} {f : A0 → A1 → Option γ} {r : γ} (h : k_bd2 x f = some r) : ∃ a0 a1, x = some (a0, a1) ∧ f a0 a1 = some r := by
  obtain ⟨q, h1, h2⟩ := k_bds h
  exact ⟨q.1, q.2, h1, h2⟩
theorem k_bd2_some {A0 A1 γ : Type} {x : Option (A0 × A1)} {f : A0 → A1 → Option γ} {a0 : A0} {a1 : A1} (h : x = some (a0, a1)) : k_bd2 x f = f a0 a1 := by rw [h]; rfl
def k_bd3 {A0 A1 A2 γ : Type} (x : Option (A0 × A1 × A2)) (f : A0 → A1 → A2 → Option γ) : Option γ := k_bd x (fun q => f (q.1) (q.2.1) (q.2.2))
theorem k_bd3s {A0 A1 A2 γ : Type} {x : Option (A0 × A1 × A2)} {f : A0 → A1 → A2 → Option γ} {r : γ} (h : k_bd3 x f = some r) : ∃ a0 a1 a2, x = some (a0, a1, a2) ∧ f a0 a1 a2 = some r := by
  obtain ⟨q, h1, h2⟩ := k_bds h
  exact ⟨q.1, q.2.1, q.2.2, h1, h2⟩
theorem k_bd3_some {A0 A1 A2 γ : Type} {x : Option (A0 × A1 × A2)} {f : A0 → A1 → A2 → Option γ} {a0 : A0} {a1 : A1} {a2 : A2} (h : x = some (a0, a1, a2)) : k_bd3 x f = f a0 a1 a2 := by rw [h]; rfl
def k_bd4 {A0 A1 A2 A3 γ : Type} (x : Option (A0 × A1 × A2 × A3)) (f : A0 → A1 → A2 → A3 → Option γ) : Option γ := k_bd x (fun q => f (q.1) (q.2.1) (q.2.2.1) (q.2.2.2))
theorem k_bd4s {A0 A1 A2 A3 γ : Type} {x : Option (A0 × A1 × A2 × A3)} {f : A0 → A1 → A2 → A3 → Option γ} {r : γ} (h : k_bd4 x f = some r) : ∃ a0 a1 a2 a3, x = some (a0, a1, a2, a3) ∧ f a0 a1 a2 a3 = some r := by
  obtain ⟨q, h1, h2⟩ := k_bds h
  exact ⟨q.1, q.2.1, q.2.2.1, q.2.2.2, h1, h2⟩
theorem k_bd4_some {A0 A1 A2 A3 γ : Type} {x : Option (A0 × A1 × A2 × A3)} {f : A0 → A1 → A2 → A3 → Option γ} {a0 : A0} {a1 : A1} {a2 : A2} {a3 : A3} (h : x = some (a0, a1, a2, a3)) : k_bd4 x f = f a0 a1 a2 a3 := by rw [h]; rfl
def k_bd5 {A0 A1 A2 A3 A4 γ : Type} (x : Option (A0 × A1 × A2 × A3 × A4)) (f : A0 → A1 → A2 → A3 → A4 → Option γ) : Option γ := k_bd x (fun q => f (q.1) (q.2.1) (q.2.2.1) (q.2.2.2.1) (q.2.2.2.2))
theorem k_bd5s {A0 A1 A2 A3 A4 γ : Type} {x : Option (A0 × A1 × A2 × A3 × A4)} {f : A0 → A1 → A2 → A3 → A4 → Option γ} {r : γ} (h : k_bd5 x f = some r) : ∃ a0 a1 a2 a3 a4, x = some (a0, a1, a2, a3, a4) ∧ f a0 a1 a2 a3 a4 = some r := by
  obtain ⟨q, h1, h2⟩ := k_bds h
  exact ⟨q.1, q.2.1, q.2.2.1, q.2.2.2.1, q.2.2.2.2, h1, h2⟩
theorem k_bd5_some {A0 A1 A2 A3 A4 γ : Type} {x : Option (A0 × A1 × A2 × A3 × A4)} {f : A0 → A1 → A2 → A3 → A4 → Option γ} {a0 : A0} {a1 : A1} {a2 : A2} {a3 : A3} {a4 : A4} (h : x = some (a0, a1, a2, a3, a4)) : k_bd5 x f = f a0 a1 a2 a3 a4 := by rw [h]; rfl
def k_bd6 {A0 A1 A2 A3 A4 A5 γ : Type} (x : Option (A0 × A1 × A2 × A3 × A4 × A5)) (f : A0 → A1 → A2 → A3 → A4 → A5 → Option γ) : Option γ := k_bd x (fun q => f (q.1) (q.2.1) (q.2.2.1) (q.2.2.2.1) (q.2.2.2.2.1) (q.2.2.2.2.2))
theorem k_bd6s {A0 A1 A2 A3 A4 A5 γ : Type} {x : Option (A0 × A1 × A2 × A3 × A4 × A5)} {f : A0 → A1 → A2 → A3 → A4 → A5 → Option γ} {r : γ} (h : k_bd6 x f = some r) : ∃ a0 a1 a2 a3 a4 a5, x = some (a0, a1, a2, a3, a4, a5) ∧ f a0 a1 a2 a3 a4 a5 = some r := by
  obtain ⟨q, h1, h2⟩ := k_bds h
  exact ⟨q.1, q.2.1, q.2.2.1, q.2.2.2.1, q.2.2.2.2.1, q.2.2.2.2.2, h1, h2⟩
theorem k_bd6_some {A0 A1 A2 A3 A4 A5 γ : Type} {x : Option (A0 × A1 × A2 × A3 × A4 × A5)} {f : A0 → A1 → A2 → A3 → A4 → A5 → Option γ} {a0 : A0} {a1 : A1} {a2 : A2} {a3 : A3} {a4 : A4} {a5 : A5} (h : x = some (a0, a1, a2, a3, a4, a5)) : k_bd6 x f = f a0 a1 a2 a3 a4 a5 := by rw [h]; rfl
def k_bd7 {A0 A1 A2 A3 A4 A5 A6 γ : Type} (x : Option (A0 × A1 × A2 × A3 × A4 × A5 × A6)) (f : A0 → A1 → A2 → A3 → A4 → A5 → A6 → Option γ) : Option γ := k_bd x (fun q => f (q.1) (q.2.1) (q.2.2.1) (q.2.2.2.1) (q.2.2.2.2.1) (q.2.2.2.2.2.1) (q.2.2.2.2.2.2))
theorem k_bd7s {A0 A1 A2 A3 A4 A5 A6 γ : Type} {x : Option (A0 × A1 × A2 × A3 × A4 × A5 × A6)} {f : A0 → A1 → A2 → A3 → A4 → A5 → A6 → Option γ} {r : γ} (h : k_bd7 x f = some r) : ∃ a0 a1 a2 a3 a4 a5 a6, x = some (a0, a1, a2, a3, a4, a5, a6) ∧ f a0 a1 a2 a3 a4 a5 a6 = some r := by
  obtain ⟨q, h1, h2⟩ := k_bds h
  exact ⟨q.1, q.2.1, q.2.2.1, q.2.2.2.1, q.2.2.2.2.1, q.2.2.2.2.2.1, q.2.2.2.2.2.2, h1, h2⟩
theorem k_bd7_some {A0 A1 A2 A3 A4 A5 A6 γ : Type} {x : Option (A0 × A1 × A2 × A3 × A4 × A5 × A6)} {f : A0 → A1 → A2 → A3 → A4 → A5 → A6 → Option γ} {a0 : A0} {a1 : A1} {a2 : A2} {a3 : A3} {a4 : A4} {a5 : A5} {a6 : A6} (h : x = some (a0, a1, a2, a3, a4, a5, a6)) : k_bd7 x f = f a0 a1 a2 a3 a4 a5 a6 := by rw [h]; rfl
def k_bd8 {A0 A1 A2 A3 A4 A5 A6 A7 γ : Type} (x : Option (A0 × A1 × A2 × A3 × A4 × A5 × A6 × A7)) (f : A0 → A1 → A2 → A3 → A4 → A5 → A6 → A7 → Option γ) : Option γ := k_bd x (fun q => f (q.1) (q.2.1) (q.2.2.1) (q.2.2.2.1) (q.2.2.2.2.1) (q.2.2.2.2.2.1) (q.2.2.2.2.2.2.1) (q.2.2.2.2.2.2.2))
theorem k_bd8s {A0 A1 A2 A3 A4 A5 A6 A7 γ : Type} {x : Option (A0 × A1 × A2 × A3 × A4 × A5 × A6 × A7)} {f : A0 → A1 → A2 → A3 → A4 → A5 → A6 → A7 → Option γ} {r : γ} (h : k_bd8 x f = some r) : ∃ a0 a1 a2 a3 a4 a5 a6 a7, x = some (a0, a1, a2, a3, a4, a5, a6, a7) ∧ f a0 a1 a2 a3 a4 a5 a6 a7 = some r := by
  obtain ⟨q, h1, h2⟩ := k_bds h
  exact ⟨q.1, q.2.1, q.2.2.1, q.2.2.2.1, q.2.2.2.2.1, q.2.2.2.2.2.1, q.2.2.2.2.2.2.1, q.2.2.2.2.2.2.2, h1, h2⟩
theorem k_bd8_some {A0 A1 A2 A3 A4 A5 A6 A7 γ : Type} {x : Option (A0 × A1 × A2 × A3 × A4 × A5 × A6 × A7)} {f : A0 → A1 → A2 → A3 → A4 → A5 → A6 → A7 → Option γ} {a0 : A0} {a1 : A1} {a2 : A2} {a3 : A3} {a4 : A4} {a5 : A5} {a6 : A6} {a7 : A7} (h : x = some (a0, a1, a2, a3, a4, a5, a6, a7)) : k_bd8 x f = f a0 a1 a2 a3 a4 a5 a6 a7 := by rw [h]; rfl
def k_bd9 {A0 A1 A2 A3 A4 A5 A6 A7 A8 γ : Type} (x : Option (A0 × A1 × A2 × A3 × A4 × A5 × A6 × A7 × A8)) (f : A0 → A1 → A2 → A3 → A4 → A5 → A6 → A7 → A8 → Option γ) : Option γ := k_bd x (fun q => f (q.1) (q.2.1) (q.2.2.1) (q.2.2.2.1) (q.2.2.2.2.1) (q.2.2.2.2.2.1) (q.2.2.2.2.2.2.1) (q.2.2.2.2.2.2.2.1) (q.2.2.2.2.2.2.2.2))
theorem k_bd9s {A0 A1 A2 A3 A4 A5 A6 A7 A8 γ : Type} {x : Option (A0 × A1 × A2 × A3 × A4 × A5 × A6 × A7 × A8)} {f : A0 → A1 → A2 → A3 → A4 → A5 → A6 → A7 → A8 → Option γ} {r : γ} (h : k_bd9 x f = some r) : ∃ a0 a1 a2 a3 a4 a5 a6 a7 a8, x = some (a0, a1, a2, a3, a4, a5, a6, a7, a8) ∧ f a0 a1 a2 a3 a4 a5 a6 a7 a8 = some r := by
  obtain ⟨q, h1, h2⟩ := k_bds h
  exact ⟨q.1, q.2.1, q.2.2.1, q.2.2.2.1, q.2.2.2.2.1, q.2.2.2.2.2.1, q.2.2.2.2.2.2.1, q.2.2.2.2.2.2.2.1, q.2.2.2.2.2.2.2.2, h1, h2⟩
theorem k_bd9_some {A0 A1 A2 A3 A4 A5 A6 A7 A8 γ : Type} {x : Option (A0 × A1 × A2 × A3 × A4 × A5 × A6 × A7 × A8)} {f : A0 → A1 → A2 → A3 → A4 → A5 → A6 → A7 → A8 → Option γ} {a0 : A0} {a1 : A1} {a2 : A2} {a3 : A3} {a4 : A4} {a5 : A5} {a6 : A6} {a7 : A7} {a8 : A8} (h : x = some (a0, a1, a2, a3, a4, a5, a6, a7, a8)) : k_bd9 x f = f a0 a1 a2 a3 a4 a5 a6 a7 a8 := by rw [h]; rfl
def k_bd10 {A0 A1 A2 A3 A4 A5 A6 A7 A8 A9 γ : Type} (x : Option (A0 × A1 × A2 × A3 × A4 × A5 × A6 × A7 × A8 × A9)) (f : A0 → A1 → A2 → A3 → A4 → A5 → A6 → A7 → A8 → A9 → Option γ) : Option γ := k_bd x (fun q => f (q.1) (q.2.1) (q.2.2.1) (q.2.2.2.1) (q.2.2.2.2.1) (q.2.2.2.2.2.1) (q.2.2.2.2.2.2.1) (q.2.2.2.2.2.2.2.1) (q.2.2.2.2.2.2.2.2.1) (q.2.2.2.2.2.2.2.2.2))
theorem k_bd10s {A0 A1 A2 A3 A4 A5 A6 A7 A8 A9 γ : Type} {x : Option (A0 × A1 × A2 × A3 × A4 × A5 × A6 × A7 × A8 × A9)} {f : A0 → A1 → A2 → A3 → A4 → A5 → A6 → A7 → A8 → A9 → Option γ} {r : γ} (h : k_bd10 x f = some r) : ∃ a0 a1 a2 a3 a4 a5 a6 a7 a8 a9, x = some (a0, a1, a2, a3, a4, a5, a6, a7, a8, a9) ∧ f a0 a1 a2 a3 a4 a5 a6 a7 a8 a9 = some r := by
  obtain ⟨q, h1, h2⟩ := k_bds h
  exact ⟨q.1, q.2.1, q.2.2.1, q.2.2.2.1, q.2.2.2.2.1, q.2.2.2.2.2.1, q.2.2.2.2.2.2.1, q.2.2.2.2.2.2.2.1, q.2.2.2.2.2.2.2.2.1, q.2.2.2.2.2.2.2.2.2, h1, h2⟩
theorem k_bd10_some {A0 A1 A2 A3 A4 A5 A6 A7 A8 A9 γ : Type} {x : Option (A0 × A1 × A2 × A3 × A4 × A5 × A6 × A7 × A8 × A9)} {f : A0 → A1 → A2 → A3 → A4 → A5 → A6 → A7 → A8 → A9 → Option γ} {a0 : A0} {a1 : A1} {a2 : A2} {a3 : A3} {a4 : A4} {a5 : A5} {a6 : A6} {a7 : A7} {a8 : A8} {a9 : A9} (h : x = some (a0, a1, a2, a3, a4, a5, a6, a7, a8, a9)) : k_bd10 x f = f a0 a1 a2 a3 a4 a5 a6 a7 a8 a9 := by rw [h]; rfl
def k_bd11 {A0 A1 A2 A3 A4 A5 A6 A7 A8 A9 A10 γ : Type} (x : Option (A0 × A1 × A2 × A3 × A4 × A5 × A6 × A7 × A8 × A9 × A10)) (f : A0 → A1 → A2 → A3 → A4 → A5 → A6 → A7 → A8 → A9 → A10 → Option γ) : Option γ := k_bd x (fun q => f (q.1) (q.2.1) (q.2.2.1) (q.2.2.2.1) (q.2.2.2.2.1) (q.2.2.2.2.2.1) (q.2.2.2.2.2.2.1) (q.2.2.2.2.2.2.2.1) (q.2.2.2.2.2.2.2.2.1) (q.2.2.2.2.2.2.2.2.2.1) (q.2.2.2.2.2.2.2.2.2.2))
theorem k_bd11s {A0 A1 A2 A3 A4 A5 A6 A7 A8 A9 A10 γ : Type} {x : Option (A0 × A1 × A2 × A3 × A4 × A5 × A6 × A7 × A8 × A9 × A10)} {f : A0 → A1 → A2 → A3 → A4 → A5 → A6 → A7 → A8 → A9 → A10 → Option γ} {r : γ} (h : k_bd11 x f = some r) : ∃ a0 a1 a2 a3 a4 a5 a6 a7 a8 a9 a10, x = some (a0, a1, a2, a3, a4, a5, a6, a7, a8, a9, a10) ∧ f a0 a1 a2 a3 a4 a5 a6 a7 a8 a9 a10 = some r := by
  obtain ⟨q, h1, h2⟩ := k_bds h
  exact ⟨q.1, q.2.1, q.2.2.1, q.2.2.2.1, q.2.2.2.2.1, q.2.2.2.2.2.1, q.2.2.2.2.2.2.1, q.2.2.2.2.2.2.2.1, q.2.2.2.2.2.2.2.2.1, q.2.2.2.2.2.2.2.2.2.1, q.2.2.2.2.2.2.2.2.2.2, h1, h2⟩
theorem k_bd11_some {A0 A1 A2 A3 A4 A5 A6 A7 A8 A9 A10 γ : Type} {x : Option (A0 × A1 × A2 × A3 × A4 × A5 × A6 × A7 × A8 × A9 × A10)} {f : A0 → A1 → A2 → A3 → A4 → A5 → A6 → A7 → A8 → A9 → A10 → Option γ} {a0 : A0} {a1 : A1} {a2 : A2} {a3 : A3} {a4 : A4} {a5 : A5} {a6 : A6} {a7 : A7} {a8 : A8} {a9 : A9} {a10 : A10} (h : x = some (a0, a1, a2, a3, a4, a5, a6, a7, a8, a9, a10)) : k_bd11 x f = f a0 a1 a2 a3 a4 a5 a6 a7 a8 a9 a10 := by rw [h]; rfl
def k_bd12 {A0 A1 A2 A3 A4 A5 A6 A7 A8 A9 A10 A11 γ : Type} (x : Option (A0 × A1 × A2 × A3 × A4 × A5 × A6 × A7 × A8 × A9 × A10 × A11)) (f : A0 → A1 → A2 → A3 → A4 → A5 → A6 → A7 → A8 → A9 → A10 → A11 → Option γ) : Option γ := k_bd x (fun q => f (q.1) (q.2.1) (q.2.2.1) (q.2.2.2.1) (q.2.2.2.2.1) (q.2.2.2.2.2.1) (q.2.2.2.2.2.2.1) (q.2.2.2.2.2.2.2.1) (q.2.2.2.2.2.2.2.2.1) (q.2.2.2.2.2.2.2.2.2.1) (q.2.2.2.2.2.2.2.2.2.2.1) (q.2.2.2.2.2.2.2.2.2.2.2))
theorem k_bd12s {A0 A1 A2 A3 A4 A5 A6 A7 A8 A9 A10 A11 γ : Type} {x : Option (A0 × A1 × A2 × A3 × A4 × A5 × A6 × A7 × A8 × A9 × A10 × A11)} {f : A0 → A1 → A2 → A3 → A4 → A5 → A6 → A7 → A8 → A9 → A10 → A11 → Option γ} {r : γ} (h : k_bd12 x f = some r) : ∃ a0 a1 a2 a3 a4 a5 a6 a7 a8 a9 a10 a11, x = some (a0, a1, a2, a3, a4, a5, a6, a7, a8, a9, a10, a11) ∧ f a0 a1 a2 a3 a4 a5 a6 a7 a8 a9 a10 a11 = some r := by
  obtain ⟨q, h1, h2⟩ := k_bds h
  exact ⟨q.1, q.2.1, q.2.2.1, q.2.2.2.1, q.2.2.2.2.1, q.2.2.2.2.2.1, q.2.2.2.2.2.2.1, q.2.2.2.2.2.2.2.1, q.2.2.2.2.2.2.2.2.1, q.2.2.2.2.2.2.2.2.2.1, q.2.2.2.2.2.2.2.2.2.2.1, q.2.2.2.2.2.2.2.2.2.2.2, h1, h2⟩
theorem k_bd12_some {A0 A1 A2 A3 A4 A5 A6 A7 A8 A9 A10 A11 γ : Type} {x : Option (A0 × A1 × A2 × A3 × A4 × A5 × A6 × A7 × A8 × A9 × A10 × A11)} {f : A0 → A1 → A2 → A3 → A4 → A5 → A6 → A7 → A8 → A9 → A10 → A11 → Option γ} {a0 : A0} {a1 : A1} {a2 : A2} {a3 : A3} {a4 : A4} {a5 : A5} {a6 : A6} {a7 : A7} {a8 : A8} {a9 : A9} {a10 : A10} {a11 : A11} (h : x = some (a0, a1, a2, a3, a4, a5, a6, a7, a8, a9, a10, a11)) : k_bd12 x f = f a0 a1 a2 a3 a4 a5 a6 a7 a8 a9 a10 a11 := by rw [h]; rfl
def k_bd13 {A0 A1 A2 A3 A4 A5 A6 A7 A8 A9 A10 A11 A12 γ : Type} (x : Option (A0 × A1 × A2 × A3 × A4 × A5 × A6 × A7 × A8 × A9 × A10 × A11 × A12)) (f : A0 → A1 → A2 → A3 → A4 → A5 → A6 → A7 → A8 → A9 → A10 → A11 → A12 → Option γ) : Option γ := k_bd x (fun q => f (q.1) (q.2.1) (q.2.2.1) (q.2.2.2.1) (q.2.2.2.2.1) (q.2.2.2.2.2.1) (q.2.2.2.2.2.2.1) (q.2.2.2.2.2.2.2.1) (q.2.2.2.2.2.2.2.2.1) (q.2.2.2.2.2.2.2.2.2.1) (q.2.2.2.2.2.2.2.2.2.2.1) (q.2.2.2.2.2.2.2.2.2.2.2.1) (q.2.2.2.2.2.2.2.2.2.2.2.2))
theorem k_bd13s {A0 A1 A2 A3 A4 A5 A6 A7 A8 A9 A10 A11 A12 γ : Type} {x : Option (A0 × A1 × A2 × A3 × A4 × A5 × A6 × A7 × A8 × A9 × A10 × A11 × A12)} {f : A0 → A1 → A2 → A3 → A4 → A5 → A6 → A7 → A8 → A9 → A10 → A11 → A12 → Option γ} {r : γ} (h : k_bd13 x f = some r) : ∃ a0 a1 a2 a3 a4 a5 a6 a7 a8 a9 a10 a11 a12, x = some (a0, a1, a2, a3, a4, a5, a6, a7, a8, a9, a10, a11, a12) ∧ f a0 a1 a2 a3 a4 a5 a6 a7 a8 a9 a10 a11 a12 = some r := by
  obtain ⟨q, h1, h2⟩ := k_bds h
  exact ⟨q.1, q.2.1, q.2.2.1, q.2.2.2.1, q.2.2.2.2.1, q.2.2.2.2.2.1, q.2.2.2.2.2.2.1, q.2.2.2.2.2.2.2.1, q.2.2.2.2.2.2.2.2.1, q.2.2.2.2.2.2.2.2.2.1, q.2.2.2.2.2.2.2.2.2.2.1, q.2.2.2.2.2.2.2.2.2.2.2.1, q.2.2.2.2.2.2.2.2.2.2.2.2, h1, h2⟩
theorem k_bd13_some {A0 A1 A2 A3 A4 A5 A6 A7 A8 A9 A10 A11 A12 γ : Type} {x : Option (A0 × A1 × A2 × A3 × A4 × A5 × A6 × A7 × A8 × A9 × A10 × A11 × A12)} {f : A0 → A1 → A2 → A3 → A4 → A5 → A6 → A7 → A8 → A9 → A10 → A11 → A12 → Option γ} {a0 : A0} {a1 : A1} {a2 : A2} {a3 : A3} {a4 : A4} {a5 : A5} {a6 : A6} {a7 : A7} {a8 : A8} {a9 : A9} {a10 : A10} {a11 : A11} {a12 : A12} (h : x = some (a0, a1, a2, a3, a4, a5, a6, a7, a8, a9, a10, a11, a12)) : k_bd13 x f = f a0 a1 a2 a3 a4 a5 a6 a7 a8 a9 a10 a11 a12 := by rw [h]; rfl
def k_bd14 {A0 A1 A2 A3 A4 A5 A6 A7 A8 A9 A10 A11 A12 A13 γ : Type} (x : Option (A0 × A1 × A2 × A3 × A4 × A5 × A6 × A7 × A8 × A9 × A10 × A11 × A12 × A13)) (f : A0 → A1 → A2 → A3 → A4 → A5 → A6 → A7 → A8 → A9 → A10 → A11 → A12 → A13 → Option γ) : Option γ := k_bd x (fun q => f (q.1) (q.2.1) (q.2.2.1) (q.2.2.2.1) (q.2.2.2.2.1) (q.2.2.2.2.2.1) (q.2.2.2.2.2.2.1) (q.2.2.2.2.2.2.2.1) (q.2.2.2.2.2.2.2.2.1) (q.2.2.2.2.2.2.2.2.2.1) (q.2.2.2.2.2.2.2.2.2.2.1) (q.2.2.2.2.2.2.2.2.2.2.2.1) (q.2.2.2.2.2.2.2.2.2.2.2.2.1) (q.2.2.2.2.2.2.2.2.2.2.2.2.2))
theorem k_bd14s {A0 A1 A2 A3 A4 A5 A6 A7 A8 A9 A10 A11 A12 A13 γ : Type} {x : Option (A0 × A1 × A2 × A3 × A4 × A5 × A6 × A7 × A8 × A9 × A10 × A11 × A12 × A13)} {f : A0 → A1 → A2 → A3 → A4 → A5 → A6 → A7 → A8 → A9 → A10 → A11 → A12 → A13 → Option γ} {r : γ} (h : k_bd14 x f = some r) : ∃ a0 a1 a2 a3 a4 a5 a6 a7 a8 a9 a10 a11 a12 a13, x = some (a0, a1, a2, a3, a4, a5, a6, a7, a8, a9, a10, a11, a12, a13) ∧ f a0 a1 a2 a3 a4 a5 a6 a7 a8 a9 a10 a11 a12 a13 = some r := by
  obtain ⟨q, h1, h2⟩ := k_bds h
  exact ⟨q.1, q.2.1, q.2.2.1, q.2.2.2.1, q.2.2.2.2.1, q.2.2.2.2.2.1, q.2.2.2.2.2.2.1, q.2.2.2.2.2.2.2.1, q.2.2.2.2.2.2.2.2.1, q.2.2.2.2.2.2.2.2.2.1, q.2.2.2.2.2.2.2.2.2.2.1, q.2.2.2.2.2.2.2.2.2.2.2.1, q.2.2.2.2.2.2.2.2.2.2.2.2.1, q.2.2.2.2.2.2.2.2.2.2.2.2.2, h1, h2⟩
theorem k_bd14_some {A0 A1 A2 A3 A4 A5 A6 A7 A8 A9 A10 A11 A12 A13 γ : Type} {x : Option (A0 × A1 × A2 × A3 × A4 × A5 × A6 × A7 × A8 × A9 × A10 × A11 × A12 × A13)} {f : A0 → A1 → A2 → A3 → A4 → A5 → A6 → A7 → A8 → A9 → A10 → A11 → A12 → A13 → Option γ} {a0 : A0} {a1 : A1} {a2 : A2} {a3 : A3} {a4 : A4} {a5 : A5} {a6 : A6} {a7 : A7} {a8 : A8} {a9 : A9} {a10 : A10} {a11 : A11} {a12 : A12} {a13 : A13} (h : x = some (a0, a1, a2, a3, a4, a5, a6, a7, a8, a9, a10, a11, a12, a13)) : k_bd14 x f = f a0 a1 a2 a3 a4 a5 a6 a7 a8 a9 a10 a11 a12 a13 := by rw [h]; rfl
def k_fix {F : Type} (z : F) (st : F → F) : Nat → F
  | 0 => z
  | n + 1 => st (k_fix z st n)
def k_F : Nat := 4096
theorem k_loop {F : Type} {z : F} {st : F → F} (P : F → Prop) (h0 : P z) (hs : ∀ k, P k → P (st k)) : ∀ n, P (k_fix z st n)
  | 0 => h0
  | n + 1 => hs _ (k_loop P h0 hs n)
theorem k_fixS {F : Type} (z : F) (st : F → F) (n : Nat) : k_fix z st (n + 1) = st (k_fix z st n) := rfl
abbrev k_TY := List (ClassId × FieldType)
def k_N (U : State) : Prop := va_Nw (.methodLinkNest RX1 84 yX7_reachOf RX9) U ∧ va_Nw (.methodLinkNest RX4 53 yX7_reachOf RX9) U
theorem k_N.moved {s U : State} (hW : s.WarmedH U.vm) (h : k_N s) : k_N U := ⟨va_Nw.warmM hW h.1, va_Nw.warmM hW h.2⟩
theorem k_N.same {u U : State} (hv : u.vm = U.vm) (h : k_N u) : k_N U := ⟨va_Nw.same rfl hv h.1, va_Nw.same rfl hv h.2⟩
def k_pre (D : va_G) (tys : k_TY) (sz : Nat) (W : va_W) (U : State) : Prop := U.heap.size = sz ∧ va_P D vwCl W U.heap ∧ va_K D vwCl tys U ∧ va_D (fun _ => True) W ∧ k_N U
def k_post (D : va_G) (tys : k_TY) (A : Nat → Prop) (W : va_W) (t : State) : Prop := va_P D vwCl W t.heap ∧ va_K D vwCl tys t ∧ va_D A W
theorem k_blind {D : va_G} {tys : k_TY} {sz : Nat} {W : va_W} {av : List Value} : FrameBlind (va_Pc av (k_pre D tys sz W)) := fun a U g mk q => ⟨q.1, q.2.1, q.2.2.1, va_K.moved (u := U) (U := U.calling g mk a) (Vm.Alike.refl U.vm) q.2.2.2.1, q.2.2.2.2.1, k_N.same rfl q.2.2.2.2.2⟩
theorem k_at {W Wc : va_W} {is : List Nat} (hs : is.map (fun i => W[i]?) = Wc.map some) (k : Nat) (q : Nat × va_E) (hk : Wc[k]? = some q) : ∃ i, is[k]? = some i ∧ W[i]? = some q := by
  have h1 : (is.map (fun i => W[i]?))[k]? = some (some q) := by rw [hs, List.getElem?_map, hk]; rfl
  rw [List.getElem?_map] at h1
  cases hi : is[k]? with
  | none => rw [hi] at h1; cases h1
  | some i => rw [hi] at h1; exact ⟨i, rfl, Option.some.inj h1⟩
theorem k_Psub {D : va_G} {cl : List vw_C} {W Wc : va_W} {H : Heap} (h : va_P D cl W H) (is : List Nat) (hs : is.map (fun i => W[i]?) = Wc.map some) : va_P D cl Wc H := by
  intro k q hk
  obtain ⟨i, -, hi⟩ := k_at hs k q hk
  exact h i q hi
def k_pick (W : va_W) (is : List Nat) : va_W := is.filterMap (fun i => W[i]?)
section KR
variable {p : Program} {l : Launch} {e : Env} {R : Room} {s : State} {m : MethodId} {args : Array Value} {below : List Frame} {meth : Method} {c : Code} {H : Heap} {locs : List Loc} {cells slots : Nat} {Q : State → Prop}
variable {y : MethodName} {bytes cc : ByteArray} {maxL nL mc ms n index pc : Nat} {ret : Option FieldType} {ws : List Cond} {rm : Room} {Qc : Array Value → State → Outcome → State → Prop} {free : Addr → Prop} {Ts : List Cond} {own C host : String} {b : Addr} {As rest st : List Value} {ls : Array Slot}
variable {D : va_G} {tys : k_TY} {W0 W1 Wx Wf : va_W} {A : Nat → Prop} {H0 : Heap} {a : Array Value}
theorem k_rV {T : u_T} {N ci : Nat} {fs : List Value} (S : CallFix p m c cc nL s args Ts own) (hK : va_K D vwCl tys s) (hN : k_N s) (hP : va_P D vwCl W0 H) (hD : va_D A W0) (hM : Met l y ws rm (va_Pc (.ref b :: As) (k_pre D tys H.size W0)) Qc mc ms free) (cw : CallW R s args own C index y bytes maxL ret ws rm mc ms n)
    (he : W0[0]? = some (b, .inr (ci, fs))) (hcl : vwCl[ci]? = some (C, T, N))
    (hn : As.length = n) (hsize : ls.size = nL) (hst : st = As.reverse ++ .ref b :: rest) (hW : (rest.map fun v => v.category).sum ≤ 8) (hdg : decode cc pc = .ok (.invokevirtual index, 3)) (hf : cells + mc ≤ R.cells ∧ slots + ms ≤ R.slots) :
    va_Run p l e R s m args below meth c H locs cells slots mc ms (F0 m pc ls st) rest (Qc (Value.ref b :: As).toArray) free :=
  va_runV (As := As) (rest := rest) S hM cw ⟨k_blind, va_recv hK hP hcl he, fun U hU hWm => ⟨rfl, by rw [hU], by rw [hU]; exact hP, va_K.moved hWm.alike hK, hD.weaken (fun _ _ _ _ => trivial), hN.moved hWm⟩⟩ rfl hn hsize hst (lv_room hW) hdg hf
theorem k_rS (S : CallFix p m c cc nL s args Ts own) (hK : va_K D vwCl tys s) (hN : k_N s) (hP : va_P D vwCl W0 H) (hD : va_D A W0) (hM : Met l y ws rm (va_Pc As (k_pre D tys H.size W0)) Qc mc ms free) (cw : CallB R s args own index y bytes maxL ret ws rm mc ms n ∧ (Cond.static y).before args s = true)
    (hn : As.length = n) (hsize : ls.size = nL) (hst : st = As.reverse ++ rest) (hW : (rest.map fun v => v.category).sum ≤ 8) (hdg : decode cc pc = .ok (.invokestatic index, 3)) (hf : cells + mc ≤ R.cells ∧ slots + ms ≤ R.slots) :
    va_Run p l e R s m args below meth c H locs cells slots mc ms (F0 m pc ls st) rest (Qc As.toArray) free :=
  va_runS (As := As) (rest := rest) S hM cw ⟨k_blind, fun U hU hWm => ⟨rfl, by rw [hU], by rw [hU]; exact hP, va_K.moved hWm.alike hK, hD.weaken (fun _ _ _ _ => trivial), hN.moved hWm⟩⟩ rfl hn hsize hst (lv_room hW) hdg hf
theorem k_rSN (S : CallFix p m c cc nL s args Ts own) (hK : va_K D vwCl tys s) (hN : k_N s) (hP : va_P D vwCl W0 H) (hD : va_D A W0) (hM : Met l y ws rm (va_Pc As (k_pre D tys H.size W0)) Qc mc ms free) (cw : va_CN R s args own index y host bytes maxL ret ws rm mc ms n ∧ (Cond.static y).before args s = true ∧ True)
    (hn : As.length = n) (hsize : ls.size = nL) (hst : st = As.reverse ++ rest) (hW : (rest.map fun v => v.category).sum ≤ 8) (hdg : decode cc pc = .ok (.invokestatic index, 3)) (hf : cells + mc ≤ R.cells ∧ slots + ms ≤ R.slots) :
    va_Run p l e R s m args below meth c H locs cells slots mc ms (F0 m pc ls st) rest (Qc As.toArray) free :=
  va_runSN (As := As) (rest := rest) S hM cw ⟨k_blind, fun U hU hWm => ⟨rfl, by rw [hU], by rw [hU]; exact hP, va_K.moved hWm.alike hK, hD.weaken (fun _ _ _ _ => trivial), hN.moved hWm⟩⟩ rfl hn hsize hst (lv_room hW) hdg hf
theorem k_fr (hD : va_D A W0) (hS : va_S A H0 H locs) (hA : ∀ q, H0.size ≤ q → A q) : ∀ q, va_A W0 H.size q → A q := by
  intro q h
  rcases h with ⟨k, e, h⟩ | h
  · exact hD.2 k (q, e) h
  · exact hA q (Nat.le_trans hS.1 h)
theorem k_D0 : va_D A [] := ⟨fun i j p q h => by simp at h, fun k q h => by simp at h⟩
theorem k_P0 {cl : List vw_C} : va_P D cl [] H := fun k q h => by simp at h

theorem k_i_s {r : Int32} (hr : va_Run p l e R s m args below meth c H locs cells slots 0 0 (F0 m pc ls st) rest (va_Qi (fun (r' : Int32) (_ : Unit) => r' = r) (fun _ t => k_post D tys (va_A W0 H.size) W1 t) (va_A W0 H.size) a) (va_A W0 H.size)) (hD : va_D A W0) (hS : va_S A H0 H locs) (hA : ∀ q, H0.size ≤ q → A q)
    (kk : ∀ (H1 : Heap) (locs1 : List Loc), va_P D vwCl W1 H1 → va_D A W1 → va_S A H0 H1 locs1 → W p l e R s m args below meth c H1 locs1 cells slots Q (F0 m (pc + 3) ls (.int r :: rest))) : W p l e R s m args below meth c H locs cells slots Q (F0 m pc ls st) :=
  va_calli hr hS (fun q _ h => k_fr hD hS hA q h) (k_fr hD hS hA) (fun r' u t H1 locs1 ht hvm hp hB hz hk hS1 => by subst hp; exact kk H1 locs1 (by rw [← ht]; exact hB.1) (hB.2.2.weaken (fun k q _ h => k_fr hD hS hA q.1 h)) hS1)
theorem k_i_0 {r : Int32} (hr : va_Run p l e R s m args below meth c H locs cells slots 0 0 (F0 m pc ls st) rest (va_Qi (fun (r' : Int32) (_ : Unit) => r' = r) (fun _ t => k_post D tys (va_A ([] : va_W) H.size) ([] : va_W) t) (va_A ([] : va_W) H.size) a) (va_A ([] : va_W) H.size)) (hP : va_P D vwCl Wx H) (hS : va_S A H0 H locs) (hA : ∀ q, H0.size ≤ q → A q)
    (kk : ∀ (H1 : Heap) (locs1 : List Loc), va_P D vwCl Wx H1 → va_S A H0 H1 locs1 → W p l e R s m args below meth c H1 locs1 cells slots Q (F0 m (pc + 3) ls (.int r :: rest))) : W p l e R s m args below meth c H locs cells slots Q (F0 m pc ls st) :=
  va_calli hr hS (fun q _ h => k_fr k_D0 hS hA q h) (k_fr k_D0 hS hA) (fun r' u t H1 locs1 ht hvm hp hB hz hk hS1 => by
    subst hp
    exact kk H1 locs1 (hP.kept (fun k q hq => hk q.1 (hP k q hq).lt (fun h => h.elim (fun ⟨k2, e2, h⟩ => by simp at h) (fun h => absurd (hP k q hq).lt (Nat.not_lt.mpr h))))) hS1)
theorem k_i_c {r : Int32} (isC isR isF : List Nat) (hr : va_Run p l e R s m args below meth c H locs cells slots 0 0 (F0 m pc ls st) rest (va_Qi (fun (r' : Int32) (_ : Unit) => r' = r) (fun _ t => k_post D tys (va_A W0 H.size) W1 t) (va_A W0 H.size) a) (va_A W0 H.size)) (hP : va_P D vwCl Wx H) (hD : va_D A Wx) (hS : va_S A H0 H locs) (hA : ∀ q, H0.size ≤ q → A q)
    (hC : isC.map (fun i => Wx[i]?) = W0.map some) (hR : isR.map (fun i => Wx[i]?) = (k_pick Wx isR).map some) (hnd : va_nd isR = true) (hdis : ∀ i ∈ isR, i ∉ isC) (hF : isF.map (fun i => (k_pick Wx isR ++ W1)[i]?) = Wf.map some) (hnF : va_nd isF = true)
    (kk : ∀ (H1 : Heap) (locs1 : List Loc), va_P D vwCl Wf H1 → va_D A Wf → va_S A H0 H1 locs1 → W p l e R s m args below meth c H1 locs1 cells slots Q (F0 m (pc + 3) ls (.int r :: rest))) : W p l e R s m args below meth c H locs cells slots Q (F0 m pc ls st) :=
  va_calli hr hS (fun q _ h => va_free hD hS hA isC hC q h) (va_free hD hS hA isC hC) (fun r' u t H1 locs1 ht hvm hp hB hz hk hS1 => by
    subst hp
    obtain ⟨hP1, hK1, hD1⟩ := hB
    rw [ht] at hP1
    obtain ⟨hP2, hD2⟩ := va_join hP hD isC isR hC hR hnd hdis hk (va_free hD hS hA isC hC) hP1 hD1
    exact kk H1 locs1 (k_Psub hP2 isF hF) (hD2.sub isF hnF hF) hS1)
theorem k_l_s {r : Int64} (hr : va_Run p l e R s m args below meth c H locs cells slots 0 0 (F0 m pc ls st) rest (va_Ql (fun (r' : Int64) (_ : Unit) => r' = r) (fun _ t => k_post D tys (va_A W0 H.size) W1 t) (va_A W0 H.size) a) (va_A W0 H.size)) (hD : va_D A W0) (hS : va_S A H0 H locs) (hA : ∀ q, H0.size ≤ q → A q)
    (kk : ∀ (H1 : Heap) (locs1 : List Loc), va_P D vwCl W1 H1 → va_D A W1 → va_S A H0 H1 locs1 → W p l e R s m args below meth c H1 locs1 cells slots Q (F0 m (pc + 3) ls (.long r :: rest))) : W p l e R s m args below meth c H locs cells slots Q (F0 m pc ls st) :=
  va_calll hr hS (fun q _ h => k_fr hD hS hA q h) (k_fr hD hS hA) (fun r' u t H1 locs1 ht hvm hp hB hz hk hS1 => by subst hp; exact kk H1 locs1 (by rw [← ht]; exact hB.1) (hB.2.2.weaken (fun k q _ h => k_fr hD hS hA q.1 h)) hS1)
theorem k_l_0 {r : Int64} (hr : va_Run p l e R s m args below meth c H locs cells slots 0 0 (F0 m pc ls st) rest (va_Ql (fun (r' : Int64) (_ : Unit) => r' = r) (fun _ t => k_post D tys (va_A ([] : va_W) H.size) ([] : va_W) t) (va_A ([] : va_W) H.size) a) (va_A ([] : va_W) H.size)) (hP : va_P D vwCl Wx H) (hS : va_S A H0 H locs) (hA : ∀ q, H0.size ≤ q → A q)
    (kk : ∀ (H1 : Heap) (locs1 : List Loc), va_P D vwCl Wx H1 → va_S A H0 H1 locs1 → W p l e R s m args below meth c H1 locs1 cells slots Q (F0 m (pc + 3) ls (.long r :: rest))) : W p l e R s m args below meth c H locs cells slots Q (F0 m pc ls st) :=
  va_calll hr hS (fun q _ h => k_fr k_D0 hS hA q h) (k_fr k_D0 hS hA) (fun r' u t H1 locs1 ht hvm hp hB hz hk hS1 => by
    subst hp
    exact kk H1 locs1 (hP.kept (fun k q hq => hk q.1 (hP k q hq).lt (fun h => h.elim (fun ⟨k2, e2, h⟩ => by simp at h) (fun h => absurd (hP k q hq).lt (Nat.not_lt.mpr h))))) hS1)
theorem k_l_c {r : Int64} (isC isR isF : List Nat) (hr : va_Run p l e R s m args below meth c H locs cells slots 0 0 (F0 m pc ls st) rest (va_Ql (fun (r' : Int64) (_ : Unit) => r' = r) (fun _ t => k_post D tys (va_A W0 H.size) W1 t) (va_A W0 H.size) a) (va_A W0 H.size)) (hP : va_P D vwCl Wx H) (hD : va_D A Wx) (hS : va_S A H0 H locs) (hA : ∀ q, H0.size ≤ q → A q)
    (hC : isC.map (fun i => Wx[i]?) = W0.map some) (hR : isR.map (fun i => Wx[i]?) = (k_pick Wx isR).map some) (hnd : va_nd isR = true) (hdis : ∀ i ∈ isR, i ∉ isC) (hF : isF.map (fun i => (k_pick Wx isR ++ W1)[i]?) = Wf.map some) (hnF : va_nd isF = true)
    (kk : ∀ (H1 : Heap) (locs1 : List Loc), va_P D vwCl Wf H1 → va_D A Wf → va_S A H0 H1 locs1 → W p l e R s m args below meth c H1 locs1 cells slots Q (F0 m (pc + 3) ls (.long r :: rest))) : W p l e R s m args below meth c H locs cells slots Q (F0 m pc ls st) :=
  va_calll hr hS (fun q _ h => va_free hD hS hA isC hC q h) (va_free hD hS hA isC hC) (fun r' u t H1 locs1 ht hvm hp hB hz hk hS1 => by
    subst hp
    obtain ⟨hP1, hK1, hD1⟩ := hB
    rw [ht] at hP1
    obtain ⟨hP2, hD2⟩ := va_join hP hD isC isR hC hR hnd hdis hk (va_free hD hS hA isC hC) hP1 hD1
    exact kk H1 locs1 (k_Psub hP2 isF hF) (hD2.sub isF hnF hF) hS1)
theorem k_d_s {r : UInt64} (hr : va_Run p l e R s m args below meth c H locs cells slots 0 0 (F0 m pc ls st) rest (va_Qd (fun (r' : UInt64) (_ : Unit) => r' = r) (fun _ t => k_post D tys (va_A W0 H.size) W1 t) (va_A W0 H.size) a) (va_A W0 H.size)) (hD : va_D A W0) (hS : va_S A H0 H locs) (hA : ∀ q, H0.size ≤ q → A q)
    (kk : ∀ (H1 : Heap) (locs1 : List Loc), va_P D vwCl W1 H1 → va_D A W1 → va_S A H0 H1 locs1 → W p l e R s m args below meth c H1 locs1 cells slots Q (F0 m (pc + 3) ls (.double r :: rest))) : W p l e R s m args below meth c H locs cells slots Q (F0 m pc ls st) :=
  va_calld hr hS (fun q _ h => k_fr hD hS hA q h) (k_fr hD hS hA) (fun r' u t H1 locs1 ht hvm hp hB hz hk hS1 => by subst hp; exact kk H1 locs1 (by rw [← ht]; exact hB.1) (hB.2.2.weaken (fun k q _ h => k_fr hD hS hA q.1 h)) hS1)
theorem k_d_0 {r : UInt64} (hr : va_Run p l e R s m args below meth c H locs cells slots 0 0 (F0 m pc ls st) rest (va_Qd (fun (r' : UInt64) (_ : Unit) => r' = r) (fun _ t => k_post D tys (va_A ([] : va_W) H.size) ([] : va_W) t) (va_A ([] : va_W) H.size) a) (va_A ([] : va_W) H.size)) (hP : va_P D vwCl Wx H) (hS : va_S A H0 H locs) (hA : ∀ q, H0.size ≤ q → A q)
    (kk : ∀ (H1 : Heap) (locs1 : List Loc), va_P D vwCl Wx H1 → va_S A H0 H1 locs1 → W p l e R s m args below meth c H1 locs1 cells slots Q (F0 m (pc + 3) ls (.double r :: rest))) : W p l e R s m args below meth c H locs cells slots Q (F0 m pc ls st) :=
  va_calld hr hS (fun q _ h => k_fr k_D0 hS hA q h) (k_fr k_D0 hS hA) (fun r' u t H1 locs1 ht hvm hp hB hz hk hS1 => by
    subst hp
    exact kk H1 locs1 (hP.kept (fun k q hq => hk q.1 (hP k q hq).lt (fun h => h.elim (fun ⟨k2, e2, h⟩ => by simp at h) (fun h => absurd (hP k q hq).lt (Nat.not_lt.mpr h))))) hS1)
theorem k_d_c {r : UInt64} (isC isR isF : List Nat) (hr : va_Run p l e R s m args below meth c H locs cells slots 0 0 (F0 m pc ls st) rest (va_Qd (fun (r' : UInt64) (_ : Unit) => r' = r) (fun _ t => k_post D tys (va_A W0 H.size) W1 t) (va_A W0 H.size) a) (va_A W0 H.size)) (hP : va_P D vwCl Wx H) (hD : va_D A Wx) (hS : va_S A H0 H locs) (hA : ∀ q, H0.size ≤ q → A q)
    (hC : isC.map (fun i => Wx[i]?) = W0.map some) (hR : isR.map (fun i => Wx[i]?) = (k_pick Wx isR).map some) (hnd : va_nd isR = true) (hdis : ∀ i ∈ isR, i ∉ isC) (hF : isF.map (fun i => (k_pick Wx isR ++ W1)[i]?) = Wf.map some) (hnF : va_nd isF = true)
    (kk : ∀ (H1 : Heap) (locs1 : List Loc), va_P D vwCl Wf H1 → va_D A Wf → va_S A H0 H1 locs1 → W p l e R s m args below meth c H1 locs1 cells slots Q (F0 m (pc + 3) ls (.double r :: rest))) : W p l e R s m args below meth c H locs cells slots Q (F0 m pc ls st) :=
  va_calld hr hS (fun q _ h => va_free hD hS hA isC hC q h) (va_free hD hS hA isC hC) (fun r' u t H1 locs1 ht hvm hp hB hz hk hS1 => by
    subst hp
    obtain ⟨hP1, hK1, hD1⟩ := hB
    rw [ht] at hP1
    obtain ⟨hP2, hD2⟩ := va_join hP hD isC isR hC hR hnd hdis hk (va_free hD hS hA isC hC) hP1 hD1
    exact kk H1 locs1 (k_Psub hP2 isF hF) (hD2.sub isF hnF hF) hS1)
theorem k_v_s (hr : va_Run p l e R s m args below meth c H locs cells slots 0 0 (F0 m pc ls st) rest (va_Qv (fun (_ : Unit) => True) (fun _ t => k_post D tys (va_A W0 H.size) W1 t) (va_A W0 H.size) a) (va_A W0 H.size)) (hD : va_D A W0) (hS : va_S A H0 H locs) (hA : ∀ q, H0.size ≤ q → A q)
    (kk : ∀ (H1 : Heap) (locs1 : List Loc), va_P D vwCl W1 H1 → va_D A W1 → va_S A H0 H1 locs1 → W p l e R s m args below meth c H1 locs1 cells slots Q (F0 m (pc + 3) ls rest)) : W p l e R s m args below meth c H locs cells slots Q (F0 m pc ls st) :=
  va_callv hr hS (fun q _ h => k_fr hD hS hA q h) (k_fr hD hS hA) (fun u t H1 locs1 ht hvm hp hB hz hk hS1 => kk H1 locs1 (by rw [← ht]; exact hB.1) (hB.2.2.weaken (fun k q _ h => k_fr hD hS hA q.1 h)) hS1)
theorem k_v_c (isC isR isF : List Nat) (hr : va_Run p l e R s m args below meth c H locs cells slots 0 0 (F0 m pc ls st) rest (va_Qv (fun (_ : Unit) => True) (fun _ t => k_post D tys (va_A W0 H.size) W1 t) (va_A W0 H.size) a) (va_A W0 H.size)) (hP : va_P D vwCl Wx H) (hD : va_D A Wx) (hS : va_S A H0 H locs) (hA : ∀ q, H0.size ≤ q → A q)
    (hC : isC.map (fun i => Wx[i]?) = W0.map some) (hR : isR.map (fun i => Wx[i]?) = (k_pick Wx isR).map some) (hnd : va_nd isR = true) (hdis : ∀ i ∈ isR, i ∉ isC) (hF : isF.map (fun i => (k_pick Wx isR ++ W1)[i]?) = Wf.map some) (hnF : va_nd isF = true)
    (kk : ∀ (H1 : Heap) (locs1 : List Loc), va_P D vwCl Wf H1 → va_D A Wf → va_S A H0 H1 locs1 → W p l e R s m args below meth c H1 locs1 cells slots Q (F0 m (pc + 3) ls rest)) : W p l e R s m args below meth c H locs cells slots Q (F0 m pc ls st) :=
  va_callv hr hS (fun q _ h => va_free hD hS hA isC hC q h) (va_free hD hS hA isC hC) (fun u t H1 locs1 ht hvm hp hB hz hk hS1 => by
    obtain ⟨hP1, hK1, hD1⟩ := hB
    rw [ht] at hP1
    obtain ⟨hP2, hD2⟩ := va_join hP hD isC isR hC hR hnd hdis hk (va_free hD hS hA isC hC) hP1 hD1
    exact kk H1 locs1 (k_Psub hP2 isF hF) (hD2.sub isF hnF hF) hS1)
theorem k_i_sE {S : Type} {V1 : S → va_W} {r : Int32} (hr : va_Run p l e R s m args below meth c H locs cells slots 0 0 (F0 m pc ls st) rest (va_Qi (fun (r' : Int32) (_ : S) => r' = r) (fun u t => k_post D tys (va_A W0 H.size) (V1 u) t) (va_A W0 H.size) a) (va_A W0 H.size)) (hD : va_D A W0) (hS : va_S A H0 H locs) (hA : ∀ q, H0.size ≤ q → A q)
    (kk : ∀ (u : S) (H1 : Heap) (locs1 : List Loc), va_P D vwCl (V1 u) H1 → va_D A (V1 u) → va_S A H0 H1 locs1 → W p l e R s m args below meth c H1 locs1 cells slots Q (F0 m (pc + 3) ls (.int r :: rest))) : W p l e R s m args below meth c H locs cells slots Q (F0 m pc ls st) :=
  va_calli hr hS (fun q _ h => k_fr hD hS hA q h) (k_fr hD hS hA) (fun r' u t H1 locs1 ht hvm hp hB hz hk hS1 => by subst hp; exact kk u H1 locs1 (by rw [← ht]; exact hB.1) (hB.2.2.weaken (fun k q _ h => k_fr hD hS hA q.1 h)) hS1)
theorem k_i_cE {S : Type} {V1 : S → va_W} (Vf : S → va_W) {r : Int32} (isC isR isF : List Nat) (hr : va_Run p l e R s m args below meth c H locs cells slots 0 0 (F0 m pc ls st) rest (va_Qi (fun (r' : Int32) (_ : S) => r' = r) (fun u t => k_post D tys (va_A W0 H.size) (V1 u) t) (va_A W0 H.size) a) (va_A W0 H.size)) (hP : va_P D vwCl Wx H) (hD : va_D A Wx) (hS : va_S A H0 H locs) (hA : ∀ q, H0.size ≤ q → A q)
    (hC : isC.map (fun i => Wx[i]?) = W0.map some) (hR : isR.map (fun i => Wx[i]?) = (k_pick Wx isR).map some) (hnd : va_nd isR = true) (hdis : ∀ i ∈ isR, i ∉ isC) (hF : ∀ u, isF.map (fun i => (k_pick Wx isR ++ V1 u)[i]?) = (Vf u).map some) (hnF : va_nd isF = true)
    (kk : ∀ (u : S) (H1 : Heap) (locs1 : List Loc), va_P D vwCl (Vf u) H1 → va_D A (Vf u) → va_S A H0 H1 locs1 → W p l e R s m args below meth c H1 locs1 cells slots Q (F0 m (pc + 3) ls (.int r :: rest))) : W p l e R s m args below meth c H locs cells slots Q (F0 m pc ls st) :=
  va_calli hr hS (fun q _ h => va_free hD hS hA isC hC q h) (va_free hD hS hA isC hC) (fun r' u t H1 locs1 ht hvm hp hB hz hk hS1 => by
    subst hp; obtain ⟨hP1, hK1, hD1⟩ := hB
    rw [ht] at hP1
    obtain ⟨hP2, hD2⟩ := va_join hP hD isC isR hC hR hnd hdis hk (va_free hD hS hA isC hC) hP1 hD1
    exact kk u H1 locs1 (k_Psub hP2 isF (hF u)) (hD2.sub isF hnF (hF u)) hS1)
theorem k_l_sE {S : Type} {V1 : S → va_W} {r : Int64} (hr : va_Run p l e R s m args below meth c H locs cells slots 0 0 (F0 m pc ls st) rest (va_Ql (fun (r' : Int64) (_ : S) => r' = r) (fun u t => k_post D tys (va_A W0 H.size) (V1 u) t) (va_A W0 H.size) a) (va_A W0 H.size)) (hD : va_D A W0) (hS : va_S A H0 H locs) (hA : ∀ q, H0.size ≤ q → A q)
    (kk : ∀ (u : S) (H1 : Heap) (locs1 : List Loc), va_P D vwCl (V1 u) H1 → va_D A (V1 u) → va_S A H0 H1 locs1 → W p l e R s m args below meth c H1 locs1 cells slots Q (F0 m (pc + 3) ls (.long r :: rest))) : W p l e R s m args below meth c H locs cells slots Q (F0 m pc ls st) :=
  va_calll hr hS (fun q _ h => k_fr hD hS hA q h) (k_fr hD hS hA) (fun r' u t H1 locs1 ht hvm hp hB hz hk hS1 => by subst hp; exact kk u H1 locs1 (by rw [← ht]; exact hB.1) (hB.2.2.weaken (fun k q _ h => k_fr hD hS hA q.1 h)) hS1)
theorem k_l_cE {S : Type} {V1 : S → va_W} (Vf : S → va_W) {r : Int64} (isC isR isF : List Nat) (hr : va_Run p l e R s m args below meth c H locs cells slots 0 0 (F0 m pc ls st) rest (va_Ql (fun (r' : Int64) (_ : S) => r' = r) (fun u t => k_post D tys (va_A W0 H.size) (V1 u) t) (va_A W0 H.size) a) (va_A W0 H.size)) (hP : va_P D vwCl Wx H) (hD : va_D A Wx) (hS : va_S A H0 H locs) (hA : ∀ q, H0.size ≤ q → A q)
    (hC : isC.map (fun i => Wx[i]?) = W0.map some) (hR : isR.map (fun i => Wx[i]?) = (k_pick Wx isR).map some) (hnd : va_nd isR = true) (hdis : ∀ i ∈ isR, i ∉ isC) (hF : ∀ u, isF.map (fun i => (k_pick Wx isR ++ V1 u)[i]?) = (Vf u).map some) (hnF : va_nd isF = true)
    (kk : ∀ (u : S) (H1 : Heap) (locs1 : List Loc), va_P D vwCl (Vf u) H1 → va_D A (Vf u) → va_S A H0 H1 locs1 → W p l e R s m args below meth c H1 locs1 cells slots Q (F0 m (pc + 3) ls (.long r :: rest))) : W p l e R s m args below meth c H locs cells slots Q (F0 m pc ls st) :=
  va_calll hr hS (fun q _ h => va_free hD hS hA isC hC q h) (va_free hD hS hA isC hC) (fun r' u t H1 locs1 ht hvm hp hB hz hk hS1 => by
    subst hp; obtain ⟨hP1, hK1, hD1⟩ := hB
    rw [ht] at hP1
    obtain ⟨hP2, hD2⟩ := va_join hP hD isC isR hC hR hnd hdis hk (va_free hD hS hA isC hC) hP1 hD1
    exact kk u H1 locs1 (k_Psub hP2 isF (hF u)) (hD2.sub isF hnF (hF u)) hS1)
theorem k_d_sE {S : Type} {V1 : S → va_W} {r : UInt64} (hr : va_Run p l e R s m args below meth c H locs cells slots 0 0 (F0 m pc ls st) rest (va_Qd (fun (r' : UInt64) (_ : S) => r' = r) (fun u t => k_post D tys (va_A W0 H.size) (V1 u) t) (va_A W0 H.size) a) (va_A W0 H.size)) (hD : va_D A W0) (hS : va_S A H0 H locs) (hA : ∀ q, H0.size ≤ q → A q)
    (kk : ∀ (u : S) (H1 : Heap) (locs1 : List Loc), va_P D vwCl (V1 u) H1 → va_D A (V1 u) → va_S A H0 H1 locs1 → W p l e R s m args below meth c H1 locs1 cells slots Q (F0 m (pc + 3) ls (.double r :: rest))) : W p l e R s m args below meth c H locs cells slots Q (F0 m pc ls st) :=
  va_calld hr hS (fun q _ h => k_fr hD hS hA q h) (k_fr hD hS hA) (fun r' u t H1 locs1 ht hvm hp hB hz hk hS1 => by subst hp; exact kk u H1 locs1 (by rw [← ht]; exact hB.1) (hB.2.2.weaken (fun k q _ h => k_fr hD hS hA q.1 h)) hS1)
theorem k_d_cE {S : Type} {V1 : S → va_W} (Vf : S → va_W) {r : UInt64} (isC isR isF : List Nat) (hr : va_Run p l e R s m args below meth c H locs cells slots 0 0 (F0 m pc ls st) rest (va_Qd (fun (r' : UInt64) (_ : S) => r' = r) (fun u t => k_post D tys (va_A W0 H.size) (V1 u) t) (va_A W0 H.size) a) (va_A W0 H.size)) (hP : va_P D vwCl Wx H) (hD : va_D A Wx) (hS : va_S A H0 H locs) (hA : ∀ q, H0.size ≤ q → A q)
    (hC : isC.map (fun i => Wx[i]?) = W0.map some) (hR : isR.map (fun i => Wx[i]?) = (k_pick Wx isR).map some) (hnd : va_nd isR = true) (hdis : ∀ i ∈ isR, i ∉ isC) (hF : ∀ u, isF.map (fun i => (k_pick Wx isR ++ V1 u)[i]?) = (Vf u).map some) (hnF : va_nd isF = true)
    (kk : ∀ (u : S) (H1 : Heap) (locs1 : List Loc), va_P D vwCl (Vf u) H1 → va_D A (Vf u) → va_S A H0 H1 locs1 → W p l e R s m args below meth c H1 locs1 cells slots Q (F0 m (pc + 3) ls (.double r :: rest))) : W p l e R s m args below meth c H locs cells slots Q (F0 m pc ls st) :=
  va_calld hr hS (fun q _ h => va_free hD hS hA isC hC q h) (va_free hD hS hA isC hC) (fun r' u t H1 locs1 ht hvm hp hB hz hk hS1 => by
    subst hp; obtain ⟨hP1, hK1, hD1⟩ := hB
    rw [ht] at hP1
    obtain ⟨hP2, hD2⟩ := va_join hP hD isC isR hC hR hnd hdis hk (va_free hD hS hA isC hC) hP1 hD1
    exact kk u H1 locs1 (k_Psub hP2 isF (hF u)) (hD2.sub isF hnF (hF u)) hS1)
theorem k_v_sE {S : Type} {V1 : S → va_W} (hr : va_Run p l e R s m args below meth c H locs cells slots 0 0 (F0 m pc ls st) rest (va_Qv (fun (_ : S) => True) (fun u t => k_post D tys (va_A W0 H.size) (V1 u) t) (va_A W0 H.size) a) (va_A W0 H.size)) (hD : va_D A W0) (hS : va_S A H0 H locs) (hA : ∀ q, H0.size ≤ q → A q)
    (kk : ∀ (u : S) (H1 : Heap) (locs1 : List Loc), va_P D vwCl (V1 u) H1 → va_D A (V1 u) → va_S A H0 H1 locs1 → W p l e R s m args below meth c H1 locs1 cells slots Q (F0 m (pc + 3) ls (rest))) : W p l e R s m args below meth c H locs cells slots Q (F0 m pc ls st) :=
  va_callv hr hS (fun q _ h => k_fr hD hS hA q h) (k_fr hD hS hA) (fun u t H1 locs1 ht hvm hp hB hz hk hS1 => by exact kk u H1 locs1 (by rw [← ht]; exact hB.1) (hB.2.2.weaken (fun k q _ h => k_fr hD hS hA q.1 h)) hS1)
theorem k_v_cE {S : Type} {V1 : S → va_W} (Vf : S → va_W) (isC isR isF : List Nat) (hr : va_Run p l e R s m args below meth c H locs cells slots 0 0 (F0 m pc ls st) rest (va_Qv (fun (_ : S) => True) (fun u t => k_post D tys (va_A W0 H.size) (V1 u) t) (va_A W0 H.size) a) (va_A W0 H.size)) (hP : va_P D vwCl Wx H) (hD : va_D A Wx) (hS : va_S A H0 H locs) (hA : ∀ q, H0.size ≤ q → A q)
    (hC : isC.map (fun i => Wx[i]?) = W0.map some) (hR : isR.map (fun i => Wx[i]?) = (k_pick Wx isR).map some) (hnd : va_nd isR = true) (hdis : ∀ i ∈ isR, i ∉ isC) (hF : ∀ u, isF.map (fun i => (k_pick Wx isR ++ V1 u)[i]?) = (Vf u).map some) (hnF : va_nd isF = true)
    (kk : ∀ (u : S) (H1 : Heap) (locs1 : List Loc), va_P D vwCl (Vf u) H1 → va_D A (Vf u) → va_S A H0 H1 locs1 → W p l e R s m args below meth c H1 locs1 cells slots Q (F0 m (pc + 3) ls (rest))) : W p l e R s m args below meth c H locs cells slots Q (F0 m pc ls st) :=
  va_callv hr hS (fun q _ h => va_free hD hS hA isC hC q h) (va_free hD hS hA isC hC) (fun u t H1 locs1 ht hvm hp hB hz hk hS1 => by
    obtain ⟨hP1, hK1, hD1⟩ := hB
    rw [ht] at hP1
    obtain ⟨hP2, hD2⟩ := va_join hP hD isC isR hC hR hnd hdis hk (va_free hD hS hA isC hC) hP1 hD1
    exact kk u H1 locs1 (k_Psub hP2 isF (hF u)) (hD2.sub isF hnF (hF u)) hS1)
variable {ea : Nat}
theorem k_iaC (hexec : p.tables.exec = Jvm.exec) (hb : c.code = cc) (hK : va_K D vwCl tys s) (hP : va_P D vwCl Wx H) (q0 t0 : Nat) {cA : ClassId} {n j : Nat} {f : Nat → Int32} (ha : Wx[q0]? = some (ea, .inl (cA, n, .inl f))) (ht : tys[t0]? = some (cA, .int)) {i : Int32} (hi : i.toNatClampNeg = j) (hin : vp_in i n) (hdg : decode cc pc = .ok (.iaload, 1))
    (kk : W p l e R s m args below meth c H locs cells slots Q (F0 m (pc + 1) ls (.int (f j) :: rest))) : W p l e R s m args below meth c H locs cells slots Q (F0 m pc ls (.int i :: .ref ea :: rest)) := by
  subst hi
  exact va_iald hexec hb hK hP q0 t0 ha ht hin hdg kk
theorem k_isC (hexec : p.tables.exec = Jvm.exec) (hb : c.code = cc) (hK : va_K D vwCl tys s) (hP : va_P D vwCl Wx H) (hD : va_D A Wx) (hS : va_S A H0 H locs) (q0 t0 : Nat) {cA : ClassId} {n j : Nat} {f : Nat → Int32} (ha : Wx[q0]? = some (ea, .inl (cA, n, .inl f))) (ht : tys[t0]? = some (cA, .int)) {i : Int32} {x : Int32} (hi : i.toNatClampNeg = j) (hin : vp_in i n) (hdg : decode cc pc = .ok (.iastore, 1))
    (kk : ∀ (H1 : Heap) (locs1 : List Loc), va_P D vwCl (Wx.set q0 (ea, .inl (cA, n, .inl (upd f j x)))) H1 → va_D A (Wx.set q0 (ea, .inl (cA, n, .inl (upd f j x)))) → va_S A H0 H1 locs1 → W p l e R s m args below meth c H1 locs1 cells slots Q (F0 m (pc + 1) ls rest)) : W p l e R s m args below meth c H locs cells slots Q (F0 m pc ls (.int x :: .int i :: .ref ea :: rest)) := by
  subst hi
  exact va_iast hexec hb hK hP hD hS q0 t0 ha ht hin hdg kk
end KR

abbrev k_Qi (below : List Frame) (args : List Value) (D : va_G) (tys : k_TY) (s : State) (A : Nat → Prop) (W1 : va_W) (r : Int32) : State → Prop := MQ below (va_Qi (fun (r' : Int32) (_ : Unit) => r' = r) (fun _ t => k_post D tys A W1 t) A) args.toArray s 0 0 A
abbrev k_Mi (l : Launch) (y : MethodName) (ws : List Cond) (rm : Room) (D : va_G) (tys : k_TY) (sz : Nat) (args : List Value) (W0 W1 : va_W) (r : Int32) : Prop := Met l y ws rm (va_Pc args (k_pre D tys sz W0)) (va_Qi (fun (r' : Int32) (_ : Unit) => r' = r) (fun _ t => k_post D tys (va_A W0 sz) W1 t) (va_A W0 sz)) 0 0 (va_A W0 sz)
theorem k_st_i {l : Launch} {y : MethodName} {ws ws' : List Cond} {rm : Room} {D : va_G} {tys : k_TY} {sz : Nat} {args : List Value} {W0 W1 : va_W} {r : Int32} {cc : ByteArray} {maxL : Nat} {ret : Option FieldType} (hy : plainName y.cls = true) (hw : ws = Cond.code y cc maxL ret :: ws') (hlen : (lg_sl args).length ≤ maxL)
    (body : ∀ (p : Program) (e : Env) (s : State) (m : MethodId) (below : List Frame) (meth : Method) (c : Code) (A : Nat → Prop), p.tables.exec = Jvm.exec → c.code = cc → meth.sig.returnType = ret → c.maxLocals = maxL → (∀ w ∈ ws, w.before args.toArray s = true) → s.vm.findClass y.cls = some m.cls → meth.locks = false → sz = s.heap.size → k_N s → (∀ q, s.heap.size ≤ q → A q) → va_K D vwCl tys s → va_P D vwCl W0 s.heap → va_D A W0 → va_S A s.heap s.heap [] → ∀ ls : Array Slot, lv_has ls maxL (lv_args 0 args) → W p l e rm s m args.toArray below meth c s.heap [] 0 0 (k_Qi below args D tys s A W1 r) (F0 m 0 ls [])) : k_Mi l y ws rm D tys sz args W0 W1 r := by
  refine Met.ofW (cc := cc) (maxL := maxL) (ret := ret) hy hw ?_
  intro p e s m args' below meth c s₁ B hml hv
  obtain ⟨rfl, hsz, hP, hK, hD0, hN⟩ := hv
  subst hsz
  have hA : ∀ q : Nat, s.heap.size ≤ q → va_A W0 s.heap.size q := fun q h => Or.inr h
  have hl := lv_entry args (n := maxL) hlen
  rw [lg_entry_eq]
  exact body p e s m below meth c _ B.exec B.bytes B.returns hml (atoms_spec (ws := ws) B.pre) (findClass_of_methodNamed B.named) B.notSynchronized rfl hN hA hK hP hD0.self va_S.rf _ hl
abbrev k_Ql (below : List Frame) (args : List Value) (D : va_G) (tys : k_TY) (s : State) (A : Nat → Prop) (W1 : va_W) (r : Int64) : State → Prop := MQ below (va_Ql (fun (r' : Int64) (_ : Unit) => r' = r) (fun _ t => k_post D tys A W1 t) A) args.toArray s 0 0 A
abbrev k_Ml (l : Launch) (y : MethodName) (ws : List Cond) (rm : Room) (D : va_G) (tys : k_TY) (sz : Nat) (args : List Value) (W0 W1 : va_W) (r : Int64) : Prop := Met l y ws rm (va_Pc args (k_pre D tys sz W0)) (va_Ql (fun (r' : Int64) (_ : Unit) => r' = r) (fun _ t => k_post D tys (va_A W0 sz) W1 t) (va_A W0 sz)) 0 0 (va_A W0 sz)
theorem k_st_l {l : Launch} {y : MethodName} {ws ws' : List Cond} {rm : Room} {D : va_G} {tys : k_TY} {sz : Nat} {args : List Value} {W0 W1 : va_W} {r : Int64} {cc : ByteArray} {maxL : Nat} {ret : Option FieldType} (hy : plainName y.cls = true) (hw : ws = Cond.code y cc maxL ret :: ws') (hlen : (lg_sl args).length ≤ maxL)
    (body : ∀ (p : Program) (e : Env) (s : State) (m : MethodId) (below : List Frame) (meth : Method) (c : Code) (A : Nat → Prop), p.tables.exec = Jvm.exec → c.code = cc → meth.sig.returnType = ret → c.maxLocals = maxL → (∀ w ∈ ws, w.before args.toArray s = true) → s.vm.findClass y.cls = some m.cls → meth.locks = false → sz = s.heap.size → k_N s → (∀ q, s.heap.size ≤ q → A q) → va_K D vwCl tys s → va_P D vwCl W0 s.heap → va_D A W0 → va_S A s.heap s.heap [] → ∀ ls : Array Slot, lv_has ls maxL (lv_args 0 args) → W p l e rm s m args.toArray below meth c s.heap [] 0 0 (k_Ql below args D tys s A W1 r) (F0 m 0 ls [])) : k_Ml l y ws rm D tys sz args W0 W1 r := by
  refine Met.ofW (cc := cc) (maxL := maxL) (ret := ret) hy hw ?_
  intro p e s m args' below meth c s₁ B hml hv
  obtain ⟨rfl, hsz, hP, hK, hD0, hN⟩ := hv
  subst hsz
  have hA : ∀ q : Nat, s.heap.size ≤ q → va_A W0 s.heap.size q := fun q h => Or.inr h
  have hl := lv_entry args (n := maxL) hlen
  rw [lg_entry_eq]
  exact body p e s m below meth c _ B.exec B.bytes B.returns hml (atoms_spec (ws := ws) B.pre) (findClass_of_methodNamed B.named) B.notSynchronized rfl hN hA hK hP hD0.self va_S.rf _ hl
abbrev k_Qd (below : List Frame) (args : List Value) (D : va_G) (tys : k_TY) (s : State) (A : Nat → Prop) (W1 : va_W) (r : UInt64) : State → Prop := MQ below (va_Qd (fun (r' : UInt64) (_ : Unit) => r' = r) (fun _ t => k_post D tys A W1 t) A) args.toArray s 0 0 A
abbrev k_Md (l : Launch) (y : MethodName) (ws : List Cond) (rm : Room) (D : va_G) (tys : k_TY) (sz : Nat) (args : List Value) (W0 W1 : va_W) (r : UInt64) : Prop := Met l y ws rm (va_Pc args (k_pre D tys sz W0)) (va_Qd (fun (r' : UInt64) (_ : Unit) => r' = r) (fun _ t => k_post D tys (va_A W0 sz) W1 t) (va_A W0 sz)) 0 0 (va_A W0 sz)
theorem k_st_d {l : Launch} {y : MethodName} {ws ws' : List Cond} {rm : Room} {D : va_G} {tys : k_TY} {sz : Nat} {args : List Value} {W0 W1 : va_W} {r : UInt64} {cc : ByteArray} {maxL : Nat} {ret : Option FieldType} (hy : plainName y.cls = true) (hw : ws = Cond.code y cc maxL ret :: ws') (hlen : (lg_sl args).length ≤ maxL)
    (body : ∀ (p : Program) (e : Env) (s : State) (m : MethodId) (below : List Frame) (meth : Method) (c : Code) (A : Nat → Prop), p.tables.exec = Jvm.exec → c.code = cc → meth.sig.returnType = ret → c.maxLocals = maxL → (∀ w ∈ ws, w.before args.toArray s = true) → s.vm.findClass y.cls = some m.cls → meth.locks = false → sz = s.heap.size → k_N s → (∀ q, s.heap.size ≤ q → A q) → va_K D vwCl tys s → va_P D vwCl W0 s.heap → va_D A W0 → va_S A s.heap s.heap [] → ∀ ls : Array Slot, lv_has ls maxL (lv_args 0 args) → W p l e rm s m args.toArray below meth c s.heap [] 0 0 (k_Qd below args D tys s A W1 r) (F0 m 0 ls [])) : k_Md l y ws rm D tys sz args W0 W1 r := by
  refine Met.ofW (cc := cc) (maxL := maxL) (ret := ret) hy hw ?_
  intro p e s m args' below meth c s₁ B hml hv
  obtain ⟨rfl, hsz, hP, hK, hD0, hN⟩ := hv
  subst hsz
  have hA : ∀ q : Nat, s.heap.size ≤ q → va_A W0 s.heap.size q := fun q h => Or.inr h
  have hl := lv_entry args (n := maxL) hlen
  rw [lg_entry_eq]
  exact body p e s m below meth c _ B.exec B.bytes B.returns hml (atoms_spec (ws := ws) B.pre) (findClass_of_methodNamed B.named) B.notSynchronized rfl hN hA hK hP hD0.self va_S.rf _ hl
abbrev k_Qv (below : List Frame) (args : List Value) (D : va_G) (tys : k_TY) (s : State) (A : Nat → Prop) (W1 : va_W) : State → Prop := MQ below (va_Qv (fun (_ : Unit) => True) (fun _ t => k_post D tys A W1 t) A) args.toArray s 0 0 A
abbrev k_Mv (l : Launch) (y : MethodName) (ws : List Cond) (rm : Room) (D : va_G) (tys : k_TY) (sz : Nat) (args : List Value) (W0 W1 : va_W) : Prop := Met l y ws rm (va_Pc args (k_pre D tys sz W0)) (va_Qv (fun (_ : Unit) => True) (fun _ t => k_post D tys (va_A W0 sz) W1 t) (va_A W0 sz)) 0 0 (va_A W0 sz)
theorem k_st_v {l : Launch} {y : MethodName} {ws ws' : List Cond} {rm : Room} {D : va_G} {tys : k_TY} {sz : Nat} {args : List Value} {W0 W1 : va_W}  {cc : ByteArray} {maxL : Nat} {ret : Option FieldType} (hy : plainName y.cls = true) (hw : ws = Cond.code y cc maxL ret :: ws') (hlen : (lg_sl args).length ≤ maxL)
    (body : ∀ (p : Program) (e : Env) (s : State) (m : MethodId) (below : List Frame) (meth : Method) (c : Code) (A : Nat → Prop), p.tables.exec = Jvm.exec → c.code = cc → meth.sig.returnType = ret → c.maxLocals = maxL → (∀ w ∈ ws, w.before args.toArray s = true) → s.vm.findClass y.cls = some m.cls → meth.locks = false → sz = s.heap.size → k_N s → (∀ q, s.heap.size ≤ q → A q) → va_K D vwCl tys s → va_P D vwCl W0 s.heap → va_D A W0 → va_S A s.heap s.heap [] → ∀ ls : Array Slot, lv_has ls maxL (lv_args 0 args) → W p l e rm s m args.toArray below meth c s.heap [] 0 0 (k_Qv below args D tys s A W1) (F0 m 0 ls [])) : k_Mv l y ws rm D tys sz args W0 W1 := by
  refine Met.ofW (cc := cc) (maxL := maxL) (ret := ret) hy hw ?_
  intro p e s m args' below meth c s₁ B hml hv
  obtain ⟨rfl, hsz, hP, hK, hD0, hN⟩ := hv
  subst hsz
  have hA : ∀ q : Nat, s.heap.size ≤ q → va_A W0 s.heap.size q := fun q h => Or.inr h
  have hl := lv_entry args (n := maxL) hlen
  rw [lg_entry_eq]
  exact body p e s m below meth c _ B.exec B.bytes B.returns hml (atoms_spec (ws := ws) B.pre) (findClass_of_methodNamed B.named) B.notSynchronized rfl hN hA hK hP hD0.self va_S.rf _ hl
abbrev k_QiE {S : Type} (below : List Frame) (args : List Value) (D : va_G) (tys : k_TY) (s : State) (A : Nat → Prop) (W1 : S → va_W) (r : Int32) : State → Prop := MQ below (va_Qi (fun (r' : Int32) (_ : S) => r' = r) (fun u t => k_post D tys A (W1 u) t) A) args.toArray s 0 0 A
abbrev k_MiE {S : Type} (l : Launch) (y : MethodName) (ws : List Cond) (rm : Room) (D : va_G) (tys : k_TY) (sz : Nat) (args : List Value) (W0 : va_W) (W1 : S → va_W) (r : Int32) : Prop := Met l y ws rm (va_Pc args (k_pre D tys sz W0)) (va_Qi (fun (r' : Int32) (_ : S) => r' = r) (fun u t => k_post D tys (va_A W0 sz) (W1 u) t) (va_A W0 sz)) 0 0 (va_A W0 sz)
theorem k_st_iE {S : Type} {l : Launch} {y : MethodName} {ws ws' : List Cond} {rm : Room} {D : va_G} {tys : k_TY} {sz : Nat} {args : List Value} {W0 : va_W} {W1 : S → va_W} {r : Int32} {cc : ByteArray} {maxL : Nat} {ret : Option FieldType} (hy : plainName y.cls = true) (hw : ws = Cond.code y cc maxL ret :: ws') (hlen : (lg_sl args).length ≤ maxL)
    (body : ∀ (p : Program) (e : Env) (s : State) (m : MethodId) (below : List Frame) (meth : Method) (c : Code) (A : Nat → Prop), p.tables.exec = Jvm.exec → c.code = cc → meth.sig.returnType = ret → c.maxLocals = maxL → (∀ w ∈ ws, w.before args.toArray s = true) → s.vm.findClass y.cls = some m.cls → meth.locks = false → sz = s.heap.size → k_N s → (∀ q, s.heap.size ≤ q → A q) → va_K D vwCl tys s → va_P D vwCl W0 s.heap → va_D A W0 → va_S A s.heap s.heap [] → ∀ ls : Array Slot, lv_has ls maxL (lv_args 0 args) → W p l e rm s m args.toArray below meth c s.heap [] 0 0 (k_QiE below args D tys s A W1 r) (F0 m 0 ls [])) : k_MiE l y ws rm D tys sz args W0 W1 r := by
  refine Met.ofW (cc := cc) (maxL := maxL) (ret := ret) hy hw ?_
  intro p e s m args' below meth c s₁ B hml hv
  obtain ⟨rfl, hsz, hP, hK, hD0, hN⟩ := hv
  subst hsz
  have hA : ∀ q : Nat, s.heap.size ≤ q → va_A W0 s.heap.size q := fun q h => Or.inr h
  have hl := lv_entry args (n := maxL) hlen
  rw [lg_entry_eq]
  exact body p e s m below meth c _ B.exec B.bytes B.returns hml (atoms_spec (ws := ws) B.pre) (findClass_of_methodNamed B.named) B.notSynchronized rfl hN hA hK hP hD0.self va_S.rf _ hl
abbrev k_QlE {S : Type} (below : List Frame) (args : List Value) (D : va_G) (tys : k_TY) (s : State) (A : Nat → Prop) (W1 : S → va_W) (r : Int64) : State → Prop := MQ below (va_Ql (fun (r' : Int64) (_ : S) => r' = r) (fun u t => k_post D tys A (W1 u) t) A) args.toArray s 0 0 A
abbrev k_MlE {S : Type} (l : Launch) (y : MethodName) (ws : List Cond) (rm : Room) (D : va_G) (tys : k_TY) (sz : Nat) (args : List Value) (W0 : va_W) (W1 : S → va_W) (r : Int64) : Prop := Met l y ws rm (va_Pc args (k_pre D tys sz W0)) (va_Ql (fun (r' : Int64) (_ : S) => r' = r) (fun u t => k_post D tys (va_A W0 sz) (W1 u) t) (va_A W0 sz)) 0 0 (va_A W0 sz)
theorem k_st_lE {S : Type} {l : Launch} {y : MethodName} {ws ws' : List Cond} {rm : Room} {D : va_G} {tys : k_TY} {sz : Nat} {args : List Value} {W0 : va_W} {W1 : S → va_W} {r : Int64} {cc : ByteArray} {maxL : Nat} {ret : Option FieldType} (hy : plainName y.cls = true) (hw : ws = Cond.code y cc maxL ret :: ws') (hlen : (lg_sl args).length ≤ maxL)
    (body : ∀ (p : Program) (e : Env) (s : State) (m : MethodId) (below : List Frame) (meth : Method) (c : Code) (A : Nat → Prop), p.tables.exec = Jvm.exec → c.code = cc → meth.sig.returnType = ret → c.maxLocals = maxL → (∀ w ∈ ws, w.before args.toArray s = true) → s.vm.findClass y.cls = some m.cls → meth.locks = false → sz = s.heap.size → k_N s → (∀ q, s.heap.size ≤ q → A q) → va_K D vwCl tys s → va_P D vwCl W0 s.heap → va_D A W0 → va_S A s.heap s.heap [] → ∀ ls : Array Slot, lv_has ls maxL (lv_args 0 args) → W p l e rm s m args.toArray below meth c s.heap [] 0 0 (k_QlE below args D tys s A W1 r) (F0 m 0 ls [])) : k_MlE l y ws rm D tys sz args W0 W1 r := by
  refine Met.ofW (cc := cc) (maxL := maxL) (ret := ret) hy hw ?_
  intro p e s m args' below meth c s₁ B hml hv
  obtain ⟨rfl, hsz, hP, hK, hD0, hN⟩ := hv
  subst hsz
  have hA : ∀ q : Nat, s.heap.size ≤ q → va_A W0 s.heap.size q := fun q h => Or.inr h
  have hl := lv_entry args (n := maxL) hlen
  rw [lg_entry_eq]
  exact body p e s m below meth c _ B.exec B.bytes B.returns hml (atoms_spec (ws := ws) B.pre) (findClass_of_methodNamed B.named) B.notSynchronized rfl hN hA hK hP hD0.self va_S.rf _ hl
abbrev k_QdE {S : Type} (below : List Frame) (args : List Value) (D : va_G) (tys : k_TY) (s : State) (A : Nat → Prop) (W1 : S → va_W) (r : UInt64) : State → Prop := MQ below (va_Qd (fun (r' : UInt64) (_ : S) => r' = r) (fun u t => k_post D tys A (W1 u) t) A) args.toArray s 0 0 A
abbrev k_MdE {S : Type} (l : Launch) (y : MethodName) (ws : List Cond) (rm : Room) (D : va_G) (tys : k_TY) (sz : Nat) (args : List Value) (W0 : va_W) (W1 : S → va_W) (r : UInt64) : Prop := Met l y ws rm (va_Pc args (k_pre D tys sz W0)) (va_Qd (fun (r' : UInt64) (_ : S) => r' = r) (fun u t => k_post D tys (va_A W0 sz) (W1 u) t) (va_A W0 sz)) 0 0 (va_A W0 sz)
theorem k_st_dE {S : Type} {l : Launch} {y : MethodName} {ws ws' : List Cond} {rm : Room} {D : va_G} {tys : k_TY} {sz : Nat} {args : List Value} {W0 : va_W} {W1 : S → va_W} {r : UInt64} {cc : ByteArray} {maxL : Nat} {ret : Option FieldType} (hy : plainName y.cls = true) (hw : ws = Cond.code y cc maxL ret :: ws') (hlen : (lg_sl args).length ≤ maxL)
    (body : ∀ (p : Program) (e : Env) (s : State) (m : MethodId) (below : List Frame) (meth : Method) (c : Code) (A : Nat → Prop), p.tables.exec = Jvm.exec → c.code = cc → meth.sig.returnType = ret → c.maxLocals = maxL → (∀ w ∈ ws, w.before args.toArray s = true) → s.vm.findClass y.cls = some m.cls → meth.locks = false → sz = s.heap.size → k_N s → (∀ q, s.heap.size ≤ q → A q) → va_K D vwCl tys s → va_P D vwCl W0 s.heap → va_D A W0 → va_S A s.heap s.heap [] → ∀ ls : Array Slot, lv_has ls maxL (lv_args 0 args) → W p l e rm s m args.toArray below meth c s.heap [] 0 0 (k_QdE below args D tys s A W1 r) (F0 m 0 ls [])) : k_MdE l y ws rm D tys sz args W0 W1 r := by
  refine Met.ofW (cc := cc) (maxL := maxL) (ret := ret) hy hw ?_
  intro p e s m args' below meth c s₁ B hml hv
  obtain ⟨rfl, hsz, hP, hK, hD0, hN⟩ := hv
  subst hsz
  have hA : ∀ q : Nat, s.heap.size ≤ q → va_A W0 s.heap.size q := fun q h => Or.inr h
  have hl := lv_entry args (n := maxL) hlen
  rw [lg_entry_eq]
  exact body p e s m below meth c _ B.exec B.bytes B.returns hml (atoms_spec (ws := ws) B.pre) (findClass_of_methodNamed B.named) B.notSynchronized rfl hN hA hK hP hD0.self va_S.rf _ hl
abbrev k_QvE {S : Type} (below : List Frame) (args : List Value) (D : va_G) (tys : k_TY) (s : State) (A : Nat → Prop) (W1 : S → va_W)  : State → Prop := MQ below (va_Qv (fun (_ : S) => True) (fun u t => k_post D tys A (W1 u) t) A) args.toArray s 0 0 A
abbrev k_MvE {S : Type} (l : Launch) (y : MethodName) (ws : List Cond) (rm : Room) (D : va_G) (tys : k_TY) (sz : Nat) (args : List Value) (W0 : va_W) (W1 : S → va_W)  : Prop := Met l y ws rm (va_Pc args (k_pre D tys sz W0)) (va_Qv (fun (_ : S) => True) (fun u t => k_post D tys (va_A W0 sz) (W1 u) t) (va_A W0 sz)) 0 0 (va_A W0 sz)
theorem k_st_vE {S : Type} {l : Launch} {y : MethodName} {ws ws' : List Cond} {rm : Room} {D : va_G} {tys : k_TY} {sz : Nat} {args : List Value} {W0 : va_W} {W1 : S → va_W}  {cc : ByteArray} {maxL : Nat} {ret : Option FieldType} (hy : plainName y.cls = true) (hw : ws = Cond.code y cc maxL ret :: ws') (hlen : (lg_sl args).length ≤ maxL)
    (body : ∀ (p : Program) (e : Env) (s : State) (m : MethodId) (below : List Frame) (meth : Method) (c : Code) (A : Nat → Prop), p.tables.exec = Jvm.exec → c.code = cc → meth.sig.returnType = ret → c.maxLocals = maxL → (∀ w ∈ ws, w.before args.toArray s = true) → s.vm.findClass y.cls = some m.cls → meth.locks = false → sz = s.heap.size → k_N s → (∀ q, s.heap.size ≤ q → A q) → va_K D vwCl tys s → va_P D vwCl W0 s.heap → va_D A W0 → va_S A s.heap s.heap [] → ∀ ls : Array Slot, lv_has ls maxL (lv_args 0 args) → W p l e rm s m args.toArray below meth c s.heap [] 0 0 (k_QvE below args D tys s A W1) (F0 m 0 ls [])) : k_MvE l y ws rm D tys sz args W0 W1 := by
  refine Met.ofW (cc := cc) (maxL := maxL) (ret := ret) hy hw ?_
  intro p e s m args' below meth c s₁ B hml hv
  obtain ⟨rfl, hsz, hP, hK, hD0, hN⟩ := hv
  subst hsz
  have hA : ∀ q : Nat, s.heap.size ≤ q → va_A W0 s.heap.size q := fun q h => Or.inr h
  have hl := lv_entry args (n := maxL) hlen
  rw [lg_entry_eq]
  exact body p e s m below meth c _ B.exec B.bytes B.returns hml (atoms_spec (ws := ws) B.pre) (findClass_of_methodNamed B.named) B.notSynchronized rfl hN hA hK hP hD0.self va_S.rf _ hl
section KE
variable {p : Program} {l : Launch} {e : Env} {R : Room} {s : State} {m : MethodId} {args : List Value} {below : List Frame} {meth : Method} {c : Code} {H : Heap} {locs : List Loc} {cc : ByteArray} {pc : Nat} {ls : Array Slot} {D : va_G} {tys : k_TY} {W1 : va_W} {A : Nat → Prop}
theorem k_end_i {r : Int32} (hx : p.tables.exec = Jvm.exec) (hb : c.code = cc) (hr : meth.sig.returnType = some .int) (hlocks : meth.locks = false) (hK : va_K D vwCl tys s) (hP : va_P D vwCl W1 H) (hD : va_D A W1) (hS : va_S A s.heap H locs) (hdg : decode cc pc = .ok (.ireturn, 1)) : W p l e R s m args.toArray below meth c H locs 0 0 (k_Qi below args D tys s A W1 r) (F0 m pc ls [.int r]) :=
  W.iret (v := r) hx hb hr (fun t ht hW => ⟨⟨r, (), rfl, rfl, by rw [ht]; exact hP, va_K.moved hW.alike hK, hD⟩, hS.F ht⟩) hS.2.2 hdg hlocks
theorem k_end_c {r : Int32} (hx : p.tables.exec = Jvm.exec) (hb : c.code = cc) (hr : meth.sig.returnType = some .char) (hn : narrow .char (.int r) = .int r) (hlocks : meth.locks = false) (hK : va_K D vwCl tys s) (hP : va_P D vwCl W1 H) (hD : va_D A W1) (hS : va_S A s.heap H locs) (hdg : decode cc pc = .ok (.ireturn, 1)) : W p l e R s m args.toArray below meth c H locs 0 0 (k_Qi below args D tys s A W1 r) (F0 m pc ls [.int r]) :=
  W.zret (v := r) hx hb hr hn (fun t ht hW => ⟨⟨r, (), rfl, rfl, by rw [ht]; exact hP, va_K.moved hW.alike hK, hD⟩, hS.F ht⟩) hS.2.2 hdg hlocks
theorem k_end_z (b : Bool) (hx : p.tables.exec = Jvm.exec) (hb : c.code = cc) (hr : meth.sig.returnType = some .boolean) (hlocks : meth.locks = false) (hK : va_K D vwCl tys s) (hP : va_P D vwCl W1 H) (hD : va_D A W1) (hS : va_S A s.heap H locs) (hdg : decode cc pc = .ok (.ireturn, 1)) : W p l e R s m args.toArray below meth c H locs 0 0 (k_Qi below args D tys s A W1 (k_b b)) (F0 m pc ls [.int (k_b b)]) :=
  W.zret (v := k_b b) hx hb hr (k_nz b) (fun t ht hW => ⟨⟨k_b b, (), rfl, rfl, by rw [ht]; exact hP, va_K.moved hW.alike hK, hD⟩, hS.F ht⟩) hS.2.2 hdg hlocks
theorem k_end_l {r : Int64} (hx : p.tables.exec = Jvm.exec) (hb : c.code = cc) (hr : meth.sig.returnType = some .long) (hlocks : meth.locks = false) (hK : va_K D vwCl tys s) (hP : va_P D vwCl W1 H) (hD : va_D A W1) (hS : va_S A s.heap H locs) (hdg : decode cc pc = .ok (.lreturn, 1)) : W p l e R s m args.toArray below meth c H locs 0 0 (k_Ql below args D tys s A W1 r) (F0 m pc ls [.long r]) :=
  W.lret (v := r) hx hb hr (fun t ht hW => ⟨⟨r, (), rfl, rfl, by rw [ht]; exact hP, va_K.moved hW.alike hK, hD⟩, hS.F ht⟩) hS.2.2 hdg hlocks
theorem k_end_d {r : UInt64} (hx : p.tables.exec = Jvm.exec) (hb : c.code = cc) (hr : meth.sig.returnType = some .double) (hlocks : meth.locks = false) (hK : va_K D vwCl tys s) (hP : va_P D vwCl W1 H) (hD : va_D A W1) (hS : va_S A s.heap H locs) (hdg : decode cc pc = .ok (.dreturn, 1)) : W p l e R s m args.toArray below meth c H locs 0 0 (k_Qd below args D tys s A W1 r) (F0 m pc ls [.double r]) :=
  W.dret (v := r) hx hb hr (fun t ht hW => ⟨⟨r, (), rfl, rfl, by rw [ht]; exact hP, va_K.moved hW.alike hK, hD⟩, hS.F ht⟩) hS.2.2 hdg hlocks
theorem k_end_v (hx : p.tables.exec = Jvm.exec) (hb : c.code = cc) (hr : meth.sig.returnType = none) (hlocks : meth.locks = false) (hK : va_K D vwCl tys s) (hP : va_P D vwCl W1 H) (hD : va_D A W1) (hS : va_S A s.heap H locs) (hdg : decode cc pc = .ok (.return_, 1)) : W p l e R s m args.toArray below meth c H locs 0 0 (k_Qv below args D tys s A W1) (F0 m pc ls []) :=
  W.vret hx hb hr (fun t ht hW => ⟨⟨(), rfl, trivial, by rw [ht]; exact hP, va_K.moved hW.alike hK, hD⟩, hS.F ht⟩) hS.2.2 hdg hlocks
theorem k_end_iE {S : Type} {V1 : S → va_W} (u : S) {r : Int32} (hx : p.tables.exec = Jvm.exec) (hb : c.code = cc) (hr : meth.sig.returnType = some .int) (hlocks : meth.locks = false) (hK : va_K D vwCl tys s) (hP : va_P D vwCl (V1 u) H) (hD : va_D A (V1 u)) (hS : va_S A s.heap H locs) (hdg : decode cc pc = .ok (.ireturn, 1)) : W p l e R s m args.toArray below meth c H locs 0 0 (k_QiE below args D tys s A V1 r) (F0 m pc ls [.int r]) :=
  W.iret (v := r) hx hb hr (fun t ht hW => ⟨⟨r, u, rfl, rfl, by rw [ht]; exact hP, va_K.moved hW.alike hK, hD⟩, hS.F ht⟩) hS.2.2 hdg hlocks
theorem k_end_zE {S : Type} {V1 : S → va_W} (u : S) (b : Bool) (hx : p.tables.exec = Jvm.exec) (hb : c.code = cc) (hr : meth.sig.returnType = some .boolean) (hlocks : meth.locks = false) (hK : va_K D vwCl tys s) (hP : va_P D vwCl (V1 u) H) (hD : va_D A (V1 u)) (hS : va_S A s.heap H locs) (hdg : decode cc pc = .ok (.ireturn, 1)) : W p l e R s m args.toArray below meth c H locs 0 0 (k_QiE below args D tys s A V1 (k_b b)) (F0 m pc ls [.int (k_b b)]) :=
  W.zret (v := k_b b) hx hb hr (k_nz b) (fun t ht hW => ⟨⟨k_b b, u, rfl, rfl, by rw [ht]; exact hP, va_K.moved hW.alike hK, hD⟩, hS.F ht⟩) hS.2.2 hdg hlocks
theorem k_end_lE {S : Type} {V1 : S → va_W} (u : S) {r : Int64} (hx : p.tables.exec = Jvm.exec) (hb : c.code = cc) (hr : meth.sig.returnType = some .long) (hlocks : meth.locks = false) (hK : va_K D vwCl tys s) (hP : va_P D vwCl (V1 u) H) (hD : va_D A (V1 u)) (hS : va_S A s.heap H locs) (hdg : decode cc pc = .ok (.lreturn, 1)) : W p l e R s m args.toArray below meth c H locs 0 0 (k_QlE below args D tys s A V1 r) (F0 m pc ls [.long r]) :=
  W.lret (v := r) hx hb hr (fun t ht hW => ⟨⟨r, u, rfl, rfl, by rw [ht]; exact hP, va_K.moved hW.alike hK, hD⟩, hS.F ht⟩) hS.2.2 hdg hlocks
theorem k_end_dE {S : Type} {V1 : S → va_W} (u : S) {r : UInt64} (hx : p.tables.exec = Jvm.exec) (hb : c.code = cc) (hr : meth.sig.returnType = some .double) (hlocks : meth.locks = false) (hK : va_K D vwCl tys s) (hP : va_P D vwCl (V1 u) H) (hD : va_D A (V1 u)) (hS : va_S A s.heap H locs) (hdg : decode cc pc = .ok (.dreturn, 1)) : W p l e R s m args.toArray below meth c H locs 0 0 (k_QdE below args D tys s A V1 r) (F0 m pc ls [.double r]) :=
  W.dret (v := r) hx hb hr (fun t ht hW => ⟨⟨r, u, rfl, rfl, by rw [ht]; exact hP, va_K.moved hW.alike hK, hD⟩, hS.F ht⟩) hS.2.2 hdg hlocks
theorem k_end_vE {S : Type} {V1 : S → va_W} (u : S) (hx : p.tables.exec = Jvm.exec) (hb : c.code = cc) (hr : meth.sig.returnType = none) (hlocks : meth.locks = false) (hK : va_K D vwCl tys s) (hP : va_P D vwCl (V1 u) H) (hD : va_D A (V1 u)) (hS : va_S A s.heap H locs) (hdg : decode cc pc = .ok (.return_, 1)) : W p l e R s m args.toArray below meth c H locs 0 0 (k_QvE below args D tys s A V1) (F0 m pc ls []) :=
  W.vret hx hb hr (fun t ht hW => ⟨⟨u, rfl, trivial, by rw [ht]; exact hP, va_K.moved hW.alike hK, hD⟩, hS.F ht⟩) hS.2.2 hdg hlocks
end KE
theorem k_cn {r : Int32} (h : vp_nar .char r = r) : narrow .char (.int r) = .int r := congrArg Value.int h
section KTB
variable {p : Program} {l : Launch} {e : Env} {R : Room} {s : State} {m : MethodId} {args : Array Value} {below : List Frame} {meth : Method} {c : Code} {H : Heap} {locs : List Loc} {cells slots : Nat} {Q : State → Prop} {cc : ByteArray} {pc : Nat} {ls : Array Slot} {rest : List Value}
theorem k_tabD (ks : List Int32) (hexec : p.tables.exec = Jvm.exec) (hb : c.code = cc) {dflt lo hi : Int} {offs : Array Int} {len : Nat} {x : Int32} {tgt : Nat} (hdg : decode cc pc = .ok (.tableswitch dflt lo hi offs, len)) (ht : (pc : Int) + dflt = (tgt : Int))
    (hsz : (offs.size : Int) = hi - lo + 1) (hcov : (List.range offs.size).all (fun j => decide (offs[j]? = some dflt) || (ks.map Int32.toInt).contains (lo + (j : Int))) = true) (hne : ∀ k ∈ ks, ¬ x = k)
    (k : W p l e R s m args below meth c H locs cells slots Q (F0 m tgt ls rest)) : W p l e R s m args below meth c H locs cells slots Q (F0 m pc ls (.int x :: rest)) := by
  by_cases h1 : x.toInt < lo ∨ hi < x.toInt
  · exact lv_tableOut hexec hb hdg h1 ht k
  · have h2 : ¬ x.toInt < lo := fun q => h1 (Or.inl q)
    have h3 : ¬ hi < x.toInt := fun q => h1 (Or.inr q)
    have hj : (x.toInt - lo).toNat < offs.size := by omega
    have h4 := List.all_eq_true.mp hcov _ (List.mem_range.mpr hj)
    rcases Bool.or_eq_true _ _ ▸ h4 with h5 | h5
    · exact lv_tableIn hexec hb hdg h2 h3 (of_decide_eq_true h5) ht k
    · have h6 := List.contains_iff_mem.mp h5
      obtain ⟨q, hq, hq2⟩ := List.mem_map.mp h6
      exact absurd (Int32.toInt_inj.mp (by rw [hq2]; omega)) (hne q hq)
end KTB
def k_nn (x : UInt64) : Bool := decide (x &&& 0x7fffffffffffffff ≤ 0x7ff0000000000000)
theorem k_nns {x : UInt64} (h : k_nn x = true) : vf_n64 x := by
  unfold k_nn at h
  exact (of_decide_eq_true h : x &&& 0x7fffffffffffffff ≤ 0x7ff0000000000000)
def k_max (x y : Int32) : Int32 := if x < y then y else x
def k_lushr (x : Int64) (y : Int32) : Int64 := (x.toUInt64 >>> (y.toInt64.toUInt64 &&& Int64.toUInt64 63)).toInt64
def k_lshl (x : Int64) (y : Int32) : Int64 := x <<< (y.toInt64 &&& 63)
def k_lshr (x : Int64) (y : Int32) : Int64 := x >>> (y.toInt64 &&& 63)
def k_iushr (x y : Int32) : Int32 := (x.toUInt32 >>> (y.toUInt32 &&& Int32.toUInt32 31)).toInt32
def k_irem (x y : Int32) : Int32 := x - x / y * y
def k_i2c (x : Int32) : Int32 := (x.toUInt32 % 65536).toInt32

