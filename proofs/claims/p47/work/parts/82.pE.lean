/-! how many ends the class counts, whatever its rows held before -/
theorem k_mono {l : Launch} {y : MethodName} {ws : List Cond} {rm : Room} {Pc : Array Value → State → Prop} {Qc Qd : Array Value → State → Outcome → State → Prop} {mc ms : Nat} {free : Addr → Prop} (h : Met l y ws rm Pc Qc mc ms free) (f : ∀ a s o t, Qc a s o t → Qd a s o t) : Met l y ws rm Pc Qd mc ms free := by
  intro p e ha hc hk s m args below hf h1 hP ht
  obtain ⟨k, o, q1, q2, q3, hQ⟩ := h p e ha hc hk s m args below hf h1 hP ht
  exact ⟨k, o, q1, q2, q3, f _ _ _ _ hQ.1, hQ.2⟩
abbrev JR := Int32 × JT
def p_all (jk : JT) (a1 a3 : Int64) (a5 : Int32) (a6 : Bool) : Option JR := mX4_countEnds jk.1 jk.2.1 jk.2.2.1 jk.2.2.2.1 jk.2.2.2.2.1 jk.2.2.2.2.2.1 jk.2.2.2.2.2.2.1 jk.2.2.2.2.2.2.2.1 jk.2.2.2.2.2.2.2.2.1 jk.2.2.2.2.2.2.2.2.2.1 jk.2.2.2.2.2.2.2.2.2.2.1 jk.2.2.2.2.2.2.2.2.2.2.2 a1 a3 a5 a6
def p_is (a1 a3 : Int64) (a5 : Int32) (a6 : Bool) (r : Int32) : Prop := ∀ jk : JT, ∃ j2 : JT, p_all jk a1 a3 a5 a6 = some (r, j2)
noncomputable def pE (a1 a3 : Int64) (a5 : Int32) (a6 : Bool) : Option Int32 := @dite _ (∃ r, p_is a1 a3 a5 a6 r) (Classical.propDecidable _) (fun h => some (Classical.choose h)) (fun _ => none)
theorem pE_spec {a1 a3 : Int64} {a5 : Int32} {a6 : Bool} {r : Int32} (h : pE a1 a3 a5 a6 = some r) : p_is a1 a3 a5 a6 r := by
  unfold pE at h
  by_cases c : ∃ r, p_is a1 a3 a5 a6 r
  · rw [dif_pos c] at h
    have := Classical.choose_spec c
    rw [Option.some.inj h] at this
    exact this
  · rw [dif_neg c] at h; cases h
theorem pE_of {a1 a3 : Int64} {a5 : Int32} {a6 : Bool} {r : Int32} (h : p_is a1 a3 a5 a6 r) : pE a1 a3 a5 a6 = some r := by
  have c : ∃ r, p_is a1 a3 a5 a6 r := ⟨r, h⟩
  unfold pE
  rw [dif_pos c]
  have h2 := Classical.choose_spec c
  obtain ⟨j1, e1⟩ := h ((fun _ => 0), (fun _ => 0), (fun _ => 0), 0, (fun _ => 0), (fun _ => 0), (fun _ => 0), 0, (fun _ => 0), (fun _ => 0), (fun _ => 0), 0)
  obtain ⟨j2, e2⟩ := h2 ((fun _ => 0), (fun _ => 0), (fun _ => 0), 0, (fun _ => 0), (fun _ => 0), (fun _ => 0), 0, (fun _ => 0), (fun _ => 0), (fun _ => 0), 0)
  rw [e1] at e2
  have := congrArg Prod.fst (Option.some.inj e2)
  exact congrArg some this.symm
set_option maxHeartbeats 4000000 in
theorem zX4_pE {l : Launch} {D : va_G} {cI cJ cC cG : ClassId} {sz : Nat} {h0 : Nat} {pa pb pc : Nat → Nat} {jk : JT} {a1 : Int64} {a3 : Int64} {a5 : Int32} {a6 : Bool} {r : Int32} (hm : pE a1 a3 a5 a6 = some r) : k_MiE l yX4_countEnds wsX4_countEnds rmX4_countEnds D (kT cI cJ cC cG) sz ([.ref h0, .long a1, .long a3, .int a5, .int (k_b a6)] : List Value) (wPj cI cJ h0 pa pb pc jk) (fun u : (Nat → Nat) × (Nat → Nat) × JT => (wPj cI cJ h0 u.1 u.2.1 pc u.2.2)) r := by
  obtain ⟨j2, e⟩ := pE_spec hm jk
  refine k_mono (zX4_countEnds (pa := pa) (pb := pb) (pc := pc) e) ?_
  intro a s o t ⟨⟨r', u, h1, h2, h3⟩, h4⟩
  exact ⟨⟨r', (u.1, u.2, j2), h1, h2, h3⟩, h4⟩
