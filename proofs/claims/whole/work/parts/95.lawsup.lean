/-! the law: what stays through its loop; its small steps -/
theorem nd_of {l : List Nat} (h : l.Nodup) : va_nd l = true := by
  induction l with
  | nil => rfl
  | cons a l ih =>
    obtain ⟨h1, h2⟩ := List.nodup_cons.mp h
    simp only [va_nd, Bool.and_eq_true, decide_eq_true_eq]
    exact ⟨h1, ih h2⟩
theorem kj_C {A B : va_W} : (List.range A.length).map (fun i => (A ++ B)[i]?) = A.map some := by
  apply List.ext_getElem?
  intro i
  rw [List.getElem?_map, List.getElem?_map]
  by_cases h : i < A.length
  · rw [List.getElem?_range h]
    show some ((A ++ B)[i]?) = _
    rw [List.getElem?_append_left h, List.getElem?_eq_getElem h]; rfl
  · rw [List.getElem?_eq_none (by simpa using h), List.getElem?_eq_none (Nat.not_lt.mp h)]; rfl
theorem kj_R {A B : va_W} : ((List.range B.length).map (fun i => A.length + i)).map (fun i => (A ++ B)[i]?) = B.map some := by
  apply List.ext_getElem?
  intro i
  rw [List.map_map, List.getElem?_map, List.getElem?_map]
  by_cases h : i < B.length
  · rw [List.getElem?_range h]
    show some ((A ++ B)[A.length + i]?) = _
    rw [List.getElem?_append_right (Nat.le_add_right _ _), Nat.add_sub_cancel_left, List.getElem?_eq_getElem h]; rfl
  · rw [List.getElem?_eq_none (by simpa using h), List.getElem?_eq_none (Nat.not_lt.mp h)]; rfl
theorem kj_nR {A B : va_W} : va_nd ((List.range B.length).map (fun i => A.length + i)) = true := by
  apply nd_of
  rw [List.nodup_iff_pairwise_ne, List.pairwise_map]
  exact List.Pairwise.imp (fun h => by omega) (List.nodup_iff_pairwise_ne.mp List.nodup_range)
theorem kj_nC {A : va_W} : va_nd (List.range A.length) = true := nd_of List.nodup_range
theorem kp_l {D : va_G} {A B : va_W} {H : Heap} (h : va_P D vwCl (A ++ B) H) : va_P D vwCl A H := k_Psub h _ kj_C
theorem kp_r {D : va_G} {A B : va_W} {H : Heap} (h : va_P D vwCl (A ++ B) H) : va_P D vwCl B H := k_Psub h _ kj_R
theorem kd_l {A0 : Nat → Prop} {A B : va_W} (h : va_D A0 (A ++ B)) : va_D A0 A := h.sub _ kj_nC kj_C
theorem kd_r {A0 : Nat → Prop} {A B : va_W} (h : va_D A0 (A ++ B)) : va_D A0 B := h.sub _ kj_nR kj_R
theorem kp_s {D : va_G} {A B : va_W} {H : Heap} (h : va_P D vwCl (A ++ B) H) : va_P D vwCl (B ++ A) H := (kp_r h).app (kp_l h)
theorem kd_s {A0 : Nat → Prop} {A B : va_W} (h : va_D A0 (A ++ B)) : va_D A0 (B ++ A) := (kd_r h).app (kd_l h) (fun i j p q h1 h2 e => by
  have h3 : (A ++ B)[A.length + i]? = some p := by rw [List.getElem?_append_right (Nat.le_add_right _ _), Nat.add_sub_cancel_left]; exact h1
  have hj := (List.getElem?_eq_some_iff.mp h2).1
  have h4 : (A ++ B)[j]? = some q := by rw [List.getElem?_append_left hj]; exact h2
  have := h.1 _ _ _ _ h3 h4 e
  omega)
theorem kp_a {D : va_G} {A B C : va_W} {H : Heap} (h : va_P D vwCl (A ++ B ++ C) H) : va_P D vwCl (A ++ (B ++ C)) H := by rw [← List.append_assoc]; exact h
theorem kp_b {D : va_G} {A B C : va_W} {H : Heap} (h : va_P D vwCl (A ++ (B ++ C)) H) : va_P D vwCl (A ++ B ++ C) H := by rw [List.append_assoc]; exact h
theorem kd_a {A0 : Nat → Prop} {A B C : va_W} (h : va_D A0 (A ++ B ++ C)) : va_D A0 (A ++ (B ++ C)) := by rw [← List.append_assoc]; exact h
theorem kd_b {A0 : Nat → Prop} {A B C : va_W} (h : va_D A0 (A ++ (B ++ C))) : va_D A0 (A ++ B ++ C) := by rw [List.append_assoc]; exact h
theorem kj_F {A0 : Nat → Prop} {A B : va_W} {H0 H : Heap} {locs : List Loc} (hD : va_D A0 (A ++ B)) (hS : va_S A0 H0 H locs) (hA : ∀ q, H0.size ≤ q → A0 q) : ∀ q, va_A A H.size q → A0 q := va_free hD hS hA _ kj_C
theorem kj_L {D : va_G} {A0 : Nat → Prop} {A A1 B : va_W} {H H1 : Heap} (hP : va_P D vwCl (A ++ B) H) (hD : va_D A0 (A ++ B)) (hk : ∀ q : Nat, q < H.size → ¬ va_A A H.size q → H1[q]? = H[q]?) (hF : ∀ q, va_A A H.size q → A0 q) (hP1 : va_P D vwCl A1 H1) (hD1 : va_D (va_A A H.size) A1) : va_P D vwCl (A1 ++ B) H1 ∧ va_D A0 (A1 ++ B) := by
  obtain ⟨h1, h2⟩ := va_join hP hD _ _ kj_C kj_R kj_nR (fun i h1 h2 => by
    obtain ⟨k, hk, rfl⟩ := List.mem_map.mp h1
    have := List.mem_range.mp h2
    omega) hk hF hP1 hD1
  exact ⟨kp_s h1, kd_s h2⟩
theorem kj_F2 {A0 : Nat → Prop} {A B : va_W} {H0 H : Heap} {locs : List Loc} (hD : va_D A0 (A ++ B)) (hS : va_S A0 H0 H locs) (hA : ∀ q, H0.size ≤ q → A0 q) : ∀ q, va_A B H.size q → A0 q := kj_F (kd_s hD) hS hA
theorem kj_R2 {D : va_G} {A0 : Nat → Prop} {A B B1 : va_W} {H H1 : Heap} (hP : va_P D vwCl (A ++ B) H) (hD : va_D A0 (A ++ B)) (hk : ∀ q : Nat, q < H.size → ¬ va_A B H.size q → H1[q]? = H[q]?) (hF : ∀ q, va_A B H.size q → A0 q) (hP1 : va_P D vwCl B1 H1) (hD1 : va_D (va_A B H.size) B1) : va_P D vwCl (A ++ B1) H1 ∧ va_D A0 (A ++ B1) := by
  obtain ⟨h1, h2⟩ := kj_L (kp_s hP) (kd_s hD) hk hF hP1 hD1
  exact ⟨kp_s h1, kd_s h2⟩
abbrev lwH := (Nat → Nat) × (Nat → Nat) × (Nat → Nat) × JT
def lw_i (j : Nat) : Int32 := Int32.ofNat j
abbrev lw_lv (b h9 a0 oa j : Nat) : List (Nat × Value) := [(4, .int (lw_i j)), (3, .ref oa), (2, .ref a0), (1, .ref h9), (0, .ref b)]
abbrev wX1 (cI cJ cC cG : ClassId) (h9 hn : Nat) (ap ht : Nat → Nat) (h0 : Nat) (pc : Nat → Nat) (u : lwH) (x : XT) (oa : Nat) (out : Nat → Int64) : va_W := wXt cI cJ cC cG h9 hn ap (u.1) ht h0 (u.2.1) (u.2.2.1) pc (u.2.2.2) x ++ wO cJ oa out
abbrev wLw (cI cJ cC cG : ClassId) (h9 hn : Nat) (ap ht : Nat → Nat) (h0 : Nat) (pc : Nat → Nat) (u : lwH) (x : XT) (ad : Nat → Nat) (oa : Nat) (out : Nat → Int64) (m1 : MT) : va_W := wXt cI cJ cC cG h9 hn ap (u.1) ht h0 (u.2.1) (u.2.2.1) pc (u.2.2.2) x ++ wO cJ oa out ++ wMt cI cJ ad m1
def lwK (p : Program) (l : Launch) (s : State) (m : MethodId) (b L : Nat) (xs : Nat → Int32) (meth : Method) (c : Code) (A : Nat → Prop) (D : va_G) (cI cJ cC cG : ClassId) : Prop :=
  (p.tables.exec = Jvm.exec) ∧ (c.code = cL_law) ∧ (c.maxLocals = 9) ∧ (∀ w ∈ wsL_law, w.before #[Value.ref b] s = true) ∧ (s.vm.findClass RL = some m.cls) ∧ (k_N s) ∧ (va_K D vwCl (kT cI cJ cC cG) s) ∧ (l.stackTraces = false) ∧ (va_X b L xs s s.heap) ∧ (b < s.heap.size) ∧ (¬ A b) ∧ (∀ q, s.heap.size ≤ q → A q) ∧ (k_stt A s)
theorem lwK.hx {p : Program} {l : Launch} {s : State} {m : MethodId} {b L : Nat} {xs : Nat → Int32} {meth : Method} {c : Code} {A : Nat → Prop} {D : va_G} {cI cJ cC cG : ClassId} (K : lwK p l s m b L xs meth c A D cI cJ cC cG) : p.tables.exec = Jvm.exec := K.1
theorem lwK.hb {p : Program} {l : Launch} {s : State} {m : MethodId} {b L : Nat} {xs : Nat → Int32} {meth : Method} {c : Code} {A : Nat → Prop} {D : va_G} {cI cJ cC cG : ClassId} (K : lwK p l s m b L xs meth c A D cI cJ cC cG) : c.code = cL_law := K.2.1
theorem lwK.hml {p : Program} {l : Launch} {s : State} {m : MethodId} {b L : Nat} {xs : Nat → Int32} {meth : Method} {c : Code} {A : Nat → Prop} {D : va_G} {cI cJ cC cG : ClassId} (K : lwK p l s m b L xs meth c A D cI cJ cC cG) : c.maxLocals = 9 := K.2.2.1
theorem lwK.hts {p : Program} {l : Launch} {s : State} {m : MethodId} {b L : Nat} {xs : Nat → Int32} {meth : Method} {c : Code} {A : Nat → Prop} {D : va_G} {cI cJ cC cG : ClassId} (K : lwK p l s m b L xs meth c A D cI cJ cC cG) : ∀ w ∈ wsL_law, w.before #[Value.ref b] s = true := K.2.2.2.1
theorem lwK.hown {p : Program} {l : Launch} {s : State} {m : MethodId} {b L : Nat} {xs : Nat → Int32} {meth : Method} {c : Code} {A : Nat → Prop} {D : va_G} {cI cJ cC cG : ClassId} (K : lwK p l s m b L xs meth c A D cI cJ cC cG) : s.vm.findClass RL = some m.cls := K.2.2.2.2.1
theorem lwK.hN {p : Program} {l : Launch} {s : State} {m : MethodId} {b L : Nat} {xs : Nat → Int32} {meth : Method} {c : Code} {A : Nat → Prop} {D : va_G} {cI cJ cC cG : ClassId} (K : lwK p l s m b L xs meth c A D cI cJ cC cG) : k_N s := K.2.2.2.2.2.1
theorem lwK.hK {p : Program} {l : Launch} {s : State} {m : MethodId} {b L : Nat} {xs : Nat → Int32} {meth : Method} {c : Code} {A : Nat → Prop} {D : va_G} {cI cJ cC cG : ClassId} (K : lwK p l s m b L xs meth c A D cI cJ cC cG) : va_K D vwCl (kT cI cJ cC cG) s := K.2.2.2.2.2.2.1
theorem lwK.hst {p : Program} {l : Launch} {s : State} {m : MethodId} {b L : Nat} {xs : Nat → Int32} {meth : Method} {c : Code} {A : Nat → Prop} {D : va_G} {cI cJ cC cG : ClassId} (K : lwK p l s m b L xs meth c A D cI cJ cC cG) : l.stackTraces = false := K.2.2.2.2.2.2.2.1
theorem lwK.hX {p : Program} {l : Launch} {s : State} {m : MethodId} {b L : Nat} {xs : Nat → Int32} {meth : Method} {c : Code} {A : Nat → Prop} {D : va_G} {cI cJ cC cG : ClassId} (K : lwK p l s m b L xs meth c A D cI cJ cC cG) : va_X b L xs s s.heap := K.2.2.2.2.2.2.2.2.1
theorem lwK.hbl {p : Program} {l : Launch} {s : State} {m : MethodId} {b L : Nat} {xs : Nat → Int32} {meth : Method} {c : Code} {A : Nat → Prop} {D : va_G} {cI cJ cC cG : ClassId} (K : lwK p l s m b L xs meth c A D cI cJ cC cG) : b < s.heap.size := K.2.2.2.2.2.2.2.2.2.1
theorem lwK.hbA {p : Program} {l : Launch} {s : State} {m : MethodId} {b L : Nat} {xs : Nat → Int32} {meth : Method} {c : Code} {A : Nat → Prop} {D : va_G} {cI cJ cC cG : ClassId} (K : lwK p l s m b L xs meth c A D cI cJ cC cG) : ¬ A b := K.2.2.2.2.2.2.2.2.2.2.1
theorem lwK.hA {p : Program} {l : Launch} {s : State} {m : MethodId} {b L : Nat} {xs : Nat → Int32} {meth : Method} {c : Code} {A : Nat → Prop} {D : va_G} {cI cJ cC cG : ClassId} (K : lwK p l s m b L xs meth c A D cI cJ cC cG) : ∀ q, s.heap.size ≤ q → A q := K.2.2.2.2.2.2.2.2.2.2.2.1
theorem lwK.hq {p : Program} {l : Launch} {s : State} {m : MethodId} {b L : Nat} {xs : Nat → Int32} {meth : Method} {c : Code} {A : Nat → Prop} {D : va_G} {cI cJ cC cG : ClassId} (K : lwK p l s m b L xs meth c A D cI cJ cC cG) : k_stt A s := K.2.2.2.2.2.2.2.2.2.2.2.2
theorem lw_fit {C S : Nat} (h : C + 1 ≤ room_1.cells ∧ S + 6 ≤ room_1.slots) : C + 1 + 0 ≤ room_1.cells ∧ S + 6 + 0 ≤ room_1.slots := h
theorem lw_out {out : Nat → Int64} {v : Int64} : vp_updL out (Int32.toNatClampNeg 0) v (Int32.toNatClampNeg 0) = v := if_pos rfl
theorem lw_ceq {x y : Int64} (h : x = y) : lg_cmp x y = 0 := by subst h; unfold lg_cmp; rw [if_neg (by simp), if_pos rfl]
theorem lw_in {j n L : Nat} (hj : j + 4 ≤ L) (hL : L ≤ 2048) (hn : n < 4) : vp_in (lw_i j + Int32.ofNat n) L ∧ (lw_i j + Int32.ofNat n).toNatClampNeg = j + n := by
  have e : lw_i j + Int32.ofNat n = Int32.ofNat (j + n) := (Int32.ofNat_add j n).symm
  have h2 : (Int32.ofNat (j + n)).toInt = ((j + n : Nat) : Int) := Int32.toInt_ofNat_of_lt (by omega)
  rw [e]
  have h3 : (Int32.ofNat (j + n)).toNatClampNeg = j + n := by
    show (Int32.ofNat (j + n)).toInt.toNat = j + n
    rw [h2]; rfl
  refine ⟨?_, h3⟩
  rintro (h | h)
  · have := Int32.lt_iff_toInt_lt.mp h
    rw [h2] at this
    have h0 : (0 : Int32).toInt = 0 := rfl
    omega
  · rw [h3] at h; omega
section LW
variable {p : Program} {l : Launch} {e : Env} {s : State} {m : MethodId} {b L : Nat} {xs : Nat → Int32} {below : List Frame} {meth : Method} {c : Code} {A : Nat → Prop} {D : va_G} {cI cJ cC cG : ClassId} {H : Heap} {locs : List Loc} {ls : Array Slot} {Q : State → Prop} {C S j pc : Nat} {st : List Value}
theorem lw_arg1 (K : lwK p l s m b L xs meth c A D cI cJ cC cG) (hS : va_S A s.heap H locs) (h0 : ls[0]? = some (.val (.ref b))) (h4 : ls[4]? = some (.val (.int (lw_i j)))) (hj : j + 4 ≤ L) (hL : L ≤ 2048) (d0 : decode cL_law pc = .ok (.aload_n 0, 1)) (d1 : decode cL_law (pc + 1) = .ok (.iload 4, 2)) (d3 : decode cL_law (pc + 1 + 2) = .ok (.iconst 1, 1)) (d4 : decode cL_law (pc + 1 + 2 + 1) = .ok (.iadd, 1)) (d5 : decode cL_law (pc + 1 + 2 + 1 + 1) = .ok (.iaload, 1)) (kk : W p l e room_1 s m #[Value.ref b] below meth c H locs C S Q (F0 m (pc + 1 + 2 + 1 + 1 + 1) ls (.int (xs (j + 1)) :: st))) : W p l e room_1 s m #[Value.ref b] below meth c H locs C S Q (F0 m pc ls st) := by
  refine lv_aload_n K.hx K.hb d0 rfl h0 ?_
  refine lv_iload K.hx K.hb d1 h4 ?_
  refine lv_iconst (v := 1) K.hx K.hb d3 (by decide) ?_
  refine lv_iadd K.hx K.hb d4 ?_
  have hi := lw_in (n := 1) hj hL (by decide)
  refine va_sld K.hx K.hb K.hX K.hbl K.hbA hS hi.1 d5 ?_
  rw [show (lw_i j + 1 : Int32).toNatClampNeg = j + 1 from hi.2]
  exact kk
theorem lw_arg2 (K : lwK p l s m b L xs meth c A D cI cJ cC cG) (hS : va_S A s.heap H locs) (h0 : ls[0]? = some (.val (.ref b))) (h4 : ls[4]? = some (.val (.int (lw_i j)))) (hj : j + 4 ≤ L) (hL : L ≤ 2048) (d0 : decode cL_law pc = .ok (.aload_n 0, 1)) (d1 : decode cL_law (pc + 1) = .ok (.iload 4, 2)) (d3 : decode cL_law (pc + 1 + 2) = .ok (.iconst 2, 1)) (d4 : decode cL_law (pc + 1 + 2 + 1) = .ok (.iadd, 1)) (d5 : decode cL_law (pc + 1 + 2 + 1 + 1) = .ok (.iaload, 1)) (kk : W p l e room_1 s m #[Value.ref b] below meth c H locs C S Q (F0 m (pc + 1 + 2 + 1 + 1 + 1) ls (.int (xs (j + 2)) :: st))) : W p l e room_1 s m #[Value.ref b] below meth c H locs C S Q (F0 m pc ls st) := by
  refine lv_aload_n K.hx K.hb d0 rfl h0 ?_
  refine lv_iload K.hx K.hb d1 h4 ?_
  refine lv_iconst (v := 2) K.hx K.hb d3 (by decide) ?_
  refine lv_iadd K.hx K.hb d4 ?_
  have hi := lw_in (n := 2) hj hL (by decide)
  refine va_sld K.hx K.hb K.hX K.hbl K.hbA hS hi.1 d5 ?_
  rw [show (lw_i j + 2 : Int32).toNatClampNeg = j + 2 from hi.2]
  exact kk
theorem lw_arg3 (K : lwK p l s m b L xs meth c A D cI cJ cC cG) (hS : va_S A s.heap H locs) (h0 : ls[0]? = some (.val (.ref b))) (h4 : ls[4]? = some (.val (.int (lw_i j)))) (hj : j + 4 ≤ L) (hL : L ≤ 2048) (d0 : decode cL_law pc = .ok (.aload_n 0, 1)) (d1 : decode cL_law (pc + 1) = .ok (.iload 4, 2)) (d3 : decode cL_law (pc + 1 + 2) = .ok (.iconst 3, 1)) (d4 : decode cL_law (pc + 1 + 2 + 1) = .ok (.iadd, 1)) (d5 : decode cL_law (pc + 1 + 2 + 1 + 1) = .ok (.iaload, 1)) (kk : W p l e room_1 s m #[Value.ref b] below meth c H locs C S Q (F0 m (pc + 1 + 2 + 1 + 1 + 1) ls (.int (xs (j + 3)) :: st))) : W p l e room_1 s m #[Value.ref b] below meth c H locs C S Q (F0 m pc ls st) := by
  refine lv_aload_n K.hx K.hb d0 rfl h0 ?_
  refine lv_iload K.hx K.hb d1 h4 ?_
  refine lv_iconst (v := 3) K.hx K.hb d3 (by decide) ?_
  refine lv_iadd K.hx K.hb d4 ?_
  have hi := lw_in (n := 3) hj hL (by decide)
  refine va_sld K.hx K.hb K.hX K.hbl K.hbA hS hi.1 d5 ?_
  rw [show (lw_i j + 3 : Int32).toNatClampNeg = j + 3 from hi.2]
  exact kk
theorem lw_b01 {en : Env} {r : Bool} {o1 o2 : Int} {pc1 pc2 pc3 : Nat} (K : lwK p l s m b L xs meth c A D cI cJ cC cG) (d0 : decode cL_law pc = .ok (.ifCond .eq o1, 3)) (t0 : (pc : Int) + o1 = (pc2 : Int)) (d1 : decode cL_law pc1 = .ok (.lconst 1, 1)) (d2 : decode cL_law (pc1 + 1) = .ok (.goto o2, 3)) (t2 : ((pc1 + 1 : Nat) : Int) + o2 = (pc3 : Int)) (d3 : decode cL_law pc2 = .ok (.lconst 0, 1)) (e3 : pc3 = pc2 + 1 ∧ pc1 = pc + 3) (kk : W p l en room_1 s m #[Value.ref b] below meth c H locs C S Q (F0 m pc3 ls (.long (k_z1 r) :: st))) : W p l en room_1 s m #[Value.ref b] below meth c H locs C S Q (F0 m pc ls (.int (k_b r) :: st)) := by
  obtain ⟨e3, rfl⟩ := e3
  refine lv_if_eq (tgt := pc2) K.hx K.hb d0 t0 (fun cc => ?_) (fun cc => ?_)
  · refine lv_lconst (v := 0) K.hx K.hb d3 (by decide) ?_
    rw [show k_z1 r = 0 from if_pos cc, e3] at kk
    exact kk
  · refine lv_lconst (v := 1) K.hx K.hb d1 (by decide) ?_
    refine lv_goto (tgt := pc3) K.hx K.hb d2 t2 ?_
    rw [show k_z1 r = 1 from if_neg cc] at kk
    exact kk
end LW
section KW
variable {p : Program} {l : Launch} {e : Env} {R : Room} {s : State} {m : MethodId} {args : Array Value} {below : List Frame} {meth : Method} {c : Code} {H : Heap} {locs : List Loc} {cells slots : Nat} {Q : State → Prop}
variable {y : MethodName} {bytes cc : ByteArray} {maxL nL mc ms n index pc : Nat} {ret : Option FieldType} {hh : List (Nat × Nat × Nat × Nat)} {ws : List Cond} {rm : Room} {Qc : Array Value → State → Outcome → State → Prop} {free : Addr → Prop} {Ts : List Cond} {own : String} {As rest st : List Value} {ls : Array Slot}
variable {D : va_G} {tys : k_TY} {W0 W1 Wa Wb : va_W} {A : Nat → Prop} {H0 : Heap} {a : Array Value}
theorem k_rSW (S : CallFix p m c cc nL s args Ts own) (hK : va_K D vwCl tys s) (hN : k_N s) (hP : va_P D vwCl W0 H) (hD : va_D A W0) (hM : Met l y ws rm (va_Pc As (k_pre D tys H.size W0)) Qc mc ms free) (cw : vx_CSW R s args own index y bytes maxL ret hh ws rm mc ms n)
    (hn : As.length = n) (hsize : ls.size = nL) (hst : st = As.reverse ++ rest) (hW : (rest.map fun v => v.category).sum ≤ 8) (hdg : decode cc pc = .ok (.invokestatic index, 3)) (hf : cells + mc ≤ R.cells ∧ slots + ms ≤ R.slots) :
    va_Run p l e R s m args below meth c H locs cells slots mc ms (F0 m pc ls st) rest (Qc As.toArray) free :=
  vx_runSW (As := As) (rest := rest) (g := F0 m pc ls st) S hM cw ⟨k_blind, fun U hU hWm => ⟨rfl, by rw [hU], by rw [hU]; exact hP, va_K.moved hWm.alike hK, hD.weaken (fun _ _ _ _ => trivial), hN.moved hWm⟩⟩ rfl hn hsize hst (lv_room hW) hdg hf
theorem k_rSWT (S : CallFix p m c cc nL s args Ts own) (hK : va_K D vwCl tys s) (hN : k_N s) (hq : k_stt A s) (hS : va_S A s.heap H locs) (hAA : ∀ q, va_A W0 H.size q → A q) (hP : va_P D vwCl W0 H) (hD : va_D A W0) (hM : Met l y ws rm (va_Pc As (k_preT D tys H.size W0)) Qc mc ms free) (cw : vx_CSW R s args own index y bytes maxL ret hh ws rm mc ms n)
    (hn : As.length = n) (hsize : ls.size = nL) (hst : st = As.reverse ++ rest) (hW : (rest.map fun v => v.category).sum ≤ 8) (hdg : decode cc pc = .ok (.invokestatic index, 3)) (hf : cells + mc ≤ R.cells ∧ slots + ms ≤ R.slots) :
    va_Run p l e R s m args below meth c H locs cells slots mc ms (F0 m pc ls st) rest (Qc As.toArray) free :=
  vx_runSW (As := As) (rest := rest) (g := F0 m pc ls st) S hM cw ⟨k_blindT, fun U hU hWm => ⟨rfl, ⟨by rw [hU], by rw [hU]; exact hP, va_K.moved hWm.alike hK, hD.weaken (fun _ _ _ _ => trivial), hN.moved hWm⟩, k_stt_at hq hS hU hWm hAA⟩⟩ rfl hn hsize hst (lv_room hW) hdg hf
theorem kj_i1 {S : Type} {V1 : S → va_W} {r : Int32} (hr : va_Run p l e R s m args below meth c H locs cells slots 0 0 (F0 m pc ls st) rest (va_Qi (fun (r' : Int32) (_ : S) => r' = r) (fun u t => k_post D tys (va_A Wa H.size) (V1 u) t) (va_A Wa H.size) a) (va_A Wa H.size)) (hP : va_P D vwCl (Wa ++ Wb) H) (hD : va_D A (Wa ++ Wb)) (hS : va_S A H0 H locs) (hA : ∀ q, H0.size ≤ q → A q) (kk : ∀ (u : S) (H1 : Heap) (locs1 : List Loc), va_P D vwCl ((V1 u) ++ Wb) H1 → va_D A ((V1 u) ++ Wb) → va_S A H0 H1 locs1 → W p l e R s m args below meth c H1 locs1 cells slots Q (F0 m (pc + 3) ls (.int r :: rest))) : W p l e R s m args below meth c H locs cells slots Q (F0 m pc ls st) :=
  va_calli hr hS (fun q _ h => kj_F hD hS hA q h) (kj_F hD hS hA) (fun r' u t H1 locs1 ht hvm hp hB hz hk hS1 => by
    subst hp
    obtain ⟨hP1, hK1, hD1⟩ := hB
    rw [ht] at hP1
    obtain ⟨hP2, hD2⟩ := kj_L hP hD hk (kj_F hD hS hA) hP1 hD1
    exact kk u H1 locs1 hP2 hD2 hS1)
theorem kj_i2 {r : Int32} (hr : va_Run p l e R s m args below meth c H locs cells slots 0 0 (F0 m pc ls st) rest (va_Qi (fun (r' : Int32) (_ : Unit) => r' = r) (fun _ t => k_post D tys (va_A Wb H.size) W1 t) (va_A Wb H.size) a) (va_A Wb H.size)) (hP : va_P D vwCl (Wa ++ Wb) H) (hD : va_D A (Wa ++ Wb)) (hS : va_S A H0 H locs) (hA : ∀ q, H0.size ≤ q → A q) (kk : ∀ (H1 : Heap) (locs1 : List Loc), va_P D vwCl (Wa ++ W1) H1 → va_D A (Wa ++ W1) → va_S A H0 H1 locs1 → W p l e R s m args below meth c H1 locs1 cells slots Q (F0 m (pc + 3) ls (.int r :: rest))) : W p l e R s m args below meth c H locs cells slots Q (F0 m pc ls st) :=
  va_calli hr hS (fun q _ h => kj_F2 hD hS hA q h) (kj_F2 hD hS hA) (fun r' u t H1 locs1 ht hvm hp hB hz hk hS1 => by
    subst hp
    obtain ⟨hP1, hK1, hD1⟩ := hB
    rw [ht] at hP1
    obtain ⟨hP2, hD2⟩ := kj_R2 hP hD hk (kj_F2 hD hS hA) hP1 hD1
    exact kk H1 locs1 hP2 hD2 hS1)
theorem kj_l1 {S : Type} {V1 : S → va_W} {r : Int64} (hr : va_Run p l e R s m args below meth c H locs cells slots 0 0 (F0 m pc ls st) rest (va_Ql (fun (r' : Int64) (_ : S) => r' = r) (fun u t => k_post D tys (va_A Wa H.size) (V1 u) t) (va_A Wa H.size) a) (va_A Wa H.size)) (hP : va_P D vwCl (Wa ++ Wb) H) (hD : va_D A (Wa ++ Wb)) (hS : va_S A H0 H locs) (hA : ∀ q, H0.size ≤ q → A q) (kk : ∀ (u : S) (H1 : Heap) (locs1 : List Loc), va_P D vwCl ((V1 u) ++ Wb) H1 → va_D A ((V1 u) ++ Wb) → va_S A H0 H1 locs1 → W p l e R s m args below meth c H1 locs1 cells slots Q (F0 m (pc + 3) ls (.long r :: rest))) : W p l e R s m args below meth c H locs cells slots Q (F0 m pc ls st) :=
  va_calll hr hS (fun q _ h => kj_F hD hS hA q h) (kj_F hD hS hA) (fun r' u t H1 locs1 ht hvm hp hB hz hk hS1 => by
    subst hp
    obtain ⟨hP1, hK1, hD1⟩ := hB
    rw [ht] at hP1
    obtain ⟨hP2, hD2⟩ := kj_L hP hD hk (kj_F hD hS hA) hP1 hD1
    exact kk u H1 locs1 hP2 hD2 hS1)
theorem kj_l2 {r : Int64} (hr : va_Run p l e R s m args below meth c H locs cells slots 0 0 (F0 m pc ls st) rest (va_Ql (fun (r' : Int64) (_ : Unit) => r' = r) (fun _ t => k_post D tys (va_A Wb H.size) W1 t) (va_A Wb H.size) a) (va_A Wb H.size)) (hP : va_P D vwCl (Wa ++ Wb) H) (hD : va_D A (Wa ++ Wb)) (hS : va_S A H0 H locs) (hA : ∀ q, H0.size ≤ q → A q) (kk : ∀ (H1 : Heap) (locs1 : List Loc), va_P D vwCl (Wa ++ W1) H1 → va_D A (Wa ++ W1) → va_S A H0 H1 locs1 → W p l e R s m args below meth c H1 locs1 cells slots Q (F0 m (pc + 3) ls (.long r :: rest))) : W p l e R s m args below meth c H locs cells slots Q (F0 m pc ls st) :=
  va_calll hr hS (fun q _ h => kj_F2 hD hS hA q h) (kj_F2 hD hS hA) (fun r' u t H1 locs1 ht hvm hp hB hz hk hS1 => by
    subst hp
    obtain ⟨hP1, hK1, hD1⟩ := hB
    rw [ht] at hP1
    obtain ⟨hP2, hD2⟩ := kj_R2 hP hD hk (kj_F2 hD hS hA) hP1 hD1
    exact kk H1 locs1 hP2 hD2 hS1)
theorem kj_d1 {S : Type} {V1 : S → va_W} {r : UInt64} (hr : va_Run p l e R s m args below meth c H locs cells slots 0 0 (F0 m pc ls st) rest (va_Qd (fun (r' : UInt64) (_ : S) => r' = r) (fun u t => k_post D tys (va_A Wa H.size) (V1 u) t) (va_A Wa H.size) a) (va_A Wa H.size)) (hP : va_P D vwCl (Wa ++ Wb) H) (hD : va_D A (Wa ++ Wb)) (hS : va_S A H0 H locs) (hA : ∀ q, H0.size ≤ q → A q) (kk : ∀ (u : S) (H1 : Heap) (locs1 : List Loc), va_P D vwCl ((V1 u) ++ Wb) H1 → va_D A ((V1 u) ++ Wb) → va_S A H0 H1 locs1 → W p l e R s m args below meth c H1 locs1 cells slots Q (F0 m (pc + 3) ls (.double r :: rest))) : W p l e R s m args below meth c H locs cells slots Q (F0 m pc ls st) :=
  va_calld hr hS (fun q _ h => kj_F hD hS hA q h) (kj_F hD hS hA) (fun r' u t H1 locs1 ht hvm hp hB hz hk hS1 => by
    subst hp
    obtain ⟨hP1, hK1, hD1⟩ := hB
    rw [ht] at hP1
    obtain ⟨hP2, hD2⟩ := kj_L hP hD hk (kj_F hD hS hA) hP1 hD1
    exact kk u H1 locs1 hP2 hD2 hS1)
theorem kj_d2 {r : UInt64} (hr : va_Run p l e R s m args below meth c H locs cells slots 0 0 (F0 m pc ls st) rest (va_Qd (fun (r' : UInt64) (_ : Unit) => r' = r) (fun _ t => k_post D tys (va_A Wb H.size) W1 t) (va_A Wb H.size) a) (va_A Wb H.size)) (hP : va_P D vwCl (Wa ++ Wb) H) (hD : va_D A (Wa ++ Wb)) (hS : va_S A H0 H locs) (hA : ∀ q, H0.size ≤ q → A q) (kk : ∀ (H1 : Heap) (locs1 : List Loc), va_P D vwCl (Wa ++ W1) H1 → va_D A (Wa ++ W1) → va_S A H0 H1 locs1 → W p l e R s m args below meth c H1 locs1 cells slots Q (F0 m (pc + 3) ls (.double r :: rest))) : W p l e R s m args below meth c H locs cells slots Q (F0 m pc ls st) :=
  va_calld hr hS (fun q _ h => kj_F2 hD hS hA q h) (kj_F2 hD hS hA) (fun r' u t H1 locs1 ht hvm hp hB hz hk hS1 => by
    subst hp
    obtain ⟨hP1, hK1, hD1⟩ := hB
    rw [ht] at hP1
    obtain ⟨hP2, hD2⟩ := kj_R2 hP hD hk (kj_F2 hD hS hA) hP1 hD1
    exact kk H1 locs1 hP2 hD2 hS1)
theorem kj_x1 {r : Int32} (hr : va_Run p l e R s m args below meth c H locs cells slots 1 6 (F0 m pc ls st) rest (va_Qi (fun (r' : Int32) (_ : Unit) => r' = r) (fun _ t => k_post D tys (va_A Wa H.size) W1 t) (va_A Wa H.size) a) (va_A Wa H.size)) (hP : va_P D vwCl (Wa ++ Wb) H) (hD : va_D A (Wa ++ Wb)) (hS : va_S A H0 H locs) (hA : ∀ q, H0.size ≤ q → A q) (kk : ∀ (H1 : Heap) (locs1 : List Loc), va_P D vwCl (W1 ++ Wb) H1 → va_D A (W1 ++ Wb) → va_S A H0 H1 locs1 → W p l e R s m args below meth c H1 locs1 (cells + 1) (slots + 6) Q (F0 m (pc + 3) ls (.int r :: rest))) : W p l e R s m args below meth c H locs cells slots Q (F0 m pc ls st) :=
  va_calli hr hS (fun q _ h => kj_F hD hS hA q h) (kj_F hD hS hA) (fun r' u t H1 locs1 ht hvm hp hB hz hk hS1 => by
    subst hp
    obtain ⟨hP1, hK1, hD1⟩ := hB
    rw [ht] at hP1
    obtain ⟨hP2, hD2⟩ := kj_L hP hD hk (kj_F hD hS hA) hP1 hD1
    exact kk H1 locs1 hP2 hD2 hS1)
end KW
