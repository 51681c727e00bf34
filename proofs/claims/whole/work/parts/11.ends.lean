/-! ===== rows of V that end a method, throw, call, catch ===== -/
theorem XC_fit : ∀ x ∈ XCL, Bundle.fit x.1 = true := by decide +kernel
theorem XN_fit : ∀ n ∈ XNM, Bundle.fit n = true := by decide +kernel
theorem XC_good : ∀ x ∈ XCL, ∀ w ∈ Cond.classLink RX7 x.2.1 x.1 :: Cond.initialized x.1 :: vx_at9 RX7 x.2.2 x.1, vx_ot w = true := by decide +kernel
theorem XC_lk : ∀ x ∈ XCL, Cond.classLink RX7 x.2.1 x.1 ∈ GW := List.forall_mem_cons.mpr ⟨g4_49, List.forall_mem_cons.mpr ⟨g4_62, List.forall_mem_cons.mpr ⟨g4_78, List.forall_mem_cons.mpr ⟨g4_81, List.forall_mem_cons.mpr ⟨g4_97, List.forall_mem_cons.mpr ⟨g5_182, fun _ h => nomatch h⟩⟩⟩⟩⟩⟩
theorem XC_in : ∀ x ∈ XCL, Cond.initialized x.1 ∈ GW := List.forall_mem_cons.mpr ⟨g1_17, List.forall_mem_cons.mpr ⟨g1_20, List.forall_mem_cons.mpr ⟨g1_21, List.forall_mem_cons.mpr ⟨g1_22, List.forall_mem_cons.mpr ⟨g1_23, List.forall_mem_cons.mpr ⟨g1_25, fun _ h => nomatch h⟩⟩⟩⟩⟩⟩
/-- the class of the object at b -/
def rcv (G : GT) (h : Hp) (b : Nat) (C : String) : Prop := (∃ (ci : Nat) (fs : List Value) (r : vw_C), h.2 b = some (.inr (ci, fs)) ∧ CL[ci]? = some r ∧ r.1 = C) ∨ (∃ (j : Nat) (fs : List Value) (r : vw_C), smG G b = some (.inr (8 + j, fs)) ∧ SCL[j]? = some r ∧ r.1 = C)
theorem rcv_cell {G : GT} {h : Hp} {b : Nat} {C : String} {s : State} {H : Heap} (hv : rcv G h b C) (hf : FV G s) (hr : HR G h H) : ∃ cellB : Cell, H[b]? = some cellB ∧ cellB.vm.isStatics = false ∧ s.vm.findClass C = some cellB.cls := by
  rcases hv with ⟨ci, fs, r, h1, h2, rfl⟩ | ⟨j, fs, r, h1, h2, rfl⟩
  · obtain ⟨r', g1, cell, q1, q2, q3, -⟩ := hr.same h1
    have : r' = r := Option.some.inj (g1.symm.trans h2)
    subst this
    exact ⟨cell, q1, by rw [q3]; rfl, by rw [q2]; exact (hf.1.1 ci _ h2).2.1⟩
  · obtain ⟨j', r', g0, g1, ⟨cell, q1, q2, q3, q4⟩, -⟩ := hf.2.2.1 b _ h1
    have : j' = j := by omega
    subst this
    have : r' = r := Option.some.inj (g1.symm.trans h2)
    subst this
    exact ⟨cell, by rw [hr.2.1.2 b (Nat.not_le.mp q4)]; exact q1, q2, q3⟩
/-- call kinds: 0 virtual, 1 static, 2 constructor, 3 static of a nest mate, 4 constructor of a nest mate, 5 static with a table, 6 virtual found by name, 7 super -/
def mok (cn idx kind n : Nat) (y : MD) : Prop :=
  (y.1.cls ≠ "java/lang/invoke/MethodHandle" ∧ y.1.cls ≠ "java/lang/invoke/VarHandle") ∧ (parseMethodDescriptor y.1.desc).map (fun q => q.parameters.length) = some n ∧ Cond.initialized y.1.cls ∈ GW ∧ codeW y ∈ GW ∧ y.2.2.1 ≤ 26 ∧
  match kind with
  | 0 => Cond.methodLink (RN cn) idx y.1 ∈ GW ∧ Cond.instanceMethod y.1 ∈ GW ∧ Cond.selects y.1.cls y.1 y.1 ∈ GW ∧ y.2.2.2.2.1 = none
  | 1 => Cond.methodLink (RN cn) idx y.1 ∈ GW ∧ Cond.static y.1 ∈ GW ∧ y.2.2.2.2.1 = none
  | 2 => Cond.methodLink (RN cn) idx y.1 ∈ GW ∧ Cond.instanceMethod y.1 ∈ GW ∧ y.1.name = "<init>" ∧ y.2.2.2.1 = none ∧ y.2.2.2.2.1 = none
  | 3 => (∃ host, (RN cn, idx, y.1, host) ∈ NWL) ∧ Cond.static y.1 ∈ GW ∧ y.2.2.2.2.1 = none
  | 4 => (∃ host, (RN cn, idx, y.1, host) ∈ NWL) ∧ Cond.instanceMethod y.1 ∈ GW ∧ y.1.name = "<init>" ∧ y.2.2.2.1 = none ∧ y.2.2.2.2.1 = none
  | 5 => Cond.methodLink (RN cn) idx y.1 ∈ GW ∧ Cond.static y.1 ∈ GW ∧ y.2.2.2.2.1.isSome = true
  | 6 => Cond.methodLink (RN cn) idx y.1 ∈ GW ∧ Cond.sameMethod y.1.cls y.1.cls y.1.name y.1.desc ∈ GW ∧ Cond.instanceMethod y.1 ∈ GW ∧ Cond.selects RJ4 y.1 y.1 ∈ GW ∧ y.2.2.2.2.1 = none
  | 7 => Cond.methodLink (RN cn) idx y.1 ∈ GW ∧ Cond.sameMethod y.1.cls y.1.cls y.1.name y.1.desc ∈ GW ∧ Cond.superclass (RN cn) y.1.cls ∈ GW ∧ Cond.instanceMethod y.1 ∈ GW ∧ y.1.name ≠ "<init>" ∧ y.2.2.2.2.1 = none
  | 8 => Cond.methodLink (RN cn) idx y.1 ∈ GW ∧ Cond.sameMethod y.1.cls y.1.cls y.1.name y.1.desc ∈ GW ∧ y.1 ∈ PVL ∧ Cond.instanceMethod y.1 ∈ GW ∧ y.2.2.2.2.1 = none
  | _ => False
theorem PcG_blind {G : GT} {h : Hp} {av : List Value} : FrameBlind (PcG G h av) := fun a U g mk q => ⟨q.1, FV.alike (s := U) (U := U.calling g mk a) rfl q.2.1, q.2.2⟩
theorem va_tabs_ot {w : Cond} {args : Array Value} {s : State} (hg : vx_ot w = true) (h : w.before #[] s = true) : w.before args s = true := vx_ot_at (State.WarmedH.refl s) rfl hg h
section VENDS
variable {G : GT} {y : MD} {d rc rs pc : Nat} {lv : LL} {st : List Value} {h : Hp} {Q : RT → Hp → Prop}
theorem V_ireturn {x : Int32} {ty : FieldType} (hd : decode y.2.1 pc = .ok (.ireturn, 1)) (hret : y.2.2.2.1 = some ty) (hn : narrow ty (.int x) = .int x) (hq : Q (.inl (some (.int x))) h) : V G y d rc rs pc lv [.int x] h Q := by
  intro p e R s m args below meth c H locs cells slots mc ms ls QQ hF hR hc' hs hE hl hr hS
  refine W.widen (k := mc) (n := ms) (by omega) (by omega) ?_
  rcases hE with rfl | ⟨h1, h2, h3, h4⟩
  · exact vx_ret (W.zret (ty := ty) hF.1 hF.2.1 (hF.2.2.1.trans hret) hn (fun t ht hW => ⟨some (.int x), h, rfl, hq, by rw [ht]; exact hr, hS.F ht⟩) hS.2.2 hd hF.2.2.2.2.2.2.1)
  · exact h4 x h H locs pc ls hq hr hS hd
theorem V_vreturn (hd : decode y.2.1 pc = .ok (.return_, 1)) (hret : y.2.2.2.1 = none) (hq : Q (.inl none) h) : V G y d rc rs pc lv [] h Q := by
  intro p e R s m args below meth c H locs cells slots mc ms ls QQ hF hR hc' hs hE hl hr hS
  refine W.widen (k := mc) (n := ms) (by omega) (by omega) ?_
  rcases hE with rfl | ⟨h1, h2, h3, h4⟩
  · exact vx_ret (W.vret hF.1 hF.2.1 (hF.2.2.1.trans hret) (fun t ht hW => ⟨none, h, rfl, hq, by rw [ht]; exact hr, hS.F ht⟩) hS.2.2 hd hF.2.2.2.2.2.2.1)
  · rw [hret] at h1; cases h1
theorem V_lreturn {x : Int64} (hd : decode y.2.1 pc = .ok (.lreturn, 1)) (hret : y.2.2.2.1 = some .long) (hq : Q (.inl (some (.long x))) h) : V G y d rc rs pc lv [.long x] h Q := by
  intro p e R s m args below meth c H locs cells slots mc ms ls QQ hF hR hc' hs hE hl hr hS
  refine W.widen (k := mc) (n := ms) (by omega) (by omega) ?_
  rcases hE with rfl | ⟨h1, h2, h3, h4⟩
  · exact vx_ret (W.lret hF.1 hF.2.1 (hF.2.2.1.trans hret) (fun t ht hW => ⟨some (.long x), h, rfl, hq, by rw [ht]; exact hr, hS.F ht⟩) hS.2.2 hd hF.2.2.2.2.2.2.1)
  · rw [hret] at h1; cases h1
theorem V_freturn {x : UInt32} (hd : decode y.2.1 pc = .ok (.freturn, 1)) (hret : y.2.2.2.1 = some .float) (hq : Q (.inl (some (.float x))) h) : V G y d rc rs pc lv [.float x] h Q := by
  intro p e R s m args below meth c H locs cells slots mc ms ls QQ hF hR hc' hs hE hl hr hS
  refine W.widen (k := mc) (n := ms) (by omega) (by omega) ?_
  rcases hE with rfl | ⟨h1, h2, h3, h4⟩
  · exact vx_ret (W.fret hF.1 hF.2.1 (hF.2.2.1.trans hret) (fun t ht hW => ⟨some (.float x), h, rfl, hq, by rw [ht]; exact hr, hS.F ht⟩) hS.2.2 hd hF.2.2.2.2.2.2.1)
  · rw [hret] at h1; cases h1
theorem V_dreturn {x : UInt64} (hd : decode y.2.1 pc = .ok (.dreturn, 1)) (hret : y.2.2.2.1 = some .double) (hq : Q (.inl (some (.double x))) h) : V G y d rc rs pc lv [.double x] h Q := by
  intro p e R s m args below meth c H locs cells slots mc ms ls QQ hF hR hc' hs hE hl hr hS
  refine W.widen (k := mc) (n := ms) (by omega) (by omega) ?_
  rcases hE with rfl | ⟨h1, h2, h3, h4⟩
  · exact vx_ret (W.dret hF.1 hF.2.1 (hF.2.2.1.trans hret) (fun t ht hW => ⟨some (.double x), h, rfl, hq, by rw [ht]; exact hr, hS.F ht⟩) hS.2.2 hd hF.2.2.2.2.2.2.1)
  · rw [hret] at h1; cases h1
def isRefT : FieldType → Bool
  | .object _ => true
  | .array _ => true
  | _ => false
theorem V_areturn {a : Nat} {ty : FieldType} (hd : decode y.2.1 pc = .ok (.areturn, 1)) (hret : y.2.2.2.1 = some ty) (hty : isRefT ty = true) (hq : Q (.inl (some (.ref a))) h) : V G y d rc rs pc lv [.ref a] h Q := by
  intro p e R s m args below meth c H locs cells slots mc ms ls QQ hF hR hc' hs hE hl hr hS
  refine W.widen (k := mc) (n := ms) (by omega) (by omega) ?_
  have hty' : (∃ n, ty = .object n) ∨ ∃ t, ty = .array t := by cases ty <;> first | exact Or.inl ⟨_, rfl⟩ | exact Or.inr ⟨_, rfl⟩ | cases hty
  rcases hE with rfl | ⟨h1, h2, h3, h4⟩
  · exact vx_ret (W.aret hF.1 hF.2.1 (hF.2.2.1.trans hret) hty' (Or.inr ⟨a, rfl⟩) (fun t ht hW => ⟨some (.ref a), h, rfl, hq, by rw [ht]; exact hr, hS.F ht⟩) hS.2.2 hd hF.2.2.2.2.2.2.1)
  · rw [hret] at h1; cases h1; cases hty
theorem V_throw {ik is ic : Nat} {E : String} {sa : Nat} (hx : (E, ik, ic) ∈ XCL) (hcn : y.2.2.2.2.2 = 7) (htab : y.2.2.2.2.1 = none) (d0 : decode y.2.1 pc = .ok (.new ik, 3)) (d3 : decode y.2.1 (pc + 3) = .ok (.dup, 1)) (d4 : decode y.2.1 (pc + 4) = .ok (.ldc is, 2)) (d6 : decode y.2.1 (pc + 6) = .ok (.invokespecial ic, 3)) (d9 : decode y.2.1 (pc + 9) = .ok (.athrow, 1))
    (hss : ssG G 7 is = some sa) (hdd : 6 ≤ d) (hrest : catS st ≤ 8) (h1c : 1 ≤ rc) (h6c : 6 ≤ rs) (hq : ∀ z, h.1 ≤ z → Q (.inr E) (z, h.2)) : V G y d rc rs pc lv st h Q := by
  intro p e R s m args below meth c H locs cells slots mc ms ls QQ hF hR hc' hs hE hl hr hS
  have hts := hF.2.2.2.2.2.1
  have hfv := hF.2.2.2.2.2.2.2.1
  have hown : s.vm.findClass RX7 = some m.cls := by have := hF.2.2.2.2.1; rw [hcn] at this; exact this
  obtain ⟨tx, hstr⟩ := hfv.2.2.2.2.1 7 is sa hss
  have hk0 : ∀ a : Nat, a < G.2.2.1.size → ¬ Fz G a → s.heap[a]? = G.2.2.1[a]? := fun a ha _ => hF.2.2.2.2.2.2.2.2.1.2 a ha
  rcases hE with rfl | ⟨g1, g2, g3, g4⟩
  · refine vx_make9 (own := RX7) (cls := E) (ik := ik) (is := is) (ic := ic) (text := tx) (A := Fz G) hF.1 hF.2.1 hfv.2.2.2.2.2.2 hown (XC_fit _ hx) (hts _ (XC_lk _ hx)) (hts _ (XC_in _ hx)) hstr ?_ (XC_good _ hx) ?_ ?_ hS (hl.1.trans hF.2.2.2.1.symm) d0 d3 d4 d6 (by omega) (by show catS st + 82 ≤ R.locals; omega) (by omega) (by omega) ?_
    · intro w hw
      have h9 := hfv.2.2.2.2.2.1.1 _ hx w hw
      exact va_tabs_ot (XC_good _ hx w (List.mem_cons_of_mem _ (List.mem_cons_of_mem _ hw))) h9
    · exact ⟨hfv.2.2.2.2.2.1.2.1.1.kept hk0, hfv.2.2.2.2.2.1.2.1.2.kept hk0⟩
    · exact ⟨hfv.2.2.2.2.2.1.2.2.1.1.kept hk0, hfv.2.2.2.2.2.1.2.2.1.2.kept hk0⟩
    · intro q H1 ce e1 e2 e3 hz ho
      refine vx_athrow9 hF.1 hF.2.1 d9 (vx_out ?_ hF.2.2.2.2.2.2.1 e1 e2 e3 (fun t ht hA => ?_) hS.2.2 (by omega) (by omega))
      · rw [hF.2.2.2.2.2.2.2.2.2.1]
        unfold tabOf
        rw [htab]
        intro x hx'
        cases hx'
      · have S1 : va_S (Fz G) s.heap H1 locs := ⟨Nat.le_trans hS.1 hz, fun x hq1 hq2 => (ho x (Nat.lt_of_lt_of_le hq1 hS.1)).trans (hS.2.1 x hq1 hq2), hS.2.2⟩
        exact ⟨(H1.size, h.2), hq _ (by rw [← hr.1]; exact hz), by rw [ht]; exact hr.grow hz ho, S1.F ht⟩
  · exact (g3 E _ (hq _ (Nat.le_refl _))).elim
theorem V_throwW {ik is ic : Nat} {E : String} {sa : Nat} (hx : (E, ik, ic) ∈ XCL) (hcn : y.2.2.2.2.2 = 7) (htab : y.2.2.2.2.1 = none) (d0 : decode y.2.1 pc = .ok (.new ik, 3)) (d3 : decode y.2.1 (pc + 3) = .ok (.dup, 1)) (d4 : decode y.2.1 (pc + 4) = .ok (.ldc_w is, 3)) (d6 : decode y.2.1 (pc + 7) = .ok (.invokespecial ic, 3)) (d9 : decode y.2.1 (pc + 10) = .ok (.athrow, 1))
    (hss : ssG G 7 is = some sa) (hdd : 6 ≤ d) (hrest : catS st ≤ 8) (h1c : 1 ≤ rc) (h6c : 6 ≤ rs) (hq : ∀ z, h.1 ≤ z → Q (.inr E) (z, h.2)) : V G y d rc rs pc lv st h Q := by
  intro p e R s m args below meth c H locs cells slots mc ms ls QQ hF hR hc' hs hE hl hr hS
  have hts := hF.2.2.2.2.2.1
  have hfv := hF.2.2.2.2.2.2.2.1
  have hown : s.vm.findClass RX7 = some m.cls := by have := hF.2.2.2.2.1; rw [hcn] at this; exact this
  obtain ⟨tx, hstr⟩ := hfv.2.2.2.2.1 7 is sa hss
  have hk0 : ∀ a : Nat, a < G.2.2.1.size → ¬ Fz G a → s.heap[a]? = G.2.2.1[a]? := fun a ha _ => hF.2.2.2.2.2.2.2.2.1.2 a ha
  rcases hE with rfl | ⟨g1, g2, g3, g4⟩
  · refine vx_make9W (own := RX7) (cls := E) (ik := ik) (is := is) (ic := ic) (text := tx) (A := Fz G) hF.1 hF.2.1 hfv.2.2.2.2.2.2 hown (XC_fit _ hx) (hts _ (XC_lk _ hx)) (hts _ (XC_in _ hx)) hstr ?_ (XC_good _ hx) ?_ ?_ hS (hl.1.trans hF.2.2.2.1.symm) d0 d3 d4 d6 (by omega) (by show catS st + 82 ≤ R.locals; omega) (by omega) (by omega) ?_
    · intro w hw
      have h9 := hfv.2.2.2.2.2.1.1 _ hx w hw
      exact va_tabs_ot (XC_good _ hx w (List.mem_cons_of_mem _ (List.mem_cons_of_mem _ hw))) h9
    · exact ⟨hfv.2.2.2.2.2.1.2.1.1.kept hk0, hfv.2.2.2.2.2.1.2.1.2.kept hk0⟩
    · exact ⟨hfv.2.2.2.2.2.1.2.2.1.1.kept hk0, hfv.2.2.2.2.2.1.2.2.1.2.kept hk0⟩
    · intro q H1 ce e1 e2 e3 hz ho
      refine vx_athrow9 hF.1 hF.2.1 d9 (vx_out ?_ hF.2.2.2.2.2.2.1 e1 e2 e3 (fun t ht hA => ?_) hS.2.2 (by omega) (by omega))
      · rw [hF.2.2.2.2.2.2.2.2.2.1]
        unfold tabOf
        rw [htab]
        intro x hx'
        cases hx'
      · have S1 : va_S (Fz G) s.heap H1 locs := ⟨Nat.le_trans hS.1 hz, fun x hq1 hq2 => (ho x (Nat.lt_of_lt_of_le hq1 hS.1)).trans (hS.2.1 x hq1 hq2), hS.2.2⟩
        exact ⟨(H1.size, h.2), hq _ (by rw [← hr.1]; exact hz), by rw [ht]; exact hr.grow hz ho, S1.F ht⟩
  · exact (g3 E _ (hq _ (Nat.le_refl _))).elim
theorem VX_out {E : String} (htab : y.2.2.2.2.1 = none) (hq : Q (.inr E) h) : VX G y d rc rs pc lv E h Q := by
  intro p e R s m args below meth c H locs cells slots mc ms ls QQ q ce rest hF hR hc' hs hE hl hr hS hce hcv hcl
  rcases hE with rfl | ⟨g1, g2, g3, g4⟩
  · refine vx_out ?_ hF.2.2.2.2.2.2.1 hce hcv hcl (fun t ht hA => ⟨h, hq, by rw [ht]; exact hr, hS.F ht⟩) hS.2.2 (by omega) (by omega)
    rw [hF.2.2.2.2.2.2.2.2.2.1]
    unfold tabOf
    rw [htab]
    intro x hx'
    cases hx'
  · exact (g3 E _ hq).elim
end VENDS
