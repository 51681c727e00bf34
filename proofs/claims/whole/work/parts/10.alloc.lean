/-! ===== rows of V that make cells, copy, leave, throw ===== -/
def nok9 (cn idx ci : Nat) (fs : List Value) (N : Nat) : Prop := ∃ r : vw_C, CL[ci]? = some r ∧ r.2.2 = N ∧ Cond.classLink (RN cn) idx r.1 ∈ GW ∧ Cond.instantiable r.1 r.2.2 ∈ GW ∧ Cond.initialized r.1 ∈ GW ∧ (∀ w ∈ u_ws r.1 r.2.1 r.2.2, w ∈ GW) ∧ ∃ ty : Nat → FieldType, (∀ k, k < r.2.2 → parseFieldDescriptor (r.2.1 k).2.2.1 = some (ty k)) ∧ ∀ j, j < r.2.2 → defaultValue (ty j) = vp_V fs j
def atOf : Nat → ArrayType
  | 0 => .int | 1 => .char | 2 => .long | 3 => .double | _ => .byte
section VALLOC
variable {G : GT} {y : MD} {d rc rs pc : Nat} {lv : LL} {st : List Value} {h : Hp} {Q : RT → Hp → Prop}
theorem V_new {idx ci N : Nat} {fs : List Value} (hd : decode y.2.1 pc = .ok (.new idx, 3)) (hf : nok9 y.2.2.2.2.2 idx ci fs N) (h1c : 1 ≤ rc) (h2c : N ≤ rs) (kk : V G y d (rc - 1) (rs - N) (pc + 3) lv (.ref h.1 :: st) (hnew h (.inr (ci, fs))) Q) : V G y d rc rs pc lv st h Q := by
  intro p e R s m args below meth c H locs cells slots mc ms ls QQ hF hR hc' hs hE hl hr hS
  obtain ⟨⟨C, T, N'⟩, h1, h2, h3, h4, h5, h6, ty, h7, h8⟩ := hf
  subst h2
  have hts := hF.2.2.2.2.2.1
  have hK := hF.2.2.2.2.2.2.2.1.1
  have hKn := hK.1 ci _ h1
  refine W.newcK (own := RN y.2.2.2.2.2) hF.1 hF.2.1 hF.2.2.2.2.1 (hts _ h3) (hts _ h4) (hts _ h5) rfl hd (by omega) (by have h2c' : N' ≤ rs := h2c; show slots + N' ≤ R.slots; omega) hKn.2.1 rfl fun H1 kC hkC e1 z1 o1 => ?_
  have := kk p e R s m args below meth c H1 locs (cells + 1) (slots + N') mc ms ls QQ hF hR (by omega) (by dsimp only at h2c ⊢; omega) hE hl (hr.new (e := .inr (ci, fs)) ⟨_, h1, (u_born ty hts h6 hKn hkC e1 h7).to h8⟩ z1 o1) ⟨Nat.le_trans hS.1 (by omega), fun x g1 g2 => (o1 x (Nat.lt_of_lt_of_le g1 hS.1)).trans (hS.2.1 x g1 g2), hS.2.2⟩
  rw [← hr.1] at this
  exact this
theorem V_newarray {at9 : ArrayType} {t : Nat} {n : Nat} {a0 : vp_A} (hd : decode y.2.1 pc = .ok (.newarray at9, 2)) (ht : t < 5) (hat : at9 = atOf t) (hac : Cond.arrayClass (tyOf t) ∈ GW) (ha : ∀ cA : ClassId, vp_cell cA a0 = arrV cA n (fun _ => defaultValue (tyOf t))) (hn : n < 65536) (h1c : 1 ≤ rc) (h2c : n ≤ rs) (kk : V G y d (rc - 1) (rs - n) (pc + 2) lv (.ref h.1 :: st) (hnew h (.inl (t, a0))) Q) : V G y d rc rs pc lv (.int (nI n) :: st) h Q := by
  intro p e R s m args below meth c H locs cells slots mc ms ls QQ hF hR hc' hs hE hl hr hS
  subst hat
  have hts := hF.2.2.2.2.2.1
  have hK := hF.2.2.2.2.2.2.2.1.1
  have hty : newarray.typeOf (atOf t) = tyOf t := by
    rcases (show t = 0 ∨ t = 1 ∨ t = 2 ∨ t = 3 ∨ t = 4 by omega) with rfl | rfl | rfl | rfl | rfl <;> rfl
  have hin : (tysG G)[t]? = some (acG G t, tyOf t) := by
    rcases (show t = 0 ∨ t = 1 ∨ t = 2 ∨ t = 3 ∨ t = 4 by omega) with rfl | rfl | rfl | rfl | rfl <;> rfl
  have hcb : n * componentBytes (tyOf t) ≤ 536870912 := by
    rcases (show t = 0 ∨ t = 1 ∨ t = 2 ∨ t = 3 ∨ t = 4 by omega) with rfl | rfl | rfl | rfl | rfl
    · show n * 4 ≤ _; omega
    · show n * 2 ≤ _; omega
    · show n * 8 ≤ _; omega
    · show n * 8 ≤ _; omega
    · show n * 1 ≤ _; omega
  refine va_newaK (atype := atOf t) hF.1 hF.2.1 (by rw [hty]; exact hts _ hac) rfl hd rfl (nI_pos (by omega)) (nI_clamp (by omega)) (by rw [hty]; exact hcb) (by omega) (by omega) rfl fun H1 cA e1 z1 o1 hAr hNm => ?_
  rw [hty] at e1 hAr hNm
  have hcA : cA = acG G t := by
    have h9 := (hK.2 t _ hin).2
    have h10 : s.vm.findClass ("[" ++ (tyOf t).toString) = some (acG G t) := by
      rcases (show t = 0 ∨ t = 1 ∨ t = 2 ∨ t = 3 ∨ t = 4 by omega) with rfl | rfl | rfl | rfl | rfl <;> exact h9
    exact Option.some.inj (hNm.symm.trans h10)
  subst hcA
  have := kk p e R s m args below meth c H1 locs (cells + 1) (slots + n) mc ms ls QQ hF hR (by omega) (by omega) hE hl (hr.new (e := .inl (t, a0)) (by show H1[H.size]? = some (vp_cell _ _); rw [ha]; exact e1) z1 o1) ⟨Nat.le_trans hS.1 (by omega), fun x g1 g2 => (o1 x (Nat.lt_of_lt_of_le g1 hS.1)).trans (hS.2.1 x g1 g2), hS.2.2⟩
  rw [← hr.1] at this
  exact this
theorem V_anewarray {idx t n : Nat} {C : String} (hd : decode y.2.1 pc = .ok (.anewarray idx, 3)) (ht : t < 8) (hC : tyOf t = .object C) (hcl : Cond.classLink (RN y.2.2.2.2.2) idx C ∈ GW) (hov : ∀ (s : State) (args : Array Value), FV G s → (Cond.arrayOver (.object C)).before args s = true) (hn : n < 65536) (h1c : 1 ≤ rc) (h2c : n ≤ rs) (kk : V G y d (rc - 1) (rs - n) (pc + 3) lv (.ref h.1 :: st) (hnew h (.inl (t, n, .inr (.inr (.inr (.inr (fun _ => none))))))) Q) : V G y d rc rs pc lv (.int (nI n) :: st) h Q := by
  intro p e R s m args below meth c H locs cells slots mc ms ls QQ hF hR hc' hs hE hl hr hS
  have hts := hF.2.2.2.2.2.1
  have hK := hF.2.2.2.2.2.2.2.1.1
  have hcn : (nI n).toNatClampNeg = n := nI_clamp (by omega)
  have hin : (tysG G)[t]? = some (acG G t, tyOf t) := by
    rcases (show t = 0 ∨ t = 1 ∨ t = 2 ∨ t = 3 ∨ t = 4 ∨ t = 5 ∨ t = 6 ∨ t = 7 by omega) with rfl | rfl | rfl | rfl | rfl | rfl | rfl | rfl <;> rfl
  refine W.anew hF.1 hF.2.1 hF.2.2.2.2.1 (hts _ hcl) (hov _ _ hF.2.2.2.2.2.2.2.1) rfl hd rfl (nI_pos (by omega)) (by rw [hcn]; omega) (by omega) (by rw [hcn]; omega) fun cA kA comp f1 f2 f3 f4 => ?_
  rw [hcn]
  have hcA : cA = acG G t := by
    have h9 := (hK.2 t _ hin).2
    rw [hC] at h9
    obtain ⟨kA', comp', -, -, -, h10⟩ := h9
    exact Option.some.inj (f1.symm.trans h10)
  subst hcA
  generalize hH1 : H.push ({ cls := acG G t, slots := Array.replicate n .null, vm := .none } : Cell) = H1
  have z1 : H1.size = H.size + 1 := by rw [← hH1, Array.size_push]
  have e1 : H1[H.size]? = some (arrV (acG G t) n (fun _ => .null)) := by rw [← hH1, Array.getElem?_push_size, ← arrV_new]
  have o1 : ∀ q : Nat, q < H.size → H1[q]? = H[q]? := fun q hq => by rw [← hH1, Array.getElem?_push, if_neg (Nat.ne_of_lt hq)]
  have := kk p e R s m args below meth c H1 locs (cells + 1) (slots + n) mc ms ls QQ hF hR (by omega) (by omega) hE hl (hr.new (e := .inl (t, n, .inr (.inr (.inr (.inr (fun _ => none)))))) (by show H1[H.size]? = some (vp_cell _ _); rw [vp_cell_q]; exact e1) z1 o1) ⟨Nat.le_trans hS.1 (by omega), fun x g1 g2 => (o1 x (Nat.lt_of_lt_of_le g1 hS.1)).trans (hS.2.1 x g1 g2), hS.2.2⟩
  rw [← hr.1] at this
  exact this
/-- storing a reference to a known object in a row of references -/
theorem V_aastore {a n t v ci : Nat} {vs : List Value} {f : Nat → Option Nat} {i : Int32} {r : vw_C} (hd : decode y.2.1 pc = .ok (.aastore, 1)) (hc : h.2 a = some (.inl (t, n, .inr (.inr (.inr (.inr f)))))) (ht : t < 8) (hv : h.2 v = some (.inr (ci, vs))) (hcl : CL[ci]? = some r) (hty : tyOf t = .object r.1) (hin : vp_in i n) (kk : V G y d rc rs (pc + 1) lv st (hput h a (.inl (t, n, .inr (.inr (.inr (.inr (va_up f i.toNatClampNeg (some v)))))))) Q) : V G y d rc rs pc lv (.ref v :: .int i :: .ref a :: st) h Q := by
  intro p e R s m args below meth c H locs cells slots mc ms ls QQ hF hR hc' hs hE hl hr hS
  have hA : Fz G a := (hr.2.2 a _ hc).1
  have hK := hF.2.2.2.2.2.2.2.1.1
  have hin9 : (tysG G)[t]? = some (acG G t, tyOf t) := by
    rcases (show t = 0 ∨ t = 1 ∨ t = 2 ∨ t = 3 ∨ t = 4 ∨ t = 5 ∨ t = 6 ∨ t = 7 by omega) with rfl | rfl | rfl | rfl | rfl | rfl | rfl | rfl <;> rfl
  have hlt : i.toNatClampNeg < n := Nat.not_le.mp fun q => hin (Or.inr q)
  have h0 : ¬ i < 0 := fun q => hin (Or.inl q)
  obtain ⟨r', hr', cellV, g1, g2, g3, -⟩ := hr.same hv
  have hcls := (hK.1 ci r hcl).2
  have h9 := (hK.2 t _ hin9).2
  rw [hty] at h9
  obtain ⟨kA, comp, k1, k2, k3, -⟩ := h9
  have hcomp : comp = G.2.1.1 ci := Option.some.inj (k3.symm.trans hcls.1)
  subst hcomp
  obtain ⟨kC, hkC, -⟩ := hcls.2
  refine W.aast hF.1 hF.2.1 (hr.same hc) (fun q h => by cases h) (fun h => by cases h) k1 k2 rfl hkC ⟨h0, by show _ < (arrV _ _ _).slots.size; rw [arrV_size]; exact hlt⟩ g1 (fun q h => by rw [g3] at h; cases h) (by rw [g2]; exact hkC) (by rw [g2]; exact va_assign hcls) rfl rfl hd fun H1 e' z oq => ?_
  refine kk p e R s m args below meth c H1 _ cells slots mc ms ls QQ hF hR hc' hs hE hl (hr.put hc ?_ z oq) (hS.put z oq hA)
  show H1[a]? = some (vp_cell _ _)
  rw [e']
  show some ((vp_cell _ _).setSlot _ _) = some (vp_cell _ _)
  rw [vp_cell_q, vp_cell_q, arrV_store]
  congr 2
  funext q
  by_cases hq : q = i.toNatClampNeg
  · subst hq
    simp [updV, va_up, va_rf]
  · simp [updV, va_up, hq]
/-- System.arraycopy between rows of one kind: 0 ints, 1 chars, 4 bytes -/
theorem V_copy {idx t a a0 n0 n1 : Nat} {f g : Nat → Int32} {sp dp n : Int32} (hd : decode y.2.1 pc = .ok (.invokestatic idx, 3)) (hlk : Cond.methodLink (RN y.2.2.2.2.2) idx arraycopyName ∈ GW) (hnat : Cond.native arraycopyName ∈ GW) (hsta : Cond.static arraycopyName ∈ GW) (hini : Cond.initialized "java/lang/System" ∈ GW) (ht : t = 0 ∨ t = 1 ∨ t = 4)
    (hc0 : h.2 a0 = some (.inl (t, n0, .inl f))) (hc1 : h.2 a = some (.inl (t, n1, .inl g))) (h1 : ¬ sp < 0) (h2 : ¬ dp < 0) (h3 : ¬ n < 0) (h4 : sp.toNatClampNeg + n.toNatClampNeg ≤ n0) (h5 : dp.toNatClampNeg + n.toNatClampNeg ≤ n1) (hfit : ∀ i, i < n.toNatClampNeg → fits (tyOf t) (.int (f (sp.toNatClampNeg + i))) = true)
    (hdd : 1 ≤ d) (hrest : catS st ≤ 8) (kk : V G y d rc rs (pc + 3) lv st (hput h a (.inl (t, n1, .inl (va_cpy f g sp.toNatClampNeg dp.toNatClampNeg n.toNatClampNeg)))) Q) : V G y d rc rs pc lv (.int n :: .int dp :: .ref a :: .int sp :: .ref a0 :: st) h Q := by
  intro p e R s m args below meth c H locs cells slots mc ms ls QQ hF hR hc' hs hE hl hr hS
  have hA : Fz G a := (hr.2.2 a _ hc1).1
  have hts := hF.2.2.2.2.2.1
  have hK := hF.2.2.2.2.2.2.2.1.1
  have hin9 : (tysG G)[t]? = some (acG G t, tyOf t) := by rcases ht with rfl | rfl | rfl <;> rfl
  have hprim : refKind (tyOf t) = false := by rcases ht with rfl | rfl | rfl <;> rfl
  have nn : ∀ z : Int32, ¬ z < 0 → z.toInt = (z.toNatClampNeg : Int) := by
    intro z hz
    have hz0 : (0 : Int) ≤ z.toInt := by
      have := Int32.not_lt.mp hz
      simpa using Int32.le_iff_toInt_le.mp this
    show z.toInt = ((z.toInt.toNat : Nat) : Int)
    omega
  intro T hT X
  have hh0 : H[a0]? = some (vp_cell (acG G t) (n0, .inl f)) := hr.same hc0
  have hh1 : H[a]? = some (vp_cell (acG G t) (n1, .inl g)) := hr.same hc1
  obtain ⟨-, k0, hk0, cm0, hkk0⟩ := (hK.2 t _ hin9).1 n0 (fun j => .int (f j))
  obtain ⟨-, k1, hk1, cm1, hkk1⟩ := (hK.2 t _ hin9).1 n1 (fun j => .int (g j))
  have hnf : nativeFrameWords "java/lang/System" "arraycopy" 5 = 7 := by decide +kernel
  obtain ⟨vm', X', step⟩ := X.arraycopy hF.1 hF.2.2.2.2.1 (hts _ hlk) (hts _ hnat) (hts _ hsta) (hts _ hini) (src := a0) (dst := a) (cs := vp_cell (acG G t) (n0, .inl f)) (cd := vp_cell (acG G t) (n1, .inl g)) (srcPos := sp) (destPos := dp) (n := n) (by rw [hT]; exact hh0) (by rw [hT]; exact hh1)
    (fun _ h => by cases h) (fun _ h => by cases h) (fun h => by cases h) (fun h => by cases h) hk0 hk1 hkk0 hkk1 (by simp [hprim]) h1 h2 h3
    (by rw [nn sp h1, nn n h3]; show ¬ _ > ((arrV (acG G t) n0 (fun j => .int (f j))).slots.size : Int); rw [arrV_size]; omega)
    (by rw [nn dp h2, nn n h3]; show ¬ _ > ((arrV (acG G t) n1 (fun j => .int (g j))).slots.size : Int); rw [arrV_size]; omega)
    (fun vm₁ _ i hi => by
      have e : (vp_cell (acG G t) (n0, .inl f)).slots.getD (sp.toNatClampNeg + i) .null = .int (f (sp.toNatClampNeg + i)) := by
        show (arrV (acG G t) n0 (fun j => .int (f j))).slots.getD _ _ = _
        rw [Array.getD_eq_getD_getElem?, arrV_read _ _ (by omega)]
        rfl
      refine ⟨?_, ?_⟩
      · rw [e]
        exact hfit i hi
      · rw [e]
        exact trivial)
    (g := F0 m pc ls (.int n :: .int dp :: .ref a :: .int sp :: .ref a0 :: st)) rfl (by rw [hl.1]; exact hF.2.2.2.1.symm) (rest := st) rfl (by rw [hF.2.1]; exact hd) (by omega) (by show 2 * 0 + catS st + (nativeFrameWords "java/lang/System" "arraycopy" 5 + 11) ≤ R.locals; rw [hnf]; omega)
  have e1 : copied (vp_cell (acG G t) (n0, .inl f)) (vp_cell (acG G t) (n1, .inl g)) sp dp n = vp_cell (acG G t) (n1, .inl (va_cpy f g sp.toNatClampNeg dp.toNatClampNeg n.toNatClampNeg)) := va_copied (fun z => .int z) (acG G t) (acG G t) f g h4
  rw [e1] at X' step
  have hl9 : a < H.size := (Array.getElem?_eq_some_iff.mp hh1).1
  generalize hce : vp_cell (acG G t) (n1, .inl (va_cpy f g sp.toNatClampNeg dp.toNatClampNeg n.toNatClampNeg)) = ce at X' step
  have hheap : ((T.setVm vm').setCell a ce).heap = H.setIfInBounds a ce := by rw [← hT]; rfl
  have oq : ∀ q : Nat, q ≠ a → (H.setIfInBounds a ce)[q]? = H[q]? := fun q hq => by simp [Array.getElem?_setIfInBounds, Ne.symm hq]
  have eq : (H.setIfInBounds a ce)[a]? = some ce := by simp [Array.getElem?_setIfInBounds, hl9]
  obtain ⟨t9, a9, b9⟩ := kk p e R s m args below meth c (H.setIfInBounds a ce) _ cells slots mc ms ls QQ hF hR (by omega) (by omega) hE hl (hr.put hc1 (by show (H.setIfInBounds a ce)[a]? = some (vp_cell _ _); rw [eq, ← hce]) (by simp) oq)
    ⟨by simp; exact hS.1, fun q g1 g2 => by
      rw [oq q (fun e => g2 (by rw [e]; exact hA))]
      exact hS.2.1 q g1 g2, fun q hq => by
      rcases List.mem_append.mp hq with h | h
      · exact hS.2.2 q h
      · obtain ⟨z, -, hz⟩ := List.mem_map.mp h
        rw [← hz]
        exact hA⟩ _ hheap X'
  exact ⟨t9, step _ a9, b9⟩
theorem V_objInit {idx a : Nat} (hd : decode y.2.1 pc = .ok (.invokespecial idx, 3)) (hlk : Cond.methodLink (RN y.2.2.2.2.2) idx objectInit ∈ GW) (hin : Cond.instanceMethod objectInit ∈ GW) (hco : Cond.code objectInit ⟨#[0xb1]⟩ 1 none ∈ GW) (hdd : 1 ≤ d) (hrest : catS st ≤ 8) (kk : V G y d rc rs (pc + 3) lv st h Q) : V G y d rc rs pc lv (.ref a :: st) h Q := by
  intro p e R s m args below meth c H locs cells slots mc ms ls QQ hF hR hc' hs hE hl hr hS
  have hts := hF.2.2.2.2.2.1
  exact W.objInit hF.1 hF.2.1 hF.2.2.2.2.1 (hts _ hlk) (hts _ hin) (hts _ hco) rfl (by rw [hF.2.2.2.1]; exact hl.1) rfl hd (by omega) (by show 2 * 0 + catS st + 12 ≤ R.locals; omega) (kk p e R s m args below meth c H locs cells slots mc ms ls QQ hF hR hc' hs hE hl hr hS)
theorem V_min {idx : Nat} {a b : Int32} (hd : decode y.2.1 pc = .ok (.invokestatic idx, 3)) (hlk : Cond.methodLink (RN y.2.2.2.2.2) idx Lib.Math.min.name ∈ GW) (hst : Cond.static Lib.Math.min.name ∈ GW) (hini : Cond.initialized "java/lang/Math" ∈ GW) (hco : Cond.code Lib.Math.min.name Lib.Math.min.code 2 (some .int) ∈ GW) (hdd : 1 ≤ d) (hrest : catS st ≤ 8) (kk : V G y d rc rs (pc + 3) lv (.int (if b < a then b else a) :: st) h Q) : V G y d rc rs pc lv (.int b :: .int a :: st) h Q := by
  intro p e R s m args below meth c H locs cells slots mc ms ls QQ hF hR hc' hs hE hl hr hS
  have hts := hF.2.2.2.2.2.1
  exact va_mmin hF.1 hF.2.1 (hF.2.2.2.1.trans hl.1.symm) hF.2.2.2.2.1 (hts _ hlk) (hts _ hst) (hts _ hini) (hts _ hco) (by omega) (by show catS st + 13 ≤ R.locals; omega) (by omega) (by omega) hd (kk p e R s m args below meth c H locs cells slots mc ms ls QQ hF hR hc' hs hE hl hr hS)
theorem V_max {idx : Nat} {a b : Int32} (hd : decode y.2.1 pc = .ok (.invokestatic idx, 3)) (hlk : Cond.methodLink (RN y.2.2.2.2.2) idx Lib.Math.max.name ∈ GW) (hst : Cond.static Lib.Math.max.name ∈ GW) (hini : Cond.initialized "java/lang/Math" ∈ GW) (hco : Cond.code Lib.Math.max.name Lib.Math.max.code 2 (some .int) ∈ GW) (hdd : 1 ≤ d) (hrest : catS st ≤ 8) (kk : V G y d rc rs (pc + 3) lv (.int (if a < b then b else a) :: st) h Q) : V G y d rc rs pc lv (.int b :: .int a :: st) h Q := by
  intro p e R s m args below meth c H locs cells slots mc ms ls QQ hF hR hc' hs hE hl hr hS
  have hts := hF.2.2.2.2.2.1
  exact va_mmax hF.1 hF.2.1 (hF.2.2.2.1.trans hl.1.symm) hF.2.2.2.2.1 (hts _ hlk) (hts _ hst) (hts _ hini) (hts _ hco) (by omega) (by show catS st + 13 ≤ R.locals; omega) (by omega) (by omega) hd (kk p e R s m args below meth c H locs cells slots mc ms ls QQ hF hR hc' hs hE hl hr hS)
end VALLOC
