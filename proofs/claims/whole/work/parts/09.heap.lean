/-! ===== rows of V that read and write cells ===== -/
def fok (cn idx ci k : Nat) : Prop := ∃ r : vw_C, CL[ci]? = some r ∧ k < r.2.2 ∧ Cond.fieldLink (RN cn) idx (r.2.1 k).1 (r.2.1 k).2.1 (r.2.1 k).2.2.1 ∈ GW ∧ (∀ w ∈ u_ws r.1 r.2.1 r.2.2, w ∈ GW) ∧ (∃ ty0 : Nat → FieldType, ∀ k, k < r.2.2 → parseFieldDescriptor (r.2.1 k).2.2.1 = some (ty0 k)) ∧ (∀ a, a < r.2.2 → ∀ b, b < r.2.2 → a ≠ b → (r.2.1 a).2.1 ≠ (r.2.1 b).2.1)
def sfok (cn idx ci k : Nat) : Prop := ∃ (j : Nat) (r : vw_C), ci = 8 + j ∧ SCL[j]? = some r ∧ k < r.2.2 ∧ Cond.fieldLink (RN cn) idx (r.2.1 k).1 (r.2.1 k).2.1 (r.2.1 k).2.2.1 ∈ GW
/-- a value that a field of this type takes as it is: 0 int, 1 long, 2 reference, 3 boolean, 4 char, 5 byte -/
def tcOk (tc : Nat) (ty : FieldType) : Prop := match tc with
  | 0 => ty = .int
  | 1 => ty = .long
  | 2 => (∃ C, ty = .object C) ∨ ∃ t, ty = .array t
  | 3 => ty = .boolean
  | 4 => ty = .char
  | 5 => ty = .byte
  | _ => False
def nokc (tc : Nat) (v : Value) : Prop := match tc, v with
  | 0, .int _ => True
  | 1, .long _ => True
  | 2, .ref _ => True
  | 3, .int x => x = nI 0 ∨ x = nI 1
  | 4, .int x => ∃ q, q < 65536 ∧ x = nI q
  | 5, .int x => narrow .byte (.int x) = .int x ∧ fits .byte (.int x) = true
  | _, _ => False
theorem nokc_ok {tc : Nat} {ty : FieldType} {v : Value} (h1 : tcOk tc ty) (h2 : nokc tc v) : narrow ty v = v ∧ fits ty v = true := by
  match tc, v, h1, h2 with
  | 0, .int _, h1, _ => cases h1; exact ⟨rfl, rfl⟩
  | 1, .long _, h1, _ => cases h1; exact ⟨rfl, rfl⟩
  | 2, .ref _, h1, _ => rcases h1 with ⟨C, rfl⟩ | ⟨t, rfl⟩ <;> exact ⟨rfl, rfl⟩
  | 3, .int x, h1, h2 => cases h1; rcases h2 with rfl | rfl <;> exact ⟨by decide +kernel, by decide +kernel⟩
  | 4, .int x, h1, h2 => cases h1; obtain ⟨q, hq, rfl⟩ := h2; exact pk_charN hq
  | 5, .int x, h1, h2 => cases h1; exact h2
/-- field row of class cn at index idx: the object's class, the field's place and kind -/
def pok (cn idx ci k tc : Nat) (fin : Bool) : Prop := fok cn idx ci k ∧ ∀ r : vw_C, CL[ci]? = some r → (r.2.1 k).2.2.2 = fin ∧ (fin = true → (r.2.1 k).1 = RN cn) ∧ ∃ ty, parseFieldDescriptor (r.2.1 k).2.2.1 = some ty ∧ tcOk tc ty
section VHEAP
variable {G : GT} {y : MD} {d rc rs pc : Nat} {lv : LL} {st : List Value} {h : Hp} {Q : RT → Hp → Prop}
theorem V_getfield {idx ci k a : Nat} {fs : List Value} {v : Value} (hd : decode y.2.1 pc = .ok (.getfield idx, 3)) (hf : fok y.2.2.2.2.2 idx ci k) (hc : h.2 a = some (.inr (ci, fs))) (hv : fs[k]? = some v) (kk : V G y d rc rs (pc + 3) lv (v :: st) h Q) : V G y d rc rs pc lv (.ref a :: st) h Q := by
  intro p e R s m args below meth c H locs cells slots mc ms ls QQ hF hR hc' hs hE hl hr hS
  obtain ⟨⟨C, T, N⟩, h1, h2, h3, h4, -, -⟩ := hf
  have hts := hF.2.2.2.2.2.1
  exact va_get (own := RN y.2.2.2.2.2) (cl := CL) (D := G.2.1) (tys := tysG G) (Ts := GW) hF.1 hF.2.1 hts h4 hF.2.2.2.2.1 hF.2.2.2.2.2.2.2.1.1 (hr.P1 hc) 0 rfl h1 k h2 (hts _ h3) (fun _ h => h) hv hd (kk p e R s m args below meth c H locs cells slots mc ms ls QQ hF hR hc' hs hE hl hr hS)
theorem V_getfieldS {idx ci k a : Nat} {fs : List Value} {v : Value} (hd : decode y.2.1 pc = .ok (.getfield idx, 3)) (hf : sfok y.2.2.2.2.2 idx ci k) (hc : smG G a = some (.inr (ci, fs))) (hv : fs[k]? = some v) (kk : V G y d rc rs (pc + 3) lv (v :: st) h Q) : V G y d rc rs pc lv (.ref a :: st) h Q := by
  intro p e R s m args below meth c H locs cells slots mc ms ls QQ hF hR hc' hs hE hl hr hS
  obtain ⟨j, r, h0, h1, h2, h3⟩ := hf
  have hts := hF.2.2.2.2.2.1
  obtain ⟨j', r', g0, g1, g2, g3⟩ := hF.2.2.2.2.2.2.2.1.2.2.1 a _ hc
  have : j' = j := by omega
  subst this
  have : r' = r := Option.some.inj (g1.symm.trans h1)
  subst this
  obtain ⟨cf, kf, fi, f, cell, q1, q2, q3, q4, q5, q6⟩ := g3 k v h2 hv
  have hlt : a < b0 G := Nat.not_le.mp q6
  refine W.getf (own := RN y.2.2.2.2.2) hF.1 hF.2.1 hF.2.2.2.2.1 (hts _ h3) q1 q2 (cell := cell) (v := v) ?_ q4 q5 rfl rfl hd (kk p e R s m args below meth c H locs cells slots mc ms ls QQ hF hR hc' hs hE hl hr hS)
  rw [hr.2.1.2 a hlt]
  exact q3
theorem V_putfield {idx ci k tc a : Nat} {fs : List Value} {v : Value} (hd : decode y.2.1 pc = .ok (.putfield idx, 3)) (hf : pok y.2.2.2.2.2 idx ci k tc false) (hc : h.2 a = some (.inr (ci, fs))) (hn : nokc tc v) (hk : k < fs.length) (kk : V G y d rc rs (pc + 3) lv st (hput h a (.inr (ci, fs.set k v))) Q) : V G y d rc rs pc lv (v :: .ref a :: st) h Q := by
  intro p e R s m args below meth c H locs cells slots mc ms ls QQ hF hR hc' hs hE hl hr hS
  obtain ⟨⟨⟨C, T, N⟩, h1, h2, h3, h4, ⟨ty0, h5⟩, h6⟩, h7⟩ := hf
  obtain ⟨hfin, -, ty, h8, h9⟩ := h7 _ h1
  have hts := hF.2.2.2.2.2.1
  have hown := hF.2.2.2.2.1
  have hK := hF.2.2.2.2.2.2.2.1.1
  have hap := va_apart (own := RN y.2.2.2.2.2) hts h4 ty0 h5 h6 hK h1
  obtain ⟨r, g1, cell, q1, q2, q3, q4⟩ := hr.same hc
  have hr' : r = (C, T, N) := Option.some.inj (g1.symm.trans h1)
  subst hr'
  obtain ⟨hSl, hfc, kC, hkC, hkind⟩ := hK.1 ci _ h1
  obtain ⟨cf, kf, fi, f, hi, hsl⟩ := hSl k h2
  have hlay := hts _ (h4 _ (u_in_lay h2))
  unfold u_lay at hlay
  rw [if_neg (by rw [hfin]; decide)] at hlay
  have hst := (u_facts hfc hkC (u_lays hts h4 h2) hi).1
  have h10 := u_store hfc hkC hkind hlay hi h8 (nokc_ok h9 hn).1 (nokc_ok h9 hn).2
  have hA : Fz G a := (hr.2.2 a _ hc).1
  refine W.putK hF.1 hF.2.1 (f := f) ⟨hown, hts _ h3, ⟨_, _, _, hi⟩, hst⟩ (by rw [q2]; exact h10) q1 q3 (by rw [hsl]; exact k2_hasslot (q4 k h2)) rfl rfl hd fun H' e1 e2 e3 => ?_
  rw [hsl] at e1 ⊢
  exact kk p e R s m args below meth c H' _ cells slots mc ms ls QQ hF hR hc' hs hE hl (hr.put hc ⟨_, h1, t_OB.to (V := updV (vp_V fs) k v) ⟨_, e1, q2, q3, t_set q4 hap h2 v⟩ (fun j _ => vp_updV_set hk v j)⟩ e2 e3) (hS.put e2 e3 hA)
theorem V_putfinal {idx ci k tc a : Nat} {fs : List Value} {v : Value} (hd : decode y.2.1 pc = .ok (.putfield idx, 3)) (hf : pok y.2.2.2.2.2 idx ci k tc true) (hin : y.1.name = "<init>") (hc : h.2 a = some (.inr (ci, fs))) (hn : nokc tc v) (hk : k < fs.length) (kk : V G y d rc rs (pc + 3) lv st (hput h a (.inr (ci, fs.set k v))) Q) : V G y d rc rs pc lv (v :: .ref a :: st) h Q := by
  intro p e R s m args below meth c H locs cells slots mc ms ls QQ hF hR hc' hs hE hl hr hS
  obtain ⟨⟨⟨C, T, N⟩, h1, h2, h3, h4, ⟨ty0, h5⟩, h6⟩, h7⟩ := hf
  obtain ⟨hfin, hdecl, ty, h8, h9⟩ := h7 _ h1
  have hdecl := hdecl rfl
  have hts := hF.2.2.2.2.2.1
  have hown := hF.2.2.2.2.1
  have hK := hF.2.2.2.2.2.2.2.1.1
  have hap := va_apart (own := RN y.2.2.2.2.2) hts h4 ty0 h5 h6 hK h1
  obtain ⟨r, g1, cell, q1, q2, q3, q4⟩ := hr.same hc
  have hr' : r = (C, T, N) := Option.some.inj (g1.symm.trans h1)
  subst hr'
  obtain ⟨hSl, hfc, kC, hkC, hkind⟩ := hK.1 ci _ h1
  obtain ⟨cf, kf, fi, f, hi, hsl⟩ := hSl k h2
  have hlay := hts _ (h4 _ (u_in_lay h2))
  unfold u_lay at hlay
  rw [if_pos hfin] at hlay
  have hst := (u_facts hfc hkC (u_lays hts h4 h2) hi).1
  have hcf : m.cls = cf := by
    obtain ⟨_, _, c', _, _, _, -, -, hf', -, -, -, hown2, -⟩ := Cond.laysFinal_spec hlay
    have e1 : c' = cf := by have := hi.symm.trans hf'; simp at this; exact this.1.symm
    have hown2' : s.vm.findClass (T k).1 = some c' := hown2
    rw [show (T k).1 = RN y.2.2.2.2.2 from hdecl] at hown2'
    rw [← e1]; exact Option.some.inj (hown.symm.trans hown2')
  have h10 := u_fits hfc hkC hkind (Or.inr hlay) hi h8 (nokc_ok h9 hn).1 (nokc_ok h9 hn).2
  have hA : Fz G a := (hr.2.2 a _ hc).1
  refine W.putFinK hF.1 hF.2.1 hown (hts _ h3) hi hst hcf (hF.2.2.2.2.2.2.2.2.2.2.trans hin) (by rw [q2]; exact h10) q1 q3 (by rw [hsl]; exact k2_hasslot (q4 k h2)) rfl rfl hd fun H' e1 e2 e3 => ?_
  rw [hsl] at e1 ⊢
  exact kk p e R s m args below meth c H' _ cells slots mc ms ls QQ hF hR hc' hs hE hl (hr.put hc ⟨_, h1, t_OB.to (V := updV (vp_V fs) k v) ⟨_, e1, q2, q3, t_set q4 hap h2 v⟩ (fun j _ => vp_updV_set hk v j)⟩ e2 e3) (hS.put e2 e3 hA)
theorem V_iaload {a n : Nat} {f : Nat → Int32} {i : Int32} (hd : decode y.2.1 pc = .ok (.iaload, 1)) (hc : h.2 a = some (.inl (0, n, .inl f))) (hin : vp_in i n) (kk : V G y d rc rs (pc + 1) lv (.int (f i.toNatClampNeg) :: st) h Q) : V G y d rc rs pc lv (.int i :: .ref a :: st) h Q := by
  intro p e R s m args below meth c H locs cells slots mc ms ls QQ hF hR hc' hs hE hl hr hS
  exact va_iald hF.1 hF.2.1 hF.2.2.2.2.2.2.2.1.1 (hr.P1 hc) 0 0 rfl rfl hin hd (kk p e R s m args below meth c H locs cells slots mc ms ls QQ hF hR hc' hs hE hl hr hS)
theorem V_caload {a n : Nat} {f : Nat → Int32} {i : Int32} (hd : decode y.2.1 pc = .ok (.caload, 1)) (hc : h.2 a = some (.inl (1, n, .inl f))) (hin : vp_in i n) (kk : V G y d rc rs (pc + 1) lv (.int (f i.toNatClampNeg) :: st) h Q) : V G y d rc rs pc lv (.int i :: .ref a :: st) h Q := by
  intro p e R s m args below meth c H locs cells slots mc ms ls QQ hF hR hc' hs hE hl hr hS
  exact va_cald hF.1 hF.2.1 hF.2.2.2.2.2.2.2.1.1 (hr.P1 hc) 0 1 rfl rfl hin hd (kk p e R s m args below meth c H locs cells slots mc ms ls QQ hF hR hc' hs hE hl hr hS)
theorem V_laload {a n : Nat} {f : Nat → Int64} {i : Int32} (hd : decode y.2.1 pc = .ok (.laload, 1)) (hc : h.2 a = some (.inl (2, n, .inr (.inl f)))) (hin : vp_in i n) (kk : V G y d rc rs (pc + 1) lv (.long (f i.toNatClampNeg) :: st) h Q) : V G y d rc rs pc lv (.int i :: .ref a :: st) h Q := by
  intro p e R s m args below meth c H locs cells slots mc ms ls QQ hF hR hc' hs hE hl hr hS
  exact va_lald hF.1 hF.2.1 hF.2.2.2.2.2.2.2.1.1 (hr.P1 hc) 0 2 rfl rfl hin hd (kk p e R s m args below meth c H locs cells slots mc ms ls QQ hF hR hc' hs hE hl hr hS)
theorem V_daload {a n : Nat} {f : Nat → UInt64} {i : Int32} (hd : decode y.2.1 pc = .ok (.daload, 1)) (hc : h.2 a = some (.inl (3, n, .inr (.inr (.inr (.inl f)))))) (hin : vp_in i n) (kk : V G y d rc rs (pc + 1) lv (.double (f i.toNatClampNeg) :: st) h Q) : V G y d rc rs pc lv (.int i :: .ref a :: st) h Q := by
  intro p e R s m args below meth c H locs cells slots mc ms ls QQ hF hR hc' hs hE hl hr hS
  exact va_dald hF.1 hF.2.1 hF.2.2.2.2.2.2.2.1.1 (hr.P1 hc) 0 3 rfl rfl hin hd (kk p e R s m args below meth c H locs cells slots mc ms ls QQ hF hR hc' hs hE hl hr hS)
theorem V_baload {a n : Nat} {f : Nat → Int32} {i : Int32} (hd : decode y.2.1 pc = .ok (.baload, 1)) (hc : h.2 a = some (.inl (4, n, .inl f))) (hin : vp_in i n) (kk : V G y d rc rs (pc + 1) lv (.int (f i.toNatClampNeg) :: st) h Q) : V G y d rc rs pc lv (.int i :: .ref a :: st) h Q := by
  intro p e R s m args below meth c H locs cells slots mc ms ls QQ hF hR hc' hs hE hl hr hS
  exact va_bald hF.1 hF.2.1 hF.2.2.2.2.2.2.2.1.1 (hr.P1 hc) 0 4 rfl rfl hin hd (kk p e R s m args below meth c H locs cells slots mc ms ls QQ hF hR hc' hs hE hl hr hS)
theorem V_aaload5 {a n : Nat} {f : Nat → Option Nat} {i : Int32} (hd : decode y.2.1 pc = .ok (.aaload, 1)) (hc : h.2 a = some (.inl (5, n, .inr (.inr (.inr (.inr f)))))) (hin : vp_in i n) (kk : V G y d rc rs (pc + 1) lv (va_rf (f i.toNatClampNeg) :: st) h Q) : V G y d rc rs pc lv (.int i :: .ref a :: st) h Q := by
  intro p e R s m args below meth c H locs cells slots mc ms ls QQ hF hR hc' hs hE hl hr hS
  exact va_aldq hF.1 hF.2.1 hF.2.2.2.2.2.2.2.1.1 (hr.P1 hc) 0 5 rfl rfl hin hd (kk p e R s m args below meth c H locs cells slots mc ms ls QQ hF hR hc' hs hE hl hr hS)
theorem V_aaload6 {a n : Nat} {f : Nat → Option Nat} {i : Int32} (hd : decode y.2.1 pc = .ok (.aaload, 1)) (hc : h.2 a = some (.inl (6, n, .inr (.inr (.inr (.inr f)))))) (hin : vp_in i n) (kk : V G y d rc rs (pc + 1) lv (va_rf (f i.toNatClampNeg) :: st) h Q) : V G y d rc rs pc lv (.int i :: .ref a :: st) h Q := by
  intro p e R s m args below meth c H locs cells slots mc ms ls QQ hF hR hc' hs hE hl hr hS
  exact va_aldq hF.1 hF.2.1 hF.2.2.2.2.2.2.2.1.1 (hr.P1 hc) 0 6 rfl rfl hin hd (kk p e R s m args below meth c H locs cells slots mc ms ls QQ hF hR hc' hs hE hl hr hS)
theorem V_aaload7 {a n : Nat} {f : Nat → Option Nat} {i : Int32} (hd : decode y.2.1 pc = .ok (.aaload, 1)) (hc : h.2 a = some (.inl (7, n, .inr (.inr (.inr (.inr f)))))) (hin : vp_in i n) (kk : V G y d rc rs (pc + 1) lv (va_rf (f i.toNatClampNeg) :: st) h Q) : V G y d rc rs pc lv (.int i :: .ref a :: st) h Q := by
  intro p e R s m args below meth c H locs cells slots mc ms ls QQ hF hR hc' hs hE hl hr hS
  exact va_aldq hF.1 hF.2.1 hF.2.2.2.2.2.2.2.1.1 (hr.P1 hc) 0 7 rfl rfl hin hd (kk p e R s m args below meth c H locs cells slots mc ms ls QQ hF hR hc' hs hE hl hr hS)
theorem V_iastore {a n : Nat} {f : Nat → Int32} {i : Int32} {x : Int32} (hd : decode y.2.1 pc = .ok (.iastore, 1)) (hc : h.2 a = some (.inl (0, n, .inl f))) (hin : vp_in i n) (kk : V G y d rc rs (pc + 1) lv st (hput h a (.inl (0, n, .inl (upd f i.toNatClampNeg x)))) Q) : V G y d rc rs pc lv (.int x :: .int i :: .ref a :: st) h Q := by
  intro p e R s m args below meth c H locs cells slots mc ms ls QQ hF hR hc' hs hE hl hr hS
  have hA : Fz G a := (hr.2.2 a _ hc).1
  have hK := hF.2.2.2.2.2.2.2.1.1
  refine W.iast hF.1 hF.2.1 (hr.same hc) ((hK.2 0 _ rfl).1 n (fun j => .int (f j))) (fun q => by cases q) (by show ¬ (i < 0 ∨ (arrV _ _ _).slots.size ≤ _); rw [arrV_size]; exact hin) rfl rfl hd fun H1 e' z oq => ?_
  refine kk p e R s m args below meth c H1 _ cells slots mc ms ls QQ hF hR hc' hs hE hl (hr.put hc ?_ z oq) (hS.put z oq hA)
  show H1[a]? = some (vp_cell _ _)
  rw [e']
  show some ((vp_cell _ _).setSlot _ _) = some (vp_cell _ _)
  rw [vp_cell_i, vp_cell_i, arrV_store]
  congr 2
  funext q
  by_cases hq : q = i.toNatClampNeg
  · subst hq
    simp [updV, upd, vp_nar]
    try rfl
  · simp [updV, upd, hq]
theorem V_castore {a n : Nat} {f : Nat → Int32} {i : Int32} {x : Int32} (hd : decode y.2.1 pc = .ok (.castore, 1)) (hc : h.2 a = some (.inl (1, n, .inl f))) (hin : vp_in i n) (kk : V G y d rc rs (pc + 1) lv st (hput h a (.inl (1, n, .inl (upd f i.toNatClampNeg (vp_nar .char x))))) Q) : V G y d rc rs pc lv (.int x :: .int i :: .ref a :: st) h Q := by
  intro p e R s m args below meth c H locs cells slots mc ms ls QQ hF hR hc' hs hE hl hr hS
  have hA : Fz G a := (hr.2.2 a _ hc).1
  have hK := hF.2.2.2.2.2.2.2.1.1
  refine W.cast hF.1 hF.2.1 (hr.same hc) ((hK.2 1 _ rfl).1 n (fun j => .int (f j))) (fun q => by cases q) (by show ¬ (i < 0 ∨ (arrV _ _ _).slots.size ≤ _); rw [arrV_size]; exact hin) rfl rfl hd fun H1 e' z oq => ?_
  refine kk p e R s m args below meth c H1 _ cells slots mc ms ls QQ hF hR hc' hs hE hl (hr.put hc ?_ z oq) (hS.put z oq hA)
  show H1[a]? = some (vp_cell _ _)
  rw [e']
  show some ((vp_cell _ _).setSlot _ _) = some (vp_cell _ _)
  rw [vp_cell_i, vp_cell_i, arrV_store]
  congr 2
  funext q
  by_cases hq : q = i.toNatClampNeg
  · subst hq
    simp [updV, upd, vp_nar]
    try rfl
  · simp [updV, upd, hq]
theorem V_bastore {a n : Nat} {f : Nat → Int32} {i : Int32} {x : Int32} (hd : decode y.2.1 pc = .ok (.bastore, 1)) (hc : h.2 a = some (.inl (4, n, .inl f))) (hin : vp_in i n) (kk : V G y d rc rs (pc + 1) lv st (hput h a (.inl (4, n, .inl (upd f i.toNatClampNeg (vp_nar .byte x))))) Q) : V G y d rc rs pc lv (.int x :: .int i :: .ref a :: st) h Q := by
  intro p e R s m args below meth c H locs cells slots mc ms ls QQ hF hR hc' hs hE hl hr hS
  have hA : Fz G a := (hr.2.2 a _ hc).1
  have hK := hF.2.2.2.2.2.2.2.1.1
  refine W.bast hF.1 hF.2.1 (hr.same hc) ((hK.2 4 _ rfl).1 n (fun j => .int (f j))) (fun q => by cases q) (by show ¬ (i < 0 ∨ (arrV _ _ _).slots.size ≤ _); rw [arrV_size]; exact hin) rfl rfl hd fun H1 e' z oq => ?_
  refine kk p e R s m args below meth c H1 _ cells slots mc ms ls QQ hF hR hc' hs hE hl (hr.put hc ?_ z oq) (hS.put z oq hA)
  show H1[a]? = some (vp_cell _ _)
  rw [e']
  show some ((vp_cell _ _).setSlot _ _) = some (vp_cell _ _)
  rw [vp_cell_i, vp_cell_i, arrV_store]
  congr 2
  funext q
  by_cases hq : q = i.toNatClampNeg
  · subst hq
    simp [updV, upd, vp_nar]
    try rfl
  · simp [updV, upd, hq]
theorem V_lastore {a n : Nat} {f : Nat → Int64} {i : Int32} {x : Int64} (hd : decode y.2.1 pc = .ok (.lastore, 1)) (hc : h.2 a = some (.inl (2, n, .inr (.inl f)))) (hin : vp_in i n) (kk : V G y d rc rs (pc + 1) lv st (hput h a (.inl (2, n, .inr (.inl (vp_updL f i.toNatClampNeg x))))) Q) : V G y d rc rs pc lv (.long x :: .int i :: .ref a :: st) h Q := by
  intro p e R s m args below meth c H locs cells slots mc ms ls QQ hF hR hc' hs hE hl hr hS
  have hA : Fz G a := (hr.2.2 a _ hc).1
  have hK := hF.2.2.2.2.2.2.2.1.1
  refine W.last hF.1 hF.2.1 (hr.same hc) ((hK.2 2 _ rfl).1 n (fun j => .long (f j))) (fun q => by cases q) (by show ¬ (i < 0 ∨ (arrV _ _ _).slots.size ≤ _); rw [arrV_size]; exact hin) rfl rfl hd fun H1 e' z oq => ?_
  refine kk p e R s m args below meth c H1 _ cells slots mc ms ls QQ hF hR hc' hs hE hl (hr.put hc ?_ z oq) (hS.put z oq hA)
  show H1[a]? = some (vp_cell _ _)
  rw [e']
  show some ((vp_cell _ _).setSlot _ _) = some (vp_cell _ _)
  rw [vp_cell_l, vp_cell_l, arrV_store]
  congr 2
  funext q
  by_cases hq : q = i.toNatClampNeg
  · subst hq
    simp [updV, vp_updL, vp_nar]
    try rfl
  · simp [updV, vp_updL, hq]
theorem V_dastore {a n : Nat} {f : Nat → UInt64} {i : Int32} {x : UInt64} (hd : decode y.2.1 pc = .ok (.dastore, 1)) (hc : h.2 a = some (.inl (3, n, .inr (.inr (.inr (.inl f)))))) (hin : vp_in i n) (kk : V G y d rc rs (pc + 1) lv st (hput h a (.inl (3, n, .inr (.inr (.inr (.inl (vf_upd f i.toNatClampNeg x))))))) Q) : V G y d rc rs pc lv (.double x :: .int i :: .ref a :: st) h Q := by
  intro p e R s m args below meth c H locs cells slots mc ms ls QQ hF hR hc' hs hE hl hr hS
  have hA : Fz G a := (hr.2.2 a _ hc).1
  have hK := hF.2.2.2.2.2.2.2.1.1
  refine W.dast hF.1 hF.2.1 (hr.same hc) ((hK.2 3 _ rfl).1 n (fun j => .double (f j))) (fun q => by cases q) (by show ¬ (i < 0 ∨ (arrV _ _ _).slots.size ≤ _); rw [arrV_size]; exact hin) rfl rfl hd fun H1 e' z oq => ?_
  refine kk p e R s m args below meth c H1 _ cells slots mc ms ls QQ hF hR hc' hs hE hl (hr.put hc ?_ z oq) (hS.put z oq hA)
  show H1[a]? = some (vp_cell _ _)
  rw [e']
  show some ((vp_cell _ _).setSlot _ _) = some (vp_cell _ _)
  rw [vp_cell_d, vp_cell_d, arrV_store]
  congr 2
  funext q
  by_cases hq : q = i.toNatClampNeg
  · subst hq
    simp [updV, vf_upd, vp_nar]
    try rfl
  · simp [updV, vf_upd, hq]
theorem V_alen {a : Nat} {t : Nat} {x : vp_A} (hd : decode y.2.1 pc = .ok (.arraylength, 1)) (hc : h.2 a = some (.inl (t, x))) (ht : t < 8) (kk : V G y d rc rs (pc + 1) lv (.int (nI x.1) :: st) h Q) : V G y d rc rs pc lv (.ref a :: st) h Q := by
  intro p e R s m args below meth c H locs cells slots mc ms ls QQ hF hR hc' hs hE hl hr hS
  refine va_alen (tys := tysG G) hF.1 hF.2.1 hF.2.2.2.2.2.2.2.1.1 (hr.P1 hc) 0 t rfl (ty := tyOf t) ?_ rfl hd (kk p e R s m args below meth c H locs cells slots mc ms ls QQ hF hR hc' hs hE hl hr hS)
  rcases (show t = 0 ∨ t = 1 ∨ t = 2 ∨ t = 3 ∨ t = 4 ∨ t = 5 ∨ t = 6 ∨ t = 7 by omega) with rfl | rfl | rfl | rfl | rfl | rfl | rfl | rfl <;> rfl
theorem V_ialoadS {a n : Nat} {f : Nat → Int32} {i : Int32} (hd : decode y.2.1 pc = .ok (.iaload, 1)) (hc : smG G a = some (.inl (0, n, .inl f))) (hin : vp_in i n) (kk : V G y d rc rs (pc + 1) lv (.int (f i.toNatClampNeg) :: st) h Q) : V G y d rc rs pc lv (.int i :: .ref a :: st) h Q := by
  intro p e R s m args below meth c H locs cells slots mc ms ls QQ hF hR hc' hs hE hl hr hS
  obtain ⟨cell, q1, q2, q3, q4, q5, q6, q7⟩ := (show va_T (tyOf 0) a n (fun j => .int (f j)) (Fz G) s G.2.2.1 from hF.2.2.2.2.2.2.2.1.2.2.1 a _ hc)
  have hlt : a < b0 G := Nat.not_le.mp q7
  exact W.iald hF.1 hF.2.1 (cell := cell) (by rw [hr.2.1.2 a hlt]; exact q1) q2 q3 (fun q => hin (q.elim Or.inl (fun q => Or.inr (Nat.le_trans q4 q)))) (q6 _ (Nat.not_le.mp fun q => hin (Or.inr q))) rfl rfl hd (kk p e R s m args below meth c H locs cells slots mc ms ls QQ hF hR hc' hs hE hl hr hS)
theorem V_baloadS {a n : Nat} {f : Nat → Int32} {i : Int32} (hd : decode y.2.1 pc = .ok (.baload, 1)) (hc : smG G a = some (.inl (4, n, .inl f))) (hin : vp_in i n) (kk : V G y d rc rs (pc + 1) lv (.int (f i.toNatClampNeg) :: st) h Q) : V G y d rc rs pc lv (.int i :: .ref a :: st) h Q := by
  intro p e R s m args below meth c H locs cells slots mc ms ls QQ hF hR hc' hs hE hl hr hS
  obtain ⟨cell, q1, q2, q3, q4, q5, q6, q7⟩ := (show va_T (tyOf 4) a n (fun j => .int (f j)) (Fz G) s G.2.2.1 from hF.2.2.2.2.2.2.2.1.2.2.1 a _ hc)
  have hlt : a < b0 G := Nat.not_le.mp q7
  exact W.bald hF.1 hF.2.1 (cell := cell) (by rw [hr.2.1.2 a hlt]; exact q1) q2 q3 (fun q => hin (q.elim Or.inl (fun q => Or.inr (Nat.le_trans q4 q)))) (q6 _ (Nat.not_le.mp fun q => hin (Or.inr q))) rfl rfl hd (kk p e R s m args below meth c H locs cells slots mc ms ls QQ hF hR hc' hs hE hl hr hS)
theorem V_aaloadS {a n t : Nat} {f : Nat → Option Nat} {i : Int32} (hd : decode y.2.1 pc = .ok (.aaload, 1)) (hc : smG G a = some (.inl (t, n, .inr (.inr (.inr (.inr f)))))) (hin : vp_in i n) (kk : V G y d rc rs (pc + 1) lv (va_rf (f i.toNatClampNeg) :: st) h Q) : V G y d rc rs pc lv (.int i :: .ref a :: st) h Q := by
  intro p e R s m args below meth c H locs cells slots mc ms ls QQ hF hR hc' hs hE hl hr hS
  obtain ⟨q0, cell, q1, q2, q3, q4, q5, q6, q7⟩ := (show (tyOf t).isReference = true ∧ va_T (tyOf t) a n (fun j => va_rf (f j)) (Fz G) s G.2.2.1 from hF.2.2.2.2.2.2.2.1.2.2.1 a _ hc)
  have hlt : a < b0 G := Nat.not_le.mp q7
  exact W.aald hF.1 hF.2.1 (cell := cell) (by rw [hr.2.1.2 a hlt]; exact q1) q2 q0 q3 (fun q => hin (q.elim Or.inl (fun q => Or.inr (Nat.le_trans q4 q)))) (q6 _ (Nat.not_le.mp fun q => hin (Or.inr q))) rfl rfl hd (kk p e R s m args below meth c H locs cells slots mc ms ls QQ hF hR hc' hs hE hl hr hS)
theorem V_alenS {a n t : Nat} {f : (Nat → Int32) ⊕ (Nat → Int64) ⊕ (Nat → UInt32) ⊕ (Nat → UInt64) ⊕ (Nat → Option Nat)} (hd : decode y.2.1 pc = .ok (.arraylength, 1)) (hc : smG G a = some (.inl (t, n, f))) (kk : V G y d rc rs (pc + 1) lv (.int (nI n) :: st) h Q) : V G y d rc rs pc lv (.ref a :: st) h Q := by
  intro p e R s m args below meth c H locs cells slots mc ms ls QQ hF hR hc' hs hE hl hr hS
  have hst := hF.2.2.2.2.2.2.2.1.2.2.1 a _ hc
  have key : ∃ g, va_T (tyOf t) a n g (Fz G) s G.2.2.1 := by
    rcases f with f | f | f | f | f
    · exact ⟨_, hst⟩
    · exact hst.elim
    · exact hst.elim
    · exact hst.elim
    · exact ⟨_, hst.2⟩
  obtain ⟨g, cell, q1, q2, q3, q4, q5, q6, q7⟩ := key
  have hlt : a < b0 G := Nat.not_le.mp q7
  exact W.alen hF.1 hF.2.1 (cell := cell) (by rw [hr.2.1.2 a hlt]; exact q1) q2 q5 rfl rfl hd (kk p e R s m args below meth c H locs cells slots mc ms ls QQ hF hR hc' hs hE hl hr hS)
theorem V_getstatic {idx : Nat} {v : Value} (hd : decode y.2.1 pc = .ok (.getstatic idx, 3)) (hv : svG G y.2.2.2.2.2 idx = some v) (kk : V G y d rc rs (pc + 3) lv (v :: st) h Q) : V G y d rc rs pc lv st h Q := by
  intro p e R s m args below meth c H locs cells slots mc ms ls QQ hF hR hc' hs hE hl hr hS
  obtain ⟨C, n, dd, hz, hlk⟩ := hF.2.2.2.2.2.2.2.1.2.2.2.1 _ _ _ hv
  have hS' : va_S (Fz G) G.2.2.1 H [] := ⟨hr.2.1.1, fun q hq _ => hr.2.1.2 q hq, fun _ hx => nomatch hx⟩
  have hz' : va_Z C n dd v (Fz G) s s.heap := hz.kept (fun q hq _ => hF.2.2.2.2.2.2.2.2.1.2 q hq)
  rcases hlk with hlk | ⟨host, hlk⟩
  · exact va_gets hF.1 hF.2.1 hz' hS hF.2.2.2.2.1 (hF.2.2.2.2.2.1 _ hlk) (fun _ h => h) hd (kk p e R s m args below meth c H locs cells slots mc ms ls QQ hF hR hc' hs hE hl hr hS)
  · exact va_getsN hF.1 hF.2.1 hz' hS hF.2.2.2.2.1 (va_Nw.use rfl hlk) (fun _ h => h) hd (kk p e R s m args below meth c H locs cells slots mc ms ls QQ hF hR hc' hs hE hl hr hS)
theorem V_ldcS {idx q : Nat} (hd : decode y.2.1 pc = .ok (.ldc idx, 2)) (hv : ssG G y.2.2.2.2.2 idx = some q) (kk : V G y d rc rs (pc + 2) lv (.ref q :: st) h Q) : V G y d rc rs pc lv st h Q := by
  intro p e R s m args below meth c H locs cells slots mc ms ls QQ hF hR hc' hs hE hl hr hS
  obtain ⟨tx, hz⟩ := hF.2.2.2.2.2.2.2.1.2.2.2.2.1 _ _ _ hv
  exact va_ldcS hF.1 hF.2.1 hF.2.2.2.2.1 hz hd (kk p e R s m args below meth c H locs cells slots mc ms ls QQ hF hR hc' hs hE hl hr hS)
theorem V_ldc {idx : Nat} {v : Int32} (hd : decode y.2.1 pc = .ok (.ldc idx, 2)) (hv : Cond.constant (RN y.2.2.2.2.2) idx v ∈ GW) (kk : V G y d rc rs (pc + 2) lv (.int v :: st) h Q) : V G y d rc rs pc lv st h Q := by
  intro p e R s m args below meth c H locs cells slots mc ms ls QQ hF hR hc' hs hE hl hr hS
  exact lv_ldc hF.1 hF.2.1 hF.2.2.2.2.1 (hF.2.2.2.2.2.1 _ hv) hd (kk p e R s m args below meth c H locs cells slots mc ms ls QQ hF hR hc' hs hE hl hr hS)
end VHEAP
