/-! ===== printed by a program: one step of the clean machine as a proposition, and why it is enough ===== -/
def bI (n : Int) : Int32 := (Int8.ofInt n).toInt32
def sI (n : Int) : Int32 := (Int16.ofInt n).toInt32
def lkI (n : Fin 2) : Int64 := Int64.ofNat (n : Nat)
def fv (i : Fin 4) : Nat := (i : Nat)
theorem fv_0 : fv 0 = 0 := rfl
theorem fv_1 : fv 1 = 1 := rfl
theorem fv_2 : fv 2 = 2 := rfl
theorem fv_3 : fv 3 = 3 := rfl
theorem lkI_0 : lkI 0 = lN 0 := rfl
theorem lkI_1 : lkI 1 = lN 1 := rfl
def ws_get (c : Option va_E) (ci k : Nat) (P : Value → Prop) : Prop := match c with
  | some (.inr (c9, fs)) => c9 = ci ∧ match fs[k]? with
    | some v => P v
    | none => False
  | _ => False
theorem ws_get_ok {c : Option va_E} {ci k : Nat} {P : Value → Prop} (h : ws_get c ci k P) : ∃ fs v, c = some (.inr (ci, fs)) ∧ fs[k]? = some v ∧ P v := by
  unfold ws_get at h
  split at h
  · obtain ⟨rfl, h⟩ := h
    split at h
    · rename_i fs x9 v hv; exact ⟨fs, v, rfl, hv, h⟩
    · exact h.elim
  · exact h.elim
def ws_put (c : Option va_E) (ci k : Nat) (P : List Value → Prop) : Prop := match c with
  | some (.inr (c9, fs)) => c9 = ci ∧ k < fs.length ∧ P fs
  | _ => False
theorem ws_put_ok {c : Option va_E} {ci k : Nat} {P : List Value → Prop} (h : ws_put c ci k P) : ∃ fs, c = some (.inr (ci, fs)) ∧ k < fs.length ∧ P fs := by
  unfold ws_put at h
  split at h
  · obtain ⟨rfl, h1, h2⟩ := h; exact ⟨_, rfl, h1, h2⟩
  · exact h.elim
def ws_cell (G : GT) (h : Hp) (st : List Value) : Option va_E := match st with
  | .int _ :: .ref a :: _ => cellOf G h a
  | _ => none
def ws_cell1 (G : GT) (h : Hp) (st : List Value) : Option va_E := match st with
  | .ref a :: _ => cellOf G h a
  | _ => none
def ws_hcell (h : Hp) (st : List Value) : Option va_E := match st with
  | .int _ :: .ref a :: _ => h.2 a
  | _ => none
def ws_hcell3 (h : Hp) (st : List Value) : Option va_E := match st with
  | _ :: .int _ :: .ref a :: _ => h.2 a
  | _ => none
def ws_hcell1 (h : Hp) (st : List Value) : Option va_E := match st with
  | .ref a :: _ => h.2 a
  | _ => none
theorem cellOf_or {G : GT} {h : Hp} {a : Nat} {e : va_E} (he : cellOf G h a = some e) : h.2 a = some e ∨ smG G a = some e := by
  unfold cellOf at he
  split at he
  · rename_i e9 h9; cases he; exact Or.inl h9
  · exact Or.inr he
def zrow (t k : Nat) : vp_A := match t with
  | 2 => (k, .inr (.inl (fun _ => lN 0)))
  | 3 => (k, .inr (.inr (.inr (.inl (fun _ => 0)))))
  | _ => (k, .inl (fun _ => nI 0))
theorem zrow_ok {t n : Nat} (h : t < 5) : ∀ cA : ClassId, vp_cell cA (zrow t n) = arrV cA n (fun _ => defaultValue (tyOf t)) := by
  intro cA
  rcases (show t = 0 ∨ t = 1 ∨ t = 2 ∨ t = 3 ∨ t = 4 by omega) with rfl | rfl | rfl | rfl | rfl <;> rfl
def atNo : ArrayType → Option Nat
  | .int => some 0 | .char => some 1 | .long => some 2 | .double => some 3 | .byte => some 4 | _ => none
theorem atNo_ok {a : ArrayType} {t : Nat} (h : atNo a = some t) : t < 5 ∧ a = atOf t ∧ Cond.arrayClass (tyOf t) ∈ GW := by
  cases a <;> first | (cases h; done) | (cases h; first | exact ⟨by decide, rfl, g1_80⟩ | exact ⟨by decide, rfl, g1_81⟩ | exact ⟨by decide, rfl, g8_85⟩ | exact ⟨by decide, rfl, g8_86⟩ | exact ⟨by decide, rfl, g1_208⟩)
def AN (cn idx : Nat) : Option Nat := match cn, idx with
  | 2, 11 => some 6
  | 6, 9 => some 5
  | 5, 15 => some 7
  | _, _ => none
theorem AN_ok {cn idx t : Nat} (h : AN cn idx = some t) : ∃ C, t < 8 ∧ tyOf t = .object C ∧ Cond.classLink (RN cn) idx C ∈ GW ∧ C ∈ AOL := by
  unfold AN at h
  split at h
  · cases h; exact ⟨_, by decide, rfl, g1_105, by decide +kernel⟩
  · cases h; exact ⟨_, by decide, rfl, g1_48, by decide +kernel⟩
  · cases h; exact ⟨_, by decide, rfl, g1_125, by decide +kernel⟩
  · cases h
def XL (cn idx : Nat) : Option (String × Nat) := match cn with
  | 7 => (XCL.find? (fun q => q.2.1 == idx)).map (fun q => (q.1, q.2.2))
  | _ => none
theorem XL_ok {cn idx ic : Nat} {E : String} (h : XL cn idx = some (E, ic)) : cn = 7 ∧ (E, idx, ic) ∈ XCL := by
  unfold XL at h
  split at h
  · cases hf : XCL.find? (fun q => q.2.1 == idx) with
    | none => rw [hf] at h; cases h
    | some q =>
      rw [hf] at h
      cases h
      have h1 := List.find?_some hf
      have h2 := List.mem_of_find?_eq_some hf
      obtain ⟨a, b, c⟩ := q
      simp only [beq_iff_eq] at h1
      subst h1
      exact ⟨rfl, h2⟩
  · cases h
def ws_throw (G : GT) (y : MD) (d : Nat) (Q : RT → Hp → Prop) (rc rs pc : Nat) (st : List Value) (h : Hp) (ik : Nat) (E : String) (ic : Nat) : Prop :=
  (y.2.2.2.2.1 = none ∧ decode y.2.1 (pc + 3) = .ok (.dup, 1) ∧ 6 ≤ d ∧ catS st ≤ 8 ∧ 1 ≤ rc ∧ 6 ≤ rs ∧ ∀ z, h.1 ≤ z → Q (.inr E) (z, h.2)) ∧ match decode y.2.1 (pc + 4) with
  | .ok (.ldc is, 2) => decode y.2.1 (pc + 6) = .ok (.invokespecial ic, 3) ∧ decode y.2.1 (pc + 9) = .ok (.athrow, 1) ∧ (ssG G 7 is).isSome = true
  | .ok (.ldc_w is, 3) => decode y.2.1 (pc + 7) = .ok (.invokespecial ic, 3) ∧ decode y.2.1 (pc + 10) = .ok (.athrow, 1) ∧ (ssG G 7 is).isSome = true
  | _ => False
/-- the n arguments on the stack, in order -/
def popN : Nat → List Value → List Value → Option (List Value × List Value)
  | 0, acc, r => some (acc, r)
  | n + 1, acc, v :: r => popN n (v :: acc) r
  | _ + 1, _, [] => none
theorem popN_ok : ∀ (n : Nat) (acc st as r : List Value), popN n acc st = some (as, r) → ∃ bs : List Value, bs.length = n ∧ st = bs ++ r ∧ as = bs.reverse ++ acc
  | 0, acc, st, as, r, h => by cases h; exact ⟨[], rfl, rfl, rfl⟩
  | n + 1, acc, [], as, r, h => by cases h
  | n + 1, acc, v :: st, as, r, h => by
    obtain ⟨bs, h1, h2, h3⟩ := popN_ok n (v :: acc) st as r h
    exact ⟨v :: bs, by simp [h1], by rw [h2]; rfl, by rw [h3]; simp⟩
def clsAt (G : GT) (h : Hp) (b : Nat) : Nat := match h.2 b with
  | some (.inr (ci, _)) => if ci < 8 then cnOf ci else 99
  | some (.inl _) => 99
  | none => match smG G b with
    | some (.inr (ci, _)) => if ci < 8 then 99 else if ci < 10 then cnOf ci else 99
    | _ => 99
theorem clsAt_ok {G : GT} {h : Hp} {b cn : Nat} (hc : clsAt G h b = cn) (hn : cn ≠ 99) : rcv G h b (RN cn) := by
  unfold clsAt at hc
  split at hc
  · rename_i ci fs he
    by_cases h8 : ci < 8
    · rw [if_pos h8] at hc
      subst hc
      refine Or.inl ⟨ci, fs, CL.getD ci (RX1, TX1, 5), he, ?_, ?_⟩
      · rcases (show ci = 0 ∨ ci = 1 ∨ ci = 2 ∨ ci = 3 ∨ ci = 4 ∨ ci = 5 ∨ ci = 6 ∨ ci = 7 by omega) with rfl | rfl | rfl | rfl | rfl | rfl | rfl | rfl <;> rfl
      · rcases (show ci = 0 ∨ ci = 1 ∨ ci = 2 ∨ ci = 3 ∨ ci = 4 ∨ ci = 5 ∨ ci = 6 ∨ ci = 7 by omega) with rfl | rfl | rfl | rfl | rfl | rfl | rfl | rfl <;> rfl
    · rw [if_neg h8] at hc; exact absurd hc.symm hn
  · exact absurd hc.symm hn
  · split at hc
    · rename_i ci fs he
      by_cases h8 : ci < 8
      · rw [if_pos h8] at hc; exact absurd hc.symm hn
      · rw [if_neg h8] at hc
        by_cases h9 : ci < 10
        · rw [if_pos h9] at hc
          subst hc
          rcases (show ci = 8 + 0 ∨ ci = 8 + 1 by omega) with rfl | rfl
          · exact Or.inr ⟨0, fs, _, he, rfl, rfl⟩
          · exact Or.inr ⟨1, fs, _, he, rfl, rfl⟩
        · rw [if_neg h9] at hc; exact absurd hc.symm hn
    · exact absurd hc.symm hn
theorem gOI1 : Cond.instanceMethod objectInit ∈ GW := g1_40
theorem gOI2 : Cond.code objectInit ⟨#[0xb1]⟩ 1 none ∈ GW := g1_41
theorem gAC1 : Cond.native arraycopyName ∈ GW := g2_55
theorem gAC2 : Cond.static arraycopyName ∈ GW := g2_54
theorem gAC3 : Cond.initialized "java/lang/System" ∈ GW := g1_19
theorem gMN1 : Cond.static Lib.Math.min.name ∈ GW := g2_163
theorem gMX1 : Cond.static Lib.Math.max.name ∈ GW := g2_145
theorem gMM : Cond.initialized "java/lang/Math" ∈ GW := g1_24
theorem gMN2 : Cond.code Lib.Math.min.name Lib.Math.min.code 2 (some .int) ∈ GW := g2_164
theorem gMX2 : Cond.code Lib.Math.max.name Lib.Math.max.code 2 (some .int) ∈ GW := g2_146
theorem MTL_cn : ∀ q ∈ MTL, q.2.2.1.1.cls = RN q.2.2.1.2.2.2.2.2 := by decide +kernel
theorem MT_cn {cn idx k n : Nat} {y : MD} (h : MT cn idx = some (k, y, n)) : y.1.cls = RN y.2.2.2.2.2 := by
  unfold MT at h
  cases hf : MTL.find? (fun q => q.1.1 == cn && q.1.2 == idx) with
  | none => rw [hf] at h; cases h
  | some q =>
    rw [hf] at h
    have h9 : q.2 = (k, y, n) := Option.some.inj h
    have h8 := MTL_cn q (List.mem_of_find?_eq_some hf)
    rw [h9] at h8
    exact h8
def retok (ty : FieldType) (x : Int32) : Prop := match ty with
  | .int => True
  | .boolean => x = nI 0 ∨ x = nI 1
  | .char => ∃ q, q < 65536 ∧ x = nI q
  | .byte => narrow .byte (.int x) = .int x
  | _ => False
theorem retok_ok {ty : FieldType} {x : Int32} (h : retok ty x) : narrow ty (.int x) = .int x := by
  cases ty <;> first | (exact h.elim) | skip
  · exact h
  · obtain ⟨q, hq, rfl⟩ := h
    exact (pk_charN hq).1
  · exact rfl
  · rcases h with rfl | rfl <;> decide +kernel
abbrev KT : Type := Nat → Nat → Nat → LL → List Value → Hp → Prop
def ws_oi (d : Nat) (K : KT) (rc rs pc : Nat) (lv : LL) (st : List Value) (h : Hp) : Prop := match st with
  | .ref _ :: r => 1 ≤ d ∧ catS r ≤ 8 ∧ K rc rs (pc + 3) lv r h
  | _ => False
theorem ws_oi_ok {d : Nat} {K : KT} {rc rs pc : Nat} {lv : LL} {st : List Value} {h : Hp} (hw : ws_oi d K rc rs pc lv st h) : ∃ a r, st = .ref a :: r ∧ 1 ≤ d ∧ catS r ≤ 8 ∧ K rc rs (pc + 3) lv r h := by
  unfold ws_oi at hw
  split at hw
  · exact ⟨_, _, rfl, hw.1, hw.2.1, hw.2.2⟩
  · exact hw.elim
def ws_mm (f : Int32 → Int32 → Int32) (d : Nat) (K : KT) (rc rs pc : Nat) (lv : LL) (st : List Value) (h : Hp) : Prop := match st with
  | .int b :: .int a :: r => 1 ≤ d ∧ catS r ≤ 8 ∧ K rc rs (pc + 3) lv (.int (f a b) :: r) h
  | _ => False
theorem ws_mm_ok {f : Int32 → Int32 → Int32} {d : Nat} {K : KT} {rc rs pc : Nat} {lv : LL} {st : List Value} {h : Hp} (hw : ws_mm f d K rc rs pc lv st h) : ∃ a b r, st = .int b :: .int a :: r ∧ 1 ≤ d ∧ catS r ≤ 8 ∧ K rc rs (pc + 3) lv (.int (f a b) :: r) h := by
  unfold ws_mm at hw
  split at hw
  · exact ⟨_, _, _, rfl, hw.1, hw.2.1, hw.2.2⟩
  · exact hw.elim
def cpfit (t : Nat) (f : Nat → Int32) (sp n : Nat) : Prop := match t with
  | 0 => True
  | _ => ∀ i, i < n → fits (tyOf t) (.int (f (sp + i))) = true
def ws_ac (d : Nat) (K : KT) (rc rs pc : Nat) (lv : LL) (st : List Value) (h : Hp) : Prop := match st with
  | .int n :: .int dp :: .ref a :: .int sp :: .ref a0 :: r => match h.2 a0, h.2 a with
    | some (.inl (t0, n0, .inl f)), some (.inl (t, n1, .inl g)) => (t0 = t ∧ (t = 0 ∨ t = 1 ∨ t = 4)) ∧ (¬ sp < 0 ∧ ¬ dp < 0 ∧ ¬ n < 0) ∧ sp.toNatClampNeg + n.toNatClampNeg ≤ n0 ∧ dp.toNatClampNeg + n.toNatClampNeg ≤ n1 ∧ cpfit t f sp.toNatClampNeg n.toNatClampNeg ∧ 1 ≤ d ∧ catS r ≤ 8 ∧ K rc rs (pc + 3) lv r (hput h a (.inl (t, n1, .inl (va_cpy f g sp.toNatClampNeg dp.toNatClampNeg n.toNatClampNeg))))
    | _, _ => False
  | _ => False
theorem ws_ac_ok {d : Nat} {K : KT} {rc rs pc : Nat} {lv : LL} {st : List Value} {h : Hp} (hw : ws_ac d K rc rs pc lv st h) : ∃ (n dp : Int32) (a : Nat) (sp : Int32) (a0 : Nat) (r : List Value) (t n0 n1 : Nat) (f g : Nat → Int32), st = .int n :: .int dp :: .ref a :: .int sp :: .ref a0 :: r ∧ (t = 0 ∨ t = 1 ∨ t = 4) ∧ h.2 a0 = some (.inl (t, n0, .inl f)) ∧ h.2 a = some (.inl (t, n1, .inl g)) ∧ ¬ sp < 0 ∧ ¬ dp < 0 ∧ ¬ n < 0 ∧ sp.toNatClampNeg + n.toNatClampNeg ≤ n0 ∧ dp.toNatClampNeg + n.toNatClampNeg ≤ n1 ∧ (∀ i, i < n.toNatClampNeg → fits (tyOf t) (.int (f (sp.toNatClampNeg + i))) = true) ∧ 1 ≤ d ∧ catS r ≤ 8 ∧ K rc rs (pc + 3) lv r (hput h a (.inl (t, n1, .inl (va_cpy f g sp.toNatClampNeg dp.toNatClampNeg n.toNatClampNeg)))) := by
  unfold ws_ac at hw
  split at hw
  · split at hw
    · rename_i t0 n0 f t n1 g e0 e1
      obtain ⟨⟨rfl, h1⟩, ⟨h2, h3, h4⟩, h5, h6, h7, h8, h9, h10⟩ := hw
      refine ⟨_, _, _, _, _, _, t0, n0, n1, f, g, rfl, h1, e0, e1, h2, h3, h4, h5, h6, fun i hi => ?_, h8, h9, h10⟩
      rcases h1 with rfl | rfl | rfl
      · rfl
      · exact h7 i hi
      · exact h7 i hi
    · exact hw.elim
  · exact hw.elim
def ws_exc (G : GT) (y : MD) (d : Nat) (Q : RT → Hp → Prop) (rc rs pc : Nat) (lv : LL) (E : String) (h : Hp) : Prop := match y.2.2.2.2.1 with
  | none => Q (.inr E) h
  | some _ => VX G y d rc rs pc lv E h Q
def ws_post (G : GT) (y : MD) (d : Nat) (Q : RT → Hp → Prop) (K : KT) (rc rs pc : Nat) (lv : LL) (r : List Value) (o : RT) (h' : Hp) : Prop := match o with
  | .inl v => K rc rs (pc + 3) lv (v.toList ++ r) h'
  | .inr E => ws_exc G y d Q rc rs pc lv E h'
theorem ws_exc_ok {G : GT} {y : MD} {d : Nat} {Q : RT → Hp → Prop} {rc rs pc : Nat} {lv : LL} {E : String} {h : Hp} (hw : ws_exc G y d Q rc rs pc lv E h) : VX G y d rc rs pc lv E h Q := by
  unfold ws_exc at hw
  split at hw
  · rename_i he; exact VX_out he hw
  · exact hw
def rok (k c n : Nat) : Prop := match k with
  | 0 => c = n ∧ c ≠ 99
  | 2 => c ≠ 99
  | 4 => c ≠ 99
  | _ => c = 14
/-- a method's contract within what is left */ -/
def CtE (G : GT) (y : MD) (d rc rs : Nat) (av : List Value) (h : Hp) (P : Nat → Nat → RT → Hp → Prop) : Prop := ∃ d' mc' ms', d' < d ∧ mc' ≤ rc ∧ ms' ≤ rs ∧ Ct G y d' mc' ms' av h (P (rc - mc') (rs - ms'))
def ws_call (G : GT) (y : MD) (d : Nat) (Q : RT → Hp → Prop) (K : KT) (rc rs pc : Nat) (lv : LL) (st : List Value) (h : Hp) (kp : Nat → Prop) (mt : Option (Nat × MD × Nat)) : Prop := match mt with
  | some (k, y', n) => kp k ∧ match popN n [] st with
    | some (as, .ref b :: r) => rok k (clsAt G h b) y'.2.2.2.2.2 ∧ catS r ≤ 8 ∧ CtE G y' d rc rs (.ref b :: as) h (fun rc9 rs9 => ws_post G y d Q K rc9 rs9 pc lv r)
    | _ => False
  | none => False
def ws_callS (G : GT) (y : MD) (d : Nat) (Q : RT → Hp → Prop) (K : KT) (rc rs pc : Nat) (lv : LL) (st : List Value) (h : Hp) (mt : Option (Nat × MD × Nat)) : Prop := match mt with
  | some (k, y', n) => (k = 1 ∨ k = 3 ∨ k = 5) ∧ match popN n [] st with
    | some (as, r) => catS r ≤ 8 ∧ CtE G y' d rc rs as h (fun rc9 rs9 => ws_post G y d Q K rc9 rs9 pc lv r)
    | none => False
  | none => False
section WSOK
variable {G : GT} {y : MD} {d rc rs pc : Nat} {lv : LL} {st : List Value} {h : Hp} {Q : RT → Hp → Prop}
theorem ws_call_ok {K : KT} (hK : ∀ rc rs pc lv st h, K rc rs pc lv st h → V G y d rc rs pc lv st h Q) {idx : Nat} {kp : Nat → Prop} (hd : ∀ k, kp k → decode y.2.1 pc = .ok (if k = 2 ∨ k = 4 ∨ k = 7 then .invokespecial idx else .invokevirtual idx, 3)) (hkp : ∀ k, kp k → k = 0 ∨ k = 2 ∨ k = 4 ∨ k = 6 ∨ k = 7 ∨ k = 8)
    (hw : ws_call G y d Q K rc rs pc lv st h kp (MT y.2.2.2.2.2 idx)) : V G y d rc rs pc lv st h Q := by
  unfold ws_call at hw
  split at hw
  · rename_i k y' n he
    obtain ⟨h1, hw⟩ := hw
    split at hw
    · rename_i as b r hp
      obtain ⟨h2, h3, d', mc', ms', h4, h5, h6, h7⟩ := hw
      obtain ⟨bs, g1, g2, g3⟩ := popN_ok _ _ _ _ _ hp
      rw [List.append_nil] at g3
      have g4 : st = as.reverse ++ .ref b :: r := by rw [g2, g3, List.reverse_reverse]
      rw [g4]
      have hcn := MT_cn he
      have key : ∃ C, rcv G h b C ∧ ((k = 0 → C = y'.1.cls) ∧ (6 ≤ k → C = RJ4)) := by
        rcases hkp k h1 with rfl | rfl | rfl | rfl | rfl | rfl
        · exact ⟨_, clsAt_ok h2.1 (by rw [← h2.1]; exact h2.2), fun _ => hcn.symm, fun z => absurd z (by decide)⟩
        · exact ⟨_, clsAt_ok rfl h2, fun z => absurd z (by decide), fun z => absurd z (by decide)⟩
        · exact ⟨_, clsAt_ok rfl h2, fun z => absurd z (by decide), fun z => absurd z (by decide)⟩
        · exact ⟨_, clsAt_ok (cn := 14) h2 (by decide), fun z => absurd z (by decide), fun _ => rfl⟩
        · exact ⟨_, clsAt_ok (cn := 14) h2 (by decide), fun z => absurd z (by decide), fun _ => rfl⟩
        · exact ⟨_, clsAt_ok (cn := 14) h2 (by decide), fun z => absurd z (by decide), fun _ => rfl⟩
      obtain ⟨C, k1, k2⟩ := key
      exact V_call (hkp k h1) (hd k h1) (MT_ok he) (by rw [g3, List.length_reverse]; exact g1) k1 k2 h3 h4 h5 h6 h7 (fun v h' hq => hK _ _ _ _ _ _ hq) (fun E h' hq => ws_exc_ok hq)
    · exact hw.elim
  · exact hw.elim
theorem ws_callS_ok {K : KT} (hK : ∀ rc rs pc lv st h, K rc rs pc lv st h → V G y d rc rs pc lv st h Q) {idx : Nat} (hd : decode y.2.1 pc = .ok (.invokestatic idx, 3)) (hw : ws_callS G y d Q K rc rs pc lv st h (MT y.2.2.2.2.2 idx)) : V G y d rc rs pc lv st h Q := by
  unfold ws_callS at hw
  split at hw
  · rename_i k y' n he
    obtain ⟨h1, hw⟩ := hw
    split at hw
    · rename_i as r hp
      obtain ⟨h3, d', mc', ms', h4, h5, h6, h7⟩ := hw
      obtain ⟨bs, g1, g2, g3⟩ := popN_ok _ _ _ _ _ hp
      rw [List.append_nil] at g3
      have g4 : st = as.reverse ++ r := by rw [g2, g3, List.reverse_reverse]
      rw [g4]
      exact V_callS h1 hd (MT_ok he) (by rw [g3, List.length_reverse]; exact g1) h3 h4 h5 h6 h7 (fun v h' hq => hK _ _ _ _ _ _ hq) (fun E h' hq => ws_exc_ok hq)
    · exact hw.elim
  · exact hw.elim
theorem ws_throw_ok {ik ic : Nat} {E : String} (d0 : decode y.2.1 pc = .ok (.new ik, 3)) (hcn : y.2.2.2.2.2 = 7) (hx : (E, ik, ic) ∈ XCL) (hw : ws_throw G y d Q rc rs pc st h ik E ic) : V G y d rc rs pc lv st h Q := by
  unfold ws_throw at hw
  obtain ⟨⟨h1, h2, h3, h4, h5, h6, h7⟩, hw⟩ := hw
  split at hw
  · rename_i is he
    obtain ⟨g1, g2, g3⟩ := hw
    obtain ⟨sa, g3⟩ := Option.isSome_iff_exists.mp g3
    exact V_throw hx hcn h1 d0 h2 he g1 g2 g3 h3 h4 h5 h6 h7
  · rename_i is he
    obtain ⟨g1, g2, g3⟩ := hw
    obtain ⟨sa, g3⟩ := Option.isSome_iff_exists.mp g3
    exact V_throwW hx hcn h1 d0 h2 he g1 g2 g3 h3 h4 h5 h6 h7
  · exact hw.elim
end WSOK
def ws (G : GT) (y : MD) (d : Nat) (Q : RT → Hp → Prop) (K : KT) (rc rs pc : Nat) (lv : LL) (st : List Value) (h : Hp) (ins : Instr) : Prop := match ins with
  | .iconst n => K rc rs (pc + 1) lv (.int (kI n) :: st) h
  | .bipush n => K rc rs (pc + 2) lv (.int (bI n) :: st) h
  | .sipush n => K rc rs (pc + 3) lv (.int (sI n) :: st) h
  | .lconst n => K rc rs (pc + 1) lv (.long (lkI n) :: st) h
  | .aconst_null => K rc rs (pc + 1) lv (.null :: st) h
  | .fconst n => n = 0 ∧ K rc rs (pc + 1) lv (.float FP.fconst0 :: st) h
  | .dconst n => n = 0 ∧ K rc rs (pc + 1) lv (.double FP.dconst0 :: st) h
  | .iload_n i => match lget lv (fv i) with
    | some (.int x) => K rc rs (pc + 1) lv (.int x :: st) h
    | _ => False
  | .iload i => match lget lv i with
    | some (.int x) => K rc rs (pc + 2) lv (.int x :: st) h
    | _ => False
  | .istore_n i => match st with
    | .int x :: r => fv i < y.2.2.1 ∧ K rc rs (pc + 1) (lset1 lv (fv i) (.int x)) r h
    | _ => False
  | .istore i => match st with
    | .int x :: r => i < y.2.2.1 ∧ K rc rs (pc + 2) (lset1 lv i (.int x)) r h
    | _ => False
  | .lload_n i => match lget lv (fv i) with
    | some (.long x) => K rc rs (pc + 1) lv (.long x :: st) h
    | _ => False
  | .lload i => match lget lv i with
    | some (.long x) => K rc rs (pc + 2) lv (.long x :: st) h
    | _ => False
  | .lstore_n i => match st with
    | .long x :: r => fv i + 1 < y.2.2.1 ∧ K rc rs (pc + 1) (lset2 lv (fv i) (.long x)) r h
    | _ => False
  | .lstore i => match st with
    | .long x :: r => i + 1 < y.2.2.1 ∧ K rc rs (pc + 2) (lset2 lv i (.long x)) r h
    | _ => False
  | .fload_n i => match lget lv (fv i) with
    | some (.float x) => K rc rs (pc + 1) lv (.float x :: st) h
    | _ => False
  | .fload i => match lget lv i with
    | some (.float x) => K rc rs (pc + 2) lv (.float x :: st) h
    | _ => False
  | .fstore_n i => match st with
    | .float x :: r => fv i < y.2.2.1 ∧ K rc rs (pc + 1) (lset1 lv (fv i) (.float x)) r h
    | _ => False
  | .fstore i => match st with
    | .float x :: r => i < y.2.2.1 ∧ K rc rs (pc + 2) (lset1 lv i (.float x)) r h
    | _ => False
  | .dload_n i => match lget lv (fv i) with
    | some (.double x) => K rc rs (pc + 1) lv (.double x :: st) h
    | _ => False
  | .dload i => match lget lv i with
    | some (.double x) => K rc rs (pc + 2) lv (.double x :: st) h
    | _ => False
  | .dstore_n i => match st with
    | .double x :: r => fv i + 1 < y.2.2.1 ∧ K rc rs (pc + 1) (lset2 lv (fv i) (.double x)) r h
    | _ => False
  | .dstore i => match st with
    | .double x :: r => i + 1 < y.2.2.1 ∧ K rc rs (pc + 2) (lset2 lv i (.double x)) r h
    | _ => False
  | .aload_n i => match lget lv (fv i) with
    | some (.ref x) => K rc rs (pc + 1) lv (.ref x :: st) h
    | _ => False
  | .aload i => match lget lv i with
    | some (.ref x) => K rc rs (pc + 2) lv (.ref x :: st) h
    | _ => False
  | .astore_n i => match st with
    | .ref x :: r => fv i < y.2.2.1 ∧ K rc rs (pc + 1) (lset1 lv (fv i) (.ref x)) r h
    | _ => False
  | .astore i => match st with
    | .ref x :: r => i < y.2.2.1 ∧ K rc rs (pc + 2) (lset1 lv i (.ref x)) r h
    | _ => False
  | .iinc i n => match lget lv i with
    | some (.int x) => i < y.2.2.1 ∧ K rc rs (pc + 3) (lset1 lv i (.int (x + kI n))) st h
    | _ => False
  | .iadd => match st with
    | .int b :: .int a :: r => K rc rs (pc + 1) lv (.int (a + b) :: r) h
    | _ => False
  | .isub => match st with
    | .int b :: .int a :: r => K rc rs (pc + 1) lv (.int (a - b) :: r) h
    | _ => False
  | .imul => match st with
    | .int b :: .int a :: r => K rc rs (pc + 1) lv (.int (a * b) :: r) h
    | _ => False
  | .iand => match st with
    | .int b :: .int a :: r => K rc rs (pc + 1) lv (.int (a &&& b) :: r) h
    | _ => False
  | .ior => match st with
    | .int b :: .int a :: r => K rc rs (pc + 1) lv (.int (a ||| b) :: r) h
    | _ => False
  | .ixor => match st with
    | .int b :: .int a :: r => K rc rs (pc + 1) lv (.int (a ^^^ b) :: r) h
    | _ => False
  | .idiv => match st with
    | .int b :: .int a :: r => ¬ b = 0 ∧ K rc rs (pc + 1) lv (.int (a / b) :: r) h
    | _ => False
  | .irem => match st with
    | .int b :: .int a :: r => ¬ b = 0 ∧ K rc rs (pc + 1) lv (.int (a - a / b * b) :: r) h
    | _ => False
  | .ishl => match st with
    | .int b :: .int a :: r => K rc rs (pc + 1) lv (.int (a <<< (b &&& 31)) :: r) h
    | _ => False
  | .ishr => match st with
    | .int b :: .int a :: r => K rc rs (pc + 1) lv (.int (a >>> (b &&& 31)) :: r) h
    | _ => False
  | .ladd => match st with
    | .long b :: .long a :: r => K rc rs (pc + 1) lv (.long (a + b) :: r) h
    | _ => False
  | .lsub => match st with
    | .long b :: .long a :: r => K rc rs (pc + 1) lv (.long (a - b) :: r) h
    | _ => False
  | .lcmp => match st with
    | .long b :: .long a :: r => K rc rs (pc + 1) lv (.int (lg_cmp a b) :: r) h
    | _ => False
  | .fdiv => match st with
    | .float b :: .float a :: r => vf_n32 (FP.fdiv a b) ∧ K rc rs (pc + 1) lv (.float (FP.fdiv a b) :: r) h
    | _ => False
  | .ddiv => match st with
    | .double b :: .double a :: r => vf_n64 (FP.ddiv a b) ∧ K rc rs (pc + 1) lv (.double (FP.ddiv a b) :: r) h
    | _ => False
  | .fcmp op => match st with
    | .float b :: .float a :: r => K rc rs (pc + 1) lv (.int (Op.cmpValue (FP.fcmp a b) op) :: r) h
    | _ => False
  | .dcmp op => match st with
    | .double b :: .double a :: r => K rc rs (pc + 1) lv (.int (Op.cmpValue (FP.dcmp a b) op) :: r) h
    | _ => False
  | .ineg => match st with
    | .int a :: r => K rc rs (pc + 1) lv (.int (-a) :: r) h
    | _ => False
  | .i2l => match st with
    | .int a :: r => K rc rs (pc + 1) lv (.long (a.toInt64) :: r) h
    | _ => False
  | .l2i => match st with
    | .long a :: r => K rc rs (pc + 1) lv (.int (a.toInt32) :: r) h
    | _ => False
  | .i2c => match st with
    | .int a :: r => K rc rs (pc + 1) lv (.int ((a.toUInt32 % 65536).toInt32) :: r) h
    | _ => False
  | .i2b => match st with
    | .int a :: r => K rc rs (pc + 1) lv (.int (a.toInt8.toInt32) :: r) h
    | _ => False
  | .i2f => match st with
    | .int a :: r => K rc rs (pc + 1) lv (.float (FP.i2f a) :: r) h
    | _ => False
  | .i2d => match st with
    | .int a :: r => K rc rs (pc + 1) lv (.double (FP.i2d a) :: r) h
    | _ => False
  | .f2d => match st with
    | .float a :: r => vf_n64 (FP.f2d a) ∧ K rc rs (pc + 1) lv (.double (FP.f2d a) :: r) h
    | _ => False
  | .dup => match st with
    | v :: r => v.category = 1 ∧ K rc rs (pc + 1) lv (v :: v :: r) h
    | _ => False
  | .dup2 => match st with
    | v :: w :: r => (v.category = 1 ∧ w.category = 1) ∧ K rc rs (pc + 1) lv (v :: w :: v :: w :: r) h
    | _ => False
  | .pop => match st with
    | v :: r => v.category = 1 ∧ K rc rs (pc + 1) lv r h
    | _ => False
  | .if_icmp .eq off => match st with
    | .int b :: .int a :: r => tok pc off ∧ (a = b → K rc rs (tgt pc off) lv r h) ∧ (¬ a = b → K rc rs (pc + 3) lv r h)
    | _ => False
  | .if_icmp .ne off => match st with
    | .int b :: .int a :: r => tok pc off ∧ (¬ a = b → K rc rs (tgt pc off) lv r h) ∧ (a = b → K rc rs (pc + 3) lv r h)
    | _ => False
  | .if_icmp .lt off => match st with
    | .int b :: .int a :: r => tok pc off ∧ (a < b → K rc rs (tgt pc off) lv r h) ∧ (¬ a < b → K rc rs (pc + 3) lv r h)
    | _ => False
  | .if_icmp .ge off => match st with
    | .int b :: .int a :: r => tok pc off ∧ (b ≤ a → K rc rs (tgt pc off) lv r h) ∧ (¬ b ≤ a → K rc rs (pc + 3) lv r h)
    | _ => False
  | .if_icmp .gt off => match st with
    | .int b :: .int a :: r => tok pc off ∧ (b < a → K rc rs (tgt pc off) lv r h) ∧ (¬ b < a → K rc rs (pc + 3) lv r h)
    | _ => False
  | .if_icmp .le off => match st with
    | .int b :: .int a :: r => tok pc off ∧ (a ≤ b → K rc rs (tgt pc off) lv r h) ∧ (¬ a ≤ b → K rc rs (pc + 3) lv r h)
    | _ => False
  | .ifCond .eq off => match st with
    | .int a :: r => tok pc off ∧ (a = 0 → K rc rs (tgt pc off) lv r h) ∧ (¬ a = 0 → K rc rs (pc + 3) lv r h)
    | _ => False
  | .ifCond .ne off => match st with
    | .int a :: r => tok pc off ∧ (¬ a = 0 → K rc rs (tgt pc off) lv r h) ∧ (a = 0 → K rc rs (pc + 3) lv r h)
    | _ => False
  | .ifCond .lt off => match st with
    | .int a :: r => tok pc off ∧ (a < 0 → K rc rs (tgt pc off) lv r h) ∧ (¬ a < 0 → K rc rs (pc + 3) lv r h)
    | _ => False
  | .ifCond .ge off => match st with
    | .int a :: r => tok pc off ∧ (0 ≤ a → K rc rs (tgt pc off) lv r h) ∧ (¬ 0 ≤ a → K rc rs (pc + 3) lv r h)
    | _ => False
  | .ifCond .gt off => match st with
    | .int a :: r => tok pc off ∧ (0 < a → K rc rs (tgt pc off) lv r h) ∧ (¬ 0 < a → K rc rs (pc + 3) lv r h)
    | _ => False
  | .ifCond .le off => match st with
    | .int a :: r => tok pc off ∧ (a ≤ 0 → K rc rs (tgt pc off) lv r h) ∧ (¬ a ≤ 0 → K rc rs (pc + 3) lv r h)
    | _ => False
  | .goto off => tok pc off ∧ K rc rs (tgt pc off) lv st h
  | .getfield idx => match FT y.2.2.2.2.2 idx, st with
    | some (ci, k, _, _), .ref a :: r => ws_get (if ci < 8 then h.2 a else smG G a) ci k (fun v => K rc rs (pc + 3) lv (v :: r) h)
    | _, _ => False
  | .putfield idx => match FT y.2.2.2.2.2 idx, st with
    | some (ci, k, tc, fin), v :: .ref a :: r => tc ≠ 9 ∧ nokc tc v ∧ (fin = true → y.1.name = "<init>") ∧ ci < 8 ∧ ws_put (h.2 a) ci k (fun fs => K rc rs (pc + 3) lv r (hput h a (.inr (ci, fs.set k v))))
    | _, _ => False
  | .iaload => match st, ws_cell G h st with
    | .int i :: .ref a :: r, some (.inl (0, n, .inl f)) => vp_in i n ∧ K rc rs (pc + 1) lv (.int (f i.toNatClampNeg) :: r) h
    | _, _ => False
  | .caload => match st, ws_hcell h st with
    | .int i :: .ref a :: r, some (.inl (1, n, .inl f)) => vp_in i n ∧ K rc rs (pc + 1) lv (.int (f i.toNatClampNeg) :: r) h
    | _, _ => False
  | .laload => match st, ws_hcell h st with
    | .int i :: .ref a :: r, some (.inl (2, n, .inr (.inl f))) => vp_in i n ∧ K rc rs (pc + 1) lv (.long (f i.toNatClampNeg) :: r) h
    | _, _ => False
  | .daload => match st, ws_hcell h st with
    | .int i :: .ref a :: r, some (.inl (3, n, .inr (.inr (.inr (.inl f))))) => vp_in i n ∧ K rc rs (pc + 1) lv (.double (f i.toNatClampNeg) :: r) h
    | _, _ => False
  | .baload => match st, ws_cell G h st with
    | .int i :: .ref a :: r, some (.inl (4, n, .inl f)) => vp_in i n ∧ K rc rs (pc + 1) lv (.int (f i.toNatClampNeg) :: r) h
    | _, _ => False
  | .aaload => match st, ws_cell G h st with
    | .int i :: .ref a :: r, some (.inl (t, n, .inr (.inr (.inr (.inr f))))) => vp_in i n ∧ (t = 5 ∨ t = 6 ∨ t = 7 ∨ h.2 a = none) ∧ K rc rs (pc + 1) lv (va_rf (f i.toNatClampNeg) :: r) h
    | _, _ => False
  | .iastore => match st, ws_hcell3 h st with
    | .int x :: .int i :: .ref a :: r, some (.inl (0, n, .inl f)) => vp_in i n ∧ K rc rs (pc + 1) lv r (hput h a (.inl (0, n, .inl (upd f i.toNatClampNeg x))))
    | _, _ => False
  | .castore => match st, ws_hcell3 h st with
    | .int x :: .int i :: .ref a :: r, some (.inl (1, n, .inl f)) => vp_in i n ∧ K rc rs (pc + 1) lv r (hput h a (.inl (1, n, .inl (upd f i.toNatClampNeg (vp_nar .char x)))))
    | _, _ => False
  | .bastore => match st, ws_hcell3 h st with
    | .int x :: .int i :: .ref a :: r, some (.inl (4, n, .inl f)) => vp_in i n ∧ K rc rs (pc + 1) lv r (hput h a (.inl (4, n, .inl (upd f i.toNatClampNeg (vp_nar .byte x)))))
    | _, _ => False
  | .lastore => match st, ws_hcell3 h st with
    | .long x :: .int i :: .ref a :: r, some (.inl (2, n, .inr (.inl f))) => vp_in i n ∧ K rc rs (pc + 1) lv r (hput h a (.inl (2, n, .inr (.inl (vp_updL f i.toNatClampNeg x)))))
    | _, _ => False
  | .dastore => match st, ws_hcell3 h st with
    | .double x :: .int i :: .ref a :: r, some (.inl (3, n, .inr (.inr (.inr (.inl f))))) => vp_in i n ∧ K rc rs (pc + 1) lv r (hput h a (.inl (3, n, .inr (.inr (.inr (.inl (vf_upd f i.toNatClampNeg x)))))))
    | _, _ => False
  | .aastore => match st, ws_hcell3 h st, ws_hcell1 h st with
    | .ref v :: .int i :: .ref a :: r, some (.inl (t, n, .inr (.inr (.inr (.inr f))))), some (.inr (ci, vs)) => ((t = 5 ∧ ci = 2) ∨ (t = 6 ∧ ci = 4) ∨ (t = 7 ∧ ci = 0)) ∧ vp_in i n ∧ K rc rs (pc + 1) lv r (hput h a (.inl (t, n, .inr (.inr (.inr (.inr (va_up f i.toNatClampNeg (some v))))))))
    | _, _, _ => False
  | .arraylength => match st, ws_cell1 G h st with
    | .ref a :: r, some (.inl (t, n, f)) => (t < 8 ∨ h.2 a = none) ∧ K rc rs (pc + 1) lv (.int (nI n) :: r) h
    | _, _ => False
  | .newarray a9 => match st, atNo a9 with
    | .int n :: r, some t => ∃ k : Nat, n = nI k ∧ k < 65536 ∧ 1 ≤ rc ∧ k ≤ rs ∧ K (rc - 1) (rs - k) (pc + 2) lv (.ref h.1 :: r) (hnew h (.inl (t, zrow t k)))
    | _, _ => False
  | .anewarray idx => match st, AN y.2.2.2.2.2 idx with
    | .int n :: r, some t => ∃ k : Nat, n = nI k ∧ k < 65536 ∧ 1 ≤ rc ∧ k ≤ rs ∧ K (rc - 1) (rs - k) (pc + 3) lv (.ref h.1 :: r) (hnew h (.inl (t, k, .inr (.inr (.inr (.inr (fun _ => none)))))))
    | _, _ => False
  | .new idx => match NT y.2.2.2.2.2 idx, XL y.2.2.2.2.2 idx with
    | some (ci, fs, N), _ => 1 ≤ rc ∧ N ≤ rs ∧ K (rc - 1) (rs - N) (pc + 3) lv (.ref h.1 :: st) (hnew h (.inr (ci, fs)))
    | none, some (E, ic) => ws_throw G y d Q rc rs pc st h idx E ic
    | _, _ => False
  | .getstatic idx => match svG G y.2.2.2.2.2 idx with
    | some v => K rc rs (pc + 3) lv (v :: st) h
    | _ => False
  | .ldc idx => match CT y.2.2.2.2.2 idx, ssG G y.2.2.2.2.2 idx with
    | some v, _ => K rc rs (pc + 2) lv (.int v :: st) h
    | none, some q => K rc rs (pc + 2) lv (.ref q :: st) h
    | _, _ => False
  | .invokevirtual idx => ws_call G y d Q K rc rs pc lv st h (fun k => k = 0 ∨ k = 6 ∨ k = 8) (MT y.2.2.2.2.2 idx)
  | .invokespecial idx => (OI y.2.2.2.2.2 idx = true ∧ ws_oi d K rc rs pc lv st h) ∨ (OI y.2.2.2.2.2 idx = false ∧ ws_call G y d Q K rc rs pc lv st h (fun k => k = 2 ∨ k = 4 ∨ k = 7) (MT y.2.2.2.2.2 idx))
  | .invokestatic idx => (AC y.2.2.2.2.2 idx = true ∧ ws_ac d K rc rs pc lv st h) ∨ (MN y.2.2.2.2.2 idx = true ∧ ws_mm (fun a b => if b < a then b else a) d K rc rs pc lv st h) ∨ (MX y.2.2.2.2.2 idx = true ∧ ws_mm (fun a b => if a < b then b else a) d K rc rs pc lv st h) ∨ ((AC y.2.2.2.2.2 idx = false ∧ MN y.2.2.2.2.2 idx = false ∧ MX y.2.2.2.2.2 idx = false) ∧ ws_callS G y d Q K rc rs pc lv st h (MT y.2.2.2.2.2 idx))
  | .ireturn => match st, y.2.2.2.1 with
    | [.int x], some ty => retok ty x ∧ Q (.inl (some (.int x))) h
    | _, _ => False
  | .return_ => match st, y.2.2.2.1 with
    | [], none => Q (.inl none) h
    | _, _ => False
  | .lreturn => match st, y.2.2.2.1 with
    | [.long x], some .long => Q (.inl (some (.long x))) h
    | _, _ => False
  | .freturn => match st, y.2.2.2.1 with
    | [.float x], some .float => Q (.inl (some (.float x))) h
    | _, _ => False
  | .dreturn => match st, y.2.2.2.1 with
    | [.double x], some .double => Q (.inl (some (.double x))) h
    | _, _ => False
  | .areturn => match st, y.2.2.2.1 with
    | [.ref x], some ty => isRefT ty = true ∧ Q (.inl (some (.ref x))) h
    | _, _ => False
  | _ => False
