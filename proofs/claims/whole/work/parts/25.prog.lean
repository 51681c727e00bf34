/-! ===== the class's Command and Program ===== -/
/-- kind, first, second, feather, given -/
abbrev Cmd : Type := Nat × Int32 × Int32 × Fin 65536 × Nat
/-- the kinds' row, the switch's row, the kinds, their forms, the forms' bytes -/
abbrev KT9 : Type := Nat × Nat × (Nat → Nat) × (Nat → Nat) × (Nat → Nat)
def cmE (K : KT9) (c : Cmd) : va_E := .inr (0, [.ref (K.2.2.1 c.1), .int c.2.1, .int c.2.2.1, .int (nI c.2.2.2.1.val), .int (nI c.2.2.2.2)])
def rfp (p : Nat) : Nat → Option Nat := fun i => if i < 9 then some (p + 3 + i) else none
theorem rfp_at {p i : Nat} (hi : i < 9) : rfp p i = some (p + 3 + i) := if_pos hi
def chs (f : Nat → Fin 65536) : Nat → Int32 := fun k => nI (f k).val
theorem chs_at (f : Nat → Fin 65536) (k : Nat) : chs f k = nI (f k).val := rfl
def AtP (K : KT9) (h : Hp) (p : Nat) (sg : Nat → Fin 65536) (len er tt : Nat) (cm : Nat → Cmd) : Prop :=
  h.2 p = some (.inr (3, [.ref (p + 1), .ref (p + 2), .int (nI len), .int (nI er), .int (nI tt)])) ∧ h.2 (p + 1) = some (.inl (1, 60, .inl (chs sg))) ∧ h.2 (p + 2) = some (.inl (7, 9, .inr (.inr (.inr (.inr (rfp p)))))) ∧ ∀ i, i < 9 → h.2 (p + 3 + i) = some (cmE K (cm i))
theorem AtP.put0 {K : KT9} {h : Hp} {p len er tt len' er' tt' : Nat} {sg : Nat → Fin 65536} {cm : Nat → Cmd} (a : AtP K h p sg len er tt cm) : AtP K (hput h p (.inr (3, [.ref (p + 1), .ref (p + 2), .int (nI len'), .int (nI er'), .int (nI tt')]))) p sg len' er' tt' cm :=
  ⟨hput_eq _ _ _, (hput_ne (by omega)).trans a.2.1, (hput_ne (by omega)).trans a.2.2.1, fun i hi => (hput_ne (by omega)).trans (a.2.2.2 i hi)⟩
theorem AtP.putc {K : KT9} {h : Hp} {p len er tt i : Nat} {sg : Nat → Fin 65536} {cm : Nat → Cmd} {c : Cmd} (hi : i < 9) (a : AtP K h p sg len er tt cm) : AtP K (hput h (p + 3 + i) (cmE K c)) p sg len er tt (fu cm i c) := by
  refine ⟨(hput_ne (by omega)).trans a.1, (hput_ne (by omega)).trans a.2.1, (hput_ne (by omega)).trans a.2.2.1, fun j hj => ?_⟩
  by_cases e : j = i
  · subst e; rw [hput_eq, fu_eq]
  · rw [hput_ne (by omega), fu_ne e]; exact a.2.2.2 j hj
theorem AtP.mv {K : KT9} {h h' : Hp} {p len er tt lo hi : Nat} {sg : Nat → Fin 65536} {cm : Nat → Cmd} (a : AtP K h p sg len er tt cm) (f : Fm h h' lo hi) (hd : p + 12 ≤ lo ∨ hi ≤ p) : AtP K h' p sg len er tt cm :=
  ⟨(f.2 _ (by omega)).trans a.1, (f.2 _ (by omega)).trans a.2.1, (f.2 _ (by omega)).trans a.2.2.1, fun i hi => (f.2 _ (by omega)).trans (a.2.2.2 i hi)⟩
set_option maxRecDepth 20000 in
set_option maxHeartbeats 4000000 in
theorem c_appendP {G : GT} {K : KT9} {h : Hp} {p len er tt d : Nat} {x : Fin 65536} {sg : Nat → Fin 65536} {cm : Nat → Cmd} {Q : RT → Hp → Prop} (hl : len < 60) (a : AtP K h p sg len er tt cm) (hq : ∀ h', Fm h h' p (p + 12) → AtP K h' p (fu sg len x) (len + 1) er tt cm → Q (.inl none) h') : Ct G mX5_append d 0 0 [.ref p, .int (nI x.val)] h Q := by
  refine Ct.of rfl rfl (Nat.le_of_ble_eq_true rfl) ?_
  show V G mX5_append _ _ _ 0 [some (.ref p), some (.int (nI x.val))] [] h Q
  refine V_walk [] 60 ?_
  simp (disch := first | omega | assumption) only [↓wstep, ↓wq_s, ↓wq_0, stp, ↓WR0, ↓WR1, ↓WR2, ↓WR3, ↓WR4, ↓WR5, ↓WR6, ↓WR7, ↓WR8, ↓WR9, ↓WR10, ↓WR11, ↓WR12, WI0, WI1, WI2, WI3, fv_0, fv_1, fv_2, fv_3, lkI_0, lkI_1, kip, kin, tgp, tkp, tgn, tkn, bip, bin, sip, lget, lset1, lset2, lcat2, ↓ws_get, ↓ws_put, ws_cell, ws_cell1, ws_hcell, ws_hcell3, ws_hcell1, ↓cellOf, ↓ws_call, ↓ws_callS, ↓ws_oi, ↓ws_ac, ↓ws_mm, ↓ws_post, ↓ws_exc, popN, rok, clsAt, cnOf, catS_nil, catS_i, catS_r, catS_n, catS_l, catS_d, catS_f, nokc, Option.toList_none, Option.toList_some, List.cons_append, List.nil_append, List.length_cons, List.length_nil, List.set_cons_zero, List.set_cons_succ, List.getElem?_cons_zero, List.getElem?_cons_succ, Nat.reduceAdd, Nat.reduceSub, Nat.reduceMul, Nat.reduceEqDiff, Nat.reduceLeDiff, Nat.reduceLT, Nat.reduceDiv, Bool.false_eq_true, ↓reduceIte, true_and, and_true, false_and, and_false, reduceCtorEq, if_true, Nat.zero_add, cl, lt_nI, le_nI, eq_nI, in_nI, z_nI, retok, or_true, true_or, false_or, or_false, Nat.one_ne_zero, ne_eq, not_false_eq_true, not_true_eq_false, forall_const, Option.isSome_some, false_implies, implies_true, hput_1, hnew_1, vcat1, Nat.le_refl, Nat.not_lt_zero, Nat.lt_irrefl, hput_eq, hput_ne, hput_put, DX5_append, DX5_append_0, TX5_append, FT_5, MT_5, SC_5, OI_a, AC_a, NT_a, a.1, a.2.1, nI_add]
  refine ⟨fun c => by omega, fun _ => ?_⟩
  refine hq _ ⟨rfl, fun q h9 => by rw [hput_ne (by omega), hput_ne (by omega)]⟩ ⟨hput_eq _ _ _, ?_, ?_, fun i hi => ?_⟩
  · rw [hput_ne (by omega), hput_eq]
    refine congrArg (fun f => some (Sum.inl (1, 60, Sum.inl f))) (funext fun k => ?_)
    rw [nch]
    simp only [upd, chs, fu]; split <;> rfl
  · rw [hput_ne (by omega), hput_ne (by omega)]; exact a.2.2.1
  · rw [hput_ne (by omega), hput_ne (by omega)]; exact a.2.2.2 i hi
theorem in_nI' {a b : Nat} (h : a < b ∧ b < 2147483648) : vp_in (nI a) b := vp_in_nI h.1 h.2
set_option maxRecDepth 20000 in
set_option maxHeartbeats 4000000 in
theorem c_readSign {G : GT} {K : KT9} {h : Hp} {p len er tt d : Nat} {x : Fin 65536} {sg : Nat → Fin 65536} {cm : Nat → Cmd} {Q : RT → Hp → Prop} (hl : len ≤ 60) (ht : tt ≤ 60) (a : AtP K h p sg len er tt cm) (hq : ∀ h', Fm h h' p (p + 12) → AtP K h' p sg len er (if tt < len ∧ sg tt = x then tt + 1 else tt) cm → Q (.inl (some (.int (bI1 (decide (tt < len ∧ sg tt = x)))))) h') : Ct G mX5_readSign d 0 0 [.ref p, .int (nI x.val)] h Q := by
  refine Ct.of rfl rfl (Nat.le_of_ble_eq_true rfl) ?_
  show V G mX5_readSign _ _ _ 0 [some (.ref p), some (.int (nI x.val))] [] h Q
  refine V_walk [24] 60 ?_
  simp (disch := first | omega | assumption) only [↓wstep, ↓wq_s, ↓wq_0, stp, ↓WR0, ↓WR1, ↓WR2, ↓WR3, ↓WR4, ↓WR5, ↓WR6, ↓WR7, ↓WR8, ↓WR9, ↓WR10, ↓WR11, ↓WR12, WI0, WI1, WI2, WI3, fv_0, fv_1, fv_2, fv_3, lkI_0, lkI_1, kip, kin, tgp, tkp, tgn, tkn, bip, bin, sip, lget, lset1, lset2, lcat2, ↓ws_get, ↓ws_put, ws_cell, ws_cell1, ws_hcell, ws_hcell3, ws_hcell1, ↓cellOf, ↓ws_call, ↓ws_callS, ↓ws_oi, ↓ws_ac, ↓ws_mm, ↓ws_post, ↓ws_exc, popN, rok, clsAt, cnOf, catS_nil, catS_i, catS_r, catS_n, catS_l, catS_d, catS_f, nokc, Option.toList_none, Option.toList_some, List.cons_append, List.nil_append, List.length_cons, List.length_nil, List.set_cons_zero, List.set_cons_succ, List.getElem?_cons_zero, List.getElem?_cons_succ, Nat.reduceAdd, Nat.reduceSub, Nat.reduceMul, Nat.reduceEqDiff, Nat.reduceLeDiff, Nat.reduceLT, Nat.reduceDiv, Bool.false_eq_true, ↓reduceIte, true_and, and_true, false_and, and_false, reduceCtorEq, if_true, Nat.zero_add, cl, lt_nI, le_nI, eq_nI, in_nI, z_nI, retok, or_true, true_or, false_or, or_false, Nat.one_ne_zero, ne_eq, not_false_eq_true, not_true_eq_false, forall_const, Option.isSome_some, false_implies, implies_true, hput_1, hnew_1, vcat1, Nat.le_refl, Nat.not_lt_zero, Nat.lt_irrefl, hput_eq, hput_ne, hput_put, DX5_readSign, DX5_readSign_0, TX5_readSign, FT_5, MT_5, SC_5, OI_a, AC_a, NT_a, a.1, a.2.1, nI_add, chs_at]
  have w : ¬ (tt < len ∧ sg tt = x) → V G mX5_readSign d 0 0 24 [some (.ref p), some (.int (nI x.val))] [] h Q := fun e => by
    rw [if_neg e, decide_eq_false e] at hq
    refine V_walk [] 60 ?_
    simp (disch := first | omega | assumption) only [↓wstep, ↓wq_s, ↓wq_0, stp, ↓WR0, ↓WR1, ↓WR2, ↓WR3, ↓WR4, ↓WR5, ↓WR6, ↓WR7, ↓WR8, ↓WR9, ↓WR10, ↓WR11, ↓WR12, WI0, WI1, WI2, WI3, fv_0, fv_1, fv_2, fv_3, lkI_0, lkI_1, kip, kin, tgp, tkp, tgn, tkn, bip, bin, sip, lget, lset1, lset2, lcat2, ↓ws_get, ↓ws_put, ws_cell, ws_cell1, ws_hcell, ws_hcell3, ws_hcell1, ↓cellOf, ↓ws_call, ↓ws_callS, ↓ws_oi, ↓ws_ac, ↓ws_mm, ↓ws_post, ↓ws_exc, popN, rok, clsAt, cnOf, catS_nil, catS_i, catS_r, catS_n, catS_l, catS_d, catS_f, nokc, Option.toList_none, Option.toList_some, List.cons_append, List.nil_append, List.length_cons, List.length_nil, List.set_cons_zero, List.set_cons_succ, List.getElem?_cons_zero, List.getElem?_cons_succ, Nat.reduceAdd, Nat.reduceSub, Nat.reduceMul, Nat.reduceEqDiff, Nat.reduceLeDiff, Nat.reduceLT, Nat.reduceDiv, Bool.false_eq_true, ↓reduceIte, true_and, and_true, false_and, and_false, reduceCtorEq, if_true, Nat.zero_add, cl, lt_nI, le_nI, eq_nI, in_nI, z_nI, retok, or_true, true_or, false_or, or_false, Nat.one_ne_zero, ne_eq, not_false_eq_true, not_true_eq_false, forall_const, Option.isSome_some, false_implies, implies_true, hput_1, hnew_1, vcat1, Nat.le_refl, Nat.not_lt_zero, Nat.lt_irrefl, hput_eq, hput_ne, hput_put, DX5_readSign, DX5_readSign_0, TX5_readSign, FT_5, MT_5, SC_5, OI_a, AC_a, NT_a]
    exact hq h Fm.rf a
  refine ⟨fun c => w (fun q => by omega), fun c => ⟨in_nI' (by omega), fun c1 => ?_, fun c1 => w (fun q => c1 (congrArg Fin.val q.2))⟩⟩
  have e : tt < len ∧ sg tt = x := ⟨by omega, Fin.ext c1⟩
  rw [if_pos e, decide_eq_true e] at hq
  exact hq _ (Fm.put (by omega) (by omega)) a.put0
set_option maxRecDepth 20000 in
set_option maxHeartbeats 4000000 in
theorem c_begin {G : GT} {K : KT9} {h : Hp} {q k d : Nat} {c : Cmd} {Q : RT → Hp → Prop} (a : h.2 q = some (cmE K c)) (hq : Q (.inl none) (hput h q (cmE K (k, c.2.1, c.2.2.1, c.2.2.2.1, 0)))) : Ct G mX1_begin d 0 0 [.ref q, .ref (K.2.2.1 k)] h Q := by
  unfold cmE at a
  refine Ct.of rfl rfl (Nat.le_of_ble_eq_true rfl) ?_
  show V G mX1_begin _ _ _ 0 [some (.ref q), some (.ref (K.2.2.1 k))] [] h Q
  refine V_walk [24] 60 ?_
  simp (disch := first | omega | assumption) only [↓wstep, ↓wq_s, ↓wq_0, stp, ↓WR0, ↓WR1, ↓WR2, ↓WR3, ↓WR4, ↓WR5, ↓WR6, ↓WR7, ↓WR8, ↓WR9, ↓WR10, ↓WR11, ↓WR12, WI0, WI1, WI2, WI3, fv_0, fv_1, fv_2, fv_3, lkI_0, lkI_1, kip, kin, tgp, tkp, tgn, tkn, bip, bin, sip, lget, lset1, lset2, lcat2, ↓ws_get, ↓ws_put, ws_cell, ws_cell1, ws_hcell, ws_hcell3, ws_hcell1, ↓cellOf, ↓ws_call, ↓ws_callS, ↓ws_oi, ↓ws_ac, ↓ws_mm, ↓ws_post, ↓ws_exc, popN, rok, clsAt, cnOf, catS_nil, catS_i, catS_r, catS_n, catS_l, catS_d, catS_f, nokc, Option.toList_none, Option.toList_some, List.cons_append, List.nil_append, List.length_cons, List.length_nil, List.set_cons_zero, List.set_cons_succ, List.getElem?_cons_zero, List.getElem?_cons_succ, Nat.reduceAdd, Nat.reduceSub, Nat.reduceMul, Nat.reduceEqDiff, Nat.reduceLeDiff, Nat.reduceLT, Nat.reduceDiv, Bool.false_eq_true, ↓reduceIte, true_and, and_true, false_and, and_false, reduceCtorEq, if_true, Nat.zero_add, cl, lt_nI, le_nI, eq_nI, in_nI, z_nI, retok, or_true, true_or, false_or, or_false, Nat.one_ne_zero, ne_eq, not_false_eq_true, not_true_eq_false, forall_const, Option.isSome_some, false_implies, implies_true, hput_1, hnew_1, vcat1, Nat.le_refl, Nat.not_lt_zero, Nat.lt_irrefl, hput_eq, hput_ne, hput_put, DX1_begin, DX1_begin_0, TX1_begin, FT_1, OI_a, AC_a, NT_a, a]
  exact hq
def gvC (c : Cmd) (x : Int32) : Cmd := if c.2.2.2.2 = 0 then (c.1, x, c.2.2.1, c.2.2.2.1, 1) else (c.1, c.2.1, x, c.2.2.2.1, c.2.2.2.2 + 1)
set_option maxRecDepth 20000 in
set_option maxHeartbeats 4000000 in
theorem c_give {G : GT} {K : KT9} {h : Hp} {q d : Nat} {c : Cmd} {x : Int32} {Q : RT → Hp → Prop} (hc : c.2.2.2.2 ≤ 60) (a : h.2 q = some (cmE K c)) (hq : Q (.inl none) (hput h q (cmE K (gvC c x)))) : Ct G mX1_give d 0 0 [.ref q, .int x] h Q := by
  unfold cmE at a
  refine Ct.of rfl rfl (Nat.le_of_ble_eq_true rfl) ?_
  show V G mX1_give _ _ _ 0 [some (.ref q), some (.int x)] [] h Q
  refine V_walk [24] 60 ?_
  simp (disch := first | omega | assumption) only [↓wstep, ↓wq_s, ↓wq_0, stp, ↓WR0, ↓WR1, ↓WR2, ↓WR3, ↓WR4, ↓WR5, ↓WR6, ↓WR7, ↓WR8, ↓WR9, ↓WR10, ↓WR11, ↓WR12, WI0, WI1, WI2, WI3, fv_0, fv_1, fv_2, fv_3, lkI_0, lkI_1, kip, kin, tgp, tkp, tgn, tkn, bip, bin, sip, lget, lset1, lset2, lcat2, ↓ws_get, ↓ws_put, ws_cell, ws_cell1, ws_hcell, ws_hcell3, ws_hcell1, ↓cellOf, ↓ws_call, ↓ws_callS, ↓ws_oi, ↓ws_ac, ↓ws_mm, ↓ws_post, ↓ws_exc, popN, rok, clsAt, cnOf, catS_nil, catS_i, catS_r, catS_n, catS_l, catS_d, catS_f, nokc, Option.toList_none, Option.toList_some, List.cons_append, List.nil_append, List.length_cons, List.length_nil, List.set_cons_zero, List.set_cons_succ, List.getElem?_cons_zero, List.getElem?_cons_succ, Nat.reduceAdd, Nat.reduceSub, Nat.reduceMul, Nat.reduceEqDiff, Nat.reduceLeDiff, Nat.reduceLT, Nat.reduceDiv, Bool.false_eq_true, ↓reduceIte, true_and, and_true, false_and, and_false, reduceCtorEq, if_true, Nat.zero_add, cl, lt_nI, le_nI, eq_nI, in_nI, z_nI, retok, or_true, true_or, false_or, or_false, Nat.one_ne_zero, ne_eq, not_false_eq_true, not_true_eq_false, forall_const, Option.isSome_some, false_implies, implies_true, hput_1, hnew_1, vcat1, Nat.le_refl, Nat.not_lt_zero, Nat.lt_irrefl, hput_eq, hput_ne, hput_put, DX1_give, DX1_give_0, TX1_give, FT_1, OI_a, AC_a, NT_a, a, nI_add]
  unfold gvC at hq
  refine ⟨fun c1 => ?_, fun c1 => ?_⟩
  · rw [if_neg c1] at hq; exact hq
  · rw [if_pos c1] at hq; rw [c1]; exact hq
theorem ite_nI {c : Prop} [Decidable c] (a b : Nat) : (if c then nI a else nI b) = nI (if c then a else b) := by split <;> rfl
/-- the digits that are read from tt up to en, r of them at most, onto v -/
def rdN (sg : Nat → Fin 65536) : Nat → Nat → Int32 → Nat × Int32
  | 0, tt, v => (tt, v)
  | r + 1, tt, v => if inB (nI (sg tt).val) 48 57 = true then rdN sg r (tt + 1) (nI 10 * v + nI (sg tt).val - nI 48) else (tt, v)
theorem rdN_le (sg : Nat → Fin 65536) : ∀ r tt v, tt ≤ (rdN sg r tt v).1 ∧ (rdN sg r tt v).1 ≤ tt + r
  | 0, _, _ => ⟨Nat.le_refl _, Nat.le_refl _⟩
  | r + 1, tt, v => by
    rw [rdN]; split
    · have := rdN_le sg r (tt + 1) (nI 10 * v + nI (sg tt).val - nI 48); omega
    · exact ⟨Nat.le_refl _, by show tt ≤ _; omega⟩
set_option maxRecDepth 20000 in
set_option maxHeartbeats 4000000 in
theorem l_readNumber {G : GT} {K : KT9} {p len er d en : Nat} {sg : Nat → Fin 65536} {cm : Nat → Cmd} {x1 x2 x3 : Option Value} {Q : RT → Hp → Prop} (hd : 1 ≤ d) (hl : len ≤ 60) (he : en ≤ len) : ∀ (r tt : Nat) (v : Int32) (h : Hp), (tt + r = en ∨ (r = 0 ∧ en ≤ tt)) → tt ≤ 60 → AtP K h p sg len er tt cm → (∀ h', Fm h h' p (p + 1) → AtP K h' p sg len er (rdN sg r tt v).1 cm → V G mX5_readNumber d 0 0 77 [some (.ref p), x1, x2, x3, some (.int (nI en)), some (.int (rdN sg r tt v).2)] [] h' Q) → V G mX5_readNumber d 0 0 20 [some (.ref p), x1, x2, x3, some (.int (nI en)), some (.int v)] [] h Q := by
  intro r
  induction r with
  | zero =>
    intro tt v h ht htt a hq
    refine V_walk [77] 60 ?_
    simp (disch := first | omega | assumption) only [↓wstep, ↓wq_s, ↓wq_0, stp, ↓WR0, ↓WR1, ↓WR2, ↓WR3, ↓WR4, ↓WR5, ↓WR6, ↓WR7, ↓WR8, ↓WR9, ↓WR10, ↓WR11, ↓WR12, WI0, WI1, WI2, WI3, fv_0, fv_1, fv_2, fv_3, lkI_0, lkI_1, kip, kin, tgp, tkp, tgn, tkn, bip, bin, sip, lget, lset1, lset2, lcat2, ↓ws_get, ↓ws_put, ws_cell, ws_cell1, ws_hcell, ws_hcell3, ws_hcell1, ↓cellOf, ↓ws_call, ↓ws_callS, ↓ws_oi, ↓ws_ac, ↓ws_mm, ↓ws_post, ↓ws_exc, popN, rok, clsAt, cnOf, catS_nil, catS_i, catS_r, catS_n, catS_l, catS_d, catS_f, nokc, Option.toList_none, Option.toList_some, List.cons_append, List.nil_append, List.length_cons, List.length_nil, List.set_cons_zero, List.set_cons_succ, List.getElem?_cons_zero, List.getElem?_cons_succ, Nat.reduceAdd, Nat.reduceSub, Nat.reduceMul, Nat.reduceEqDiff, Nat.reduceLeDiff, Nat.reduceLT, Nat.reduceDiv, Bool.false_eq_true, ↓reduceIte, true_and, and_true, false_and, and_false, reduceCtorEq, if_true, Nat.zero_add, cl, lt_nI, le_nI, eq_nI, in_nI, z_nI, retok, or_true, true_or, false_or, or_false, Nat.one_ne_zero, ne_eq, not_false_eq_true, not_true_eq_false, forall_const, Option.isSome_some, false_implies, implies_true, hput_1, hnew_1, vcat1, Nat.le_refl, Nat.not_lt_zero, Nat.lt_irrefl, hput_eq, hput_ne, hput_put, DX5_readNumber, DX5_readNumber_0, TX5_readNumber, FT_5, MT_5, SC_5, DX7_isDigit, DX1_give, OI_a, AC_a, NT_a, a.1]
    refine ⟨fun _ => hq h Fm.rf a, fun c => by omega⟩
  | succ r ih =>
    intro tt v h ht htt a hq
    refine V_walk [20, 77] 60 ?_
    simp (disch := first | omega | assumption) only [↓wstep, ↓wq_s, ↓wq_0, stp, ↓WR0, ↓WR1, ↓WR2, ↓WR3, ↓WR4, ↓WR5, ↓WR6, ↓WR7, ↓WR8, ↓WR9, ↓WR10, ↓WR11, ↓WR12, WI0, WI1, WI2, WI3, fv_0, fv_1, fv_2, fv_3, lkI_0, lkI_1, kip, kin, tgp, tkp, tgn, tkn, bip, bin, sip, lget, lset1, lset2, lcat2, ↓ws_get, ↓ws_put, ws_cell, ws_cell1, ws_hcell, ws_hcell3, ws_hcell1, ↓cellOf, ↓ws_call, ↓ws_callS, ↓ws_oi, ↓ws_ac, ↓ws_mm, ↓ws_post, ↓ws_exc, popN, rok, clsAt, cnOf, catS_nil, catS_i, catS_r, catS_n, catS_l, catS_d, catS_f, nokc, Option.toList_none, Option.toList_some, List.cons_append, List.nil_append, List.length_cons, List.length_nil, List.set_cons_zero, List.set_cons_succ, List.getElem?_cons_zero, List.getElem?_cons_succ, Nat.reduceAdd, Nat.reduceSub, Nat.reduceMul, Nat.reduceEqDiff, Nat.reduceLeDiff, Nat.reduceLT, Nat.reduceDiv, Bool.false_eq_true, ↓reduceIte, true_and, and_true, false_and, and_false, reduceCtorEq, if_true, Nat.zero_add, cl, lt_nI, le_nI, eq_nI, in_nI, z_nI, retok, or_true, true_or, false_or, or_false, Nat.one_ne_zero, ne_eq, not_false_eq_true, not_true_eq_false, forall_const, Option.isSome_some, false_implies, implies_true, hput_1, hnew_1, vcat1, Nat.le_refl, Nat.not_lt_zero, Nat.lt_irrefl, hput_eq, hput_ne, hput_put, DX5_readNumber, DX5_readNumber_0, TX5_readNumber, FT_5, MT_5, SC_5, DX7_isDigit, DX1_give, OI_a, AC_a, NT_a, a.1, a.2.1, chs_at]
    refine ⟨fun c => by omega, fun _ => ?_⟩
    refine CtE.of0 (by omega) (c_isDigit ?_)
    rw [rdN] at hq
    cases e : inB (nI (sg tt).val) 48 57 with
    | false =>
      rw [iteB' e] at hq
      simp (disch := first | omega | assumption) only [↓wstep, ↓wq_s, ↓wq_0, stp, ↓WR0, ↓WR1, ↓WR2, ↓WR3, ↓WR4, ↓WR5, ↓WR6, ↓WR7, ↓WR8, ↓WR9, ↓WR10, ↓WR11, ↓WR12, WI0, WI1, WI2, WI3, fv_0, fv_1, fv_2, fv_3, lkI_0, lkI_1, kip, kin, tgp, tkp, tgn, tkn, bip, bin, sip, lget, lset1, lset2, lcat2, ↓ws_get, ↓ws_put, ws_cell, ws_cell1, ws_hcell, ws_hcell3, ws_hcell1, ↓cellOf, ↓ws_call, ↓ws_callS, ↓ws_oi, ↓ws_ac, ↓ws_mm, ↓ws_post, ↓ws_exc, popN, rok, clsAt, cnOf, catS_nil, catS_i, catS_r, catS_n, catS_l, catS_d, catS_f, nokc, Option.toList_none, Option.toList_some, List.cons_append, List.nil_append, List.length_cons, List.length_nil, List.set_cons_zero, List.set_cons_succ, List.getElem?_cons_zero, List.getElem?_cons_succ, Nat.reduceAdd, Nat.reduceSub, Nat.reduceMul, Nat.reduceEqDiff, Nat.reduceLeDiff, Nat.reduceLT, Nat.reduceDiv, Bool.false_eq_true, ↓reduceIte, true_and, and_true, false_and, and_false, reduceCtorEq, if_true, Nat.zero_add, cl, lt_nI, le_nI, eq_nI, in_nI, z_nI, retok, or_true, true_or, false_or, or_false, Nat.one_ne_zero, ne_eq, not_false_eq_true, not_true_eq_false, forall_const, Option.isSome_some, false_implies, implies_true, hput_1, hnew_1, vcat1, Nat.le_refl, Nat.not_lt_zero, Nat.lt_irrefl, hput_eq, hput_ne, hput_put, DX5_readNumber, DX5_readNumber_0, TX5_readNumber, FT_5, MT_5, SC_5, DX7_isDigit, DX1_give, OI_a, AC_a, NT_a, bI1_f]
      exact hq h Fm.rf a
    | true =>
      rw [iteB e] at hq
      simp (disch := first | omega | assumption) only [↓wstep, ↓wq_s, ↓wq_0, stp, ↓WR0, ↓WR1, ↓WR2, ↓WR3, ↓WR4, ↓WR5, ↓WR6, ↓WR7, ↓WR8, ↓WR9, ↓WR10, ↓WR11, ↓WR12, WI0, WI1, WI2, WI3, fv_0, fv_1, fv_2, fv_3, lkI_0, lkI_1, kip, kin, tgp, tkp, tgn, tkn, bip, bin, sip, lget, lset1, lset2, lcat2, ↓ws_get, ↓ws_put, ws_cell, ws_cell1, ws_hcell, ws_hcell3, ws_hcell1, ↓cellOf, ↓ws_call, ↓ws_callS, ↓ws_oi, ↓ws_ac, ↓ws_mm, ↓ws_post, ↓ws_exc, popN, rok, clsAt, cnOf, catS_nil, catS_i, catS_r, catS_n, catS_l, catS_d, catS_f, nokc, Option.toList_none, Option.toList_some, List.cons_append, List.nil_append, List.length_cons, List.length_nil, List.set_cons_zero, List.set_cons_succ, List.getElem?_cons_zero, List.getElem?_cons_succ, Nat.reduceAdd, Nat.reduceSub, Nat.reduceMul, Nat.reduceEqDiff, Nat.reduceLeDiff, Nat.reduceLT, Nat.reduceDiv, Bool.false_eq_true, ↓reduceIte, true_and, and_true, false_and, and_false, reduceCtorEq, if_true, Nat.zero_add, cl, lt_nI, le_nI, eq_nI, in_nI, z_nI, retok, or_true, true_or, false_or, or_false, Nat.one_ne_zero, ne_eq, not_false_eq_true, not_true_eq_false, forall_const, Option.isSome_some, false_implies, implies_true, hput_1, hnew_1, vcat1, Nat.le_refl, Nat.not_lt_zero, Nat.lt_irrefl, hput_eq, hput_ne, hput_put, DX5_readNumber, DX5_readNumber_0, TX5_readNumber, FT_5, MT_5, SC_5, DX7_isDigit, DX1_give, OI_a, AC_a, NT_a, bI1_t, a.1, a.2.1, chs_at, nI_add]
      exact ih (tt + 1) _ _ (by omega) (by omega) a.put0 (fun h' f' a' => hq h' ((Fm.put (by omega) (by omega)).tr f') a')
set_option maxRecDepth 20000 in
set_option maxHeartbeats 4000000 in
theorem c_readNumber {G : GT} {K : KT9} {h : Hp} {p len er tt i most d : Nat} {sg : Nat → Fin 65536} {cm : Nat → Cmd} {Q : RT → Hp → Prop} (hd : 1 ≤ d) (hl : len ≤ 60) (ht : tt ≤ len) (hm : most ≤ 9) (hi : i < 9) (hg : (cm i).2.2.2.2 ≤ 60) (a : AtP K h p sg len er tt cm) (hq : ∀ h', Fm h h' p (p + 12) → AtP K h' p sg len er (rdN sg (min len (tt + most) - tt) tt (nI 0)).1 (fu cm i (gvC (cm i) (rdN sg (min len (tt + most) - tt) tt (nI 0)).2)) → Q (.inl (some (.int (bI1 (decide (tt < (rdN sg (min len (tt + most) - tt) tt (nI 0)).1)))))) h') : Ct G mX5_readNumber d 0 0 [.ref p, .int (nI most), .ref (p + 3 + i)] h Q := by
  refine Ct.of rfl rfl (Nat.le_of_ble_eq_true rfl) ?_
  show V G mX5_readNumber _ _ _ 0 [some (.ref p), some (.int (nI most)), some (.ref (p + 3 + i)), none, none, none] [] h Q
  refine V_walk [20] 60 ?_
  simp (disch := first | omega | assumption) only [↓wstep, ↓wq_s, ↓wq_0, stp, ↓WR0, ↓WR1, ↓WR2, ↓WR3, ↓WR4, ↓WR5, ↓WR6, ↓WR7, ↓WR8, ↓WR9, ↓WR10, ↓WR11, ↓WR12, WI0, WI1, WI2, WI3, fv_0, fv_1, fv_2, fv_3, lkI_0, lkI_1, kip, kin, tgp, tkp, tgn, tkn, bip, bin, sip, lget, lset1, lset2, lcat2, ↓ws_get, ↓ws_put, ws_cell, ws_cell1, ws_hcell, ws_hcell3, ws_hcell1, ↓cellOf, ↓ws_call, ↓ws_callS, ↓ws_oi, ↓ws_ac, ↓ws_mm, ↓ws_post, ↓ws_exc, popN, rok, clsAt, cnOf, catS_nil, catS_i, catS_r, catS_n, catS_l, catS_d, catS_f, nokc, Option.toList_none, Option.toList_some, List.cons_append, List.nil_append, List.length_cons, List.length_nil, List.set_cons_zero, List.set_cons_succ, List.getElem?_cons_zero, List.getElem?_cons_succ, Nat.reduceAdd, Nat.reduceSub, Nat.reduceMul, Nat.reduceEqDiff, Nat.reduceLeDiff, Nat.reduceLT, Nat.reduceDiv, Bool.false_eq_true, ↓reduceIte, true_and, and_true, false_and, and_false, reduceCtorEq, if_true, Nat.zero_add, cl, lt_nI, le_nI, eq_nI, in_nI, z_nI, retok, or_true, true_or, false_or, or_false, Nat.one_ne_zero, ne_eq, not_false_eq_true, not_true_eq_false, forall_const, Option.isSome_some, false_implies, implies_true, hput_1, hnew_1, vcat1, Nat.le_refl, Nat.not_lt_zero, Nat.lt_irrefl, hput_eq, hput_ne, hput_put, DX5_readNumber, DX5_readNumber_0, TX5_readNumber, FT_5, MT_5, SC_5, DX7_isDigit, DX1_give, OI_a, AC_a, NT_a, a.1, nI_add, ite_nI]
  rw [show (if tt + most < len then tt + most else len) = min len (tt + most) from by rw [Nat.min_def]; split <;> split <;> omega]
  have hr := rdN_le sg (min len (tt + most) - tt) tt (nI 0)
  refine ⟨by omega, l_readNumber hd hl (by omega) (min len (tt + most) - tt) tt (nI 0) h (by omega) (by omega) a (fun h1 f1 a1 => ?_)⟩
  have c1 := a1.2.2.2 i hi
  refine V_walk [] 60 ?_
  simp (disch := first | omega | assumption) only [↓wstep, ↓wq_s, ↓wq_0, stp, ↓WR0, ↓WR1, ↓WR2, ↓WR3, ↓WR4, ↓WR5, ↓WR6, ↓WR7, ↓WR8, ↓WR9, ↓WR10, ↓WR11, ↓WR12, WI0, WI1, WI2, WI3, fv_0, fv_1, fv_2, fv_3, lkI_0, lkI_1, kip, kin, tgp, tkp, tgn, tkn, bip, bin, sip, lget, lset1, lset2, lcat2, ↓ws_get, ↓ws_put, ws_cell, ws_cell1, ws_hcell, ws_hcell3, ws_hcell1, ↓cellOf, ↓ws_call, ↓ws_callS, ↓ws_oi, ↓ws_ac, ↓ws_mm, ↓ws_post, ↓ws_exc, popN, rok, clsAt, cnOf, catS_nil, catS_i, catS_r, catS_n, catS_l, catS_d, catS_f, nokc, Option.toList_none, Option.toList_some, List.cons_append, List.nil_append, List.length_cons, List.length_nil, List.set_cons_zero, List.set_cons_succ, List.getElem?_cons_zero, List.getElem?_cons_succ, Nat.reduceAdd, Nat.reduceSub, Nat.reduceMul, Nat.reduceEqDiff, Nat.reduceLeDiff, Nat.reduceLT, Nat.reduceDiv, Bool.false_eq_true, ↓reduceIte, true_and, and_true, false_and, and_false, reduceCtorEq, if_true, Nat.zero_add, cl, lt_nI, le_nI, eq_nI, in_nI, z_nI, retok, or_true, true_or, false_or, or_false, Nat.one_ne_zero, ne_eq, not_false_eq_true, not_true_eq_false, forall_const, Option.isSome_some, false_implies, implies_true, hput_1, hnew_1, vcat1, Nat.le_refl, Nat.not_lt_zero, Nat.lt_irrefl, hput_eq, hput_ne, hput_put, DX5_readNumber, DX5_readNumber_0, TX5_readNumber, FT_5, MT_5, SC_5, DX7_isDigit, DX1_give, OI_a, AC_a, NT_a, c1, cmE]
  refine CtE.of0 (by omega) (c_give hg c1 ?_)
  have a2 := a1.putc (c := gvC (cm i) (rdN sg (min len (tt + most) - tt) tt (nI 0)).2) hi
  have a3 := a1.1
  simp (disch := first | omega | assumption) only [↓wstep, ↓wq_s, ↓wq_0, stp, ↓WR0, ↓WR1, ↓WR2, ↓WR3, ↓WR4, ↓WR5, ↓WR6, ↓WR7, ↓WR8, ↓WR9, ↓WR10, ↓WR11, ↓WR12, WI0, WI1, WI2, WI3, fv_0, fv_1, fv_2, fv_3, lkI_0, lkI_1, kip, kin, tgp, tkp, tgn, tkn, bip, bin, sip, lget, lset1, lset2, lcat2, ↓ws_get, ↓ws_put, ws_cell, ws_cell1, ws_hcell, ws_hcell3, ws_hcell1, ↓cellOf, ↓ws_call, ↓ws_callS, ↓ws_oi, ↓ws_ac, ↓ws_mm, ↓ws_post, ↓ws_exc, popN, rok, clsAt, cnOf, catS_nil, catS_i, catS_r, catS_n, catS_l, catS_d, catS_f, nokc, Option.toList_none, Option.toList_some, List.cons_append, List.nil_append, List.length_cons, List.length_nil, List.set_cons_zero, List.set_cons_succ, List.getElem?_cons_zero, List.getElem?_cons_succ, Nat.reduceAdd, Nat.reduceSub, Nat.reduceMul, Nat.reduceEqDiff, Nat.reduceLeDiff, Nat.reduceLT, Nat.reduceDiv, Bool.false_eq_true, ↓reduceIte, true_and, and_true, false_and, and_false, reduceCtorEq, if_true, Nat.zero_add, cl, lt_nI, le_nI, eq_nI, in_nI, z_nI, retok, or_true, true_or, false_or, or_false, Nat.one_ne_zero, ne_eq, not_false_eq_true, not_true_eq_false, forall_const, Option.isSome_some, false_implies, implies_true, hput_1, hnew_1, vcat1, Nat.le_refl, Nat.not_lt_zero, Nat.lt_irrefl, hput_eq, hput_ne, hput_put, DX5_readNumber, DX5_readNumber_0, TX5_readNumber, FT_5, MT_5, SC_5, DX7_isDigit, DX1_give, OI_a, AC_a, NT_a, a3]
  refine ⟨fun c => ?_, fun c => ?_⟩
  · rw [decide_eq_false (by omega)] at hq
    exact hq _ (Fm.tr (f1.wide (by omega) (by omega)) (Fm.put (by omega) (by omega))) a2
  · rw [decide_eq_true (by omega)] at hq
    exact hq _ (Fm.tr (f1.wide (by omega) (by omega)) (Fm.put (by omega) (by omega))) a2
