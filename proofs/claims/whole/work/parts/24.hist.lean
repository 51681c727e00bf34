/-! ===== the class's History: a ring of nine states ===== -/
def rfh (b : Nat) : Nat → Option Nat := fun i => if i < 9 then some (b + 2 + 19 * i) else none
theorem rfh_at {b i : Nat} (hi : i < 9) : rfh b i = some (b + 2 + 19 * i) := if_pos hi
/-- a history at b: oldest, count, its states -/
def AtH (h : Hp) (b o c : Nat) (f : Nat → St) : Prop :=
  h.2 b = some (.inr (1, [.ref (b + 1), .int (nI o), .int (nI c)])) ∧ h.2 (b + 1) = some (.inl (6, 9, .inr (.inr (.inr (.inr (rfh b)))))) ∧ ∀ i, i < 9 → AtS h (b + 2 + 19 * i) (f i)
theorem AtH.mv {h h' : Hp} {b o c lo hi : Nat} {f : Nat → St} (a : AtH h b o c f) (g : Fm h h' lo hi) (hd : b + 173 ≤ lo ∨ hi ≤ b) : AtH h' b o c f :=
  ⟨(g.2 _ (by omega)).trans a.1, (g.2 _ (by omega)).trans a.2.1, fun i hi => (a.2.2 i hi).mv g (by omega)⟩
theorem AtH.put0 {h : Hp} {b o c o' c' : Nat} {f : Nat → St} (a : AtH h b o c f) : AtH (hput h b (.inr (1, [.ref (b + 1), .int (nI o'), .int (nI c')]))) b o' c' f :=
  ⟨hput_eq _ _ _, (hput_ne (by omega)).trans a.2.1, fun i hi => (a.2.2 i hi).mv (lo := b) (hi := b + 1) ⟨rfl, fun q hq => hput_ne (by omega)⟩ (by omega)⟩
theorem AtH.st {h h' : Hp} {b o c i : Nat} {f : Nat → St} {S : St} (a : AtH h b o c f) (hi : i < 9) (g : Fm h h' (b + 2 + 19 * i) (b + 2 + 19 * i + 19)) (w : AtS h' (b + 2 + 19 * i) S) : AtH h' b o c (fu f i S) := by
  refine ⟨(g.2 _ (by omega)).trans a.1, (g.2 _ (by omega)).trans a.2.1, fun j hj => ?_⟩
  by_cases c : j = i
  · subst c; rw [fu_eq]; exact w
  · rw [fu_ne c]; exact (a.2.2 j hj).mv g (by omega)
theorem rem_nI {a b : Nat} (ha : a < 2147483648) (h0 : 0 < b) (hb : b < 2147483648) : nI a - nI a / nI b * nI b = nI (a % b) := pk_rem ha h0 hb
set_option maxRecDepth 20000 in
set_option maxHeartbeats 4000000 in
theorem c_prepared {G : GT} {h : Hp} {b o c d : Nat} {f : Nat → St} {Q : RT → Hp → Prop} (ho : o < 9) (hc : c ≤ 8) (a : AtH h b o c f) (hq : Q (.inl (some (.ref (b + 2 + 19 * ((o + c) % 9))))) h) : Ct G mX2_prepared d 0 0 [.ref b] h Q := by
  have e1 : nI (o + c) - nI (o + c) / nI 9 * nI 9 = nI ((o + c) % 9) := rem_nI (by omega) (by omega) (by omega)
  have e2 : (o + c) % 9 < 9 := Nat.mod_lt _ (by omega)
  refine Ct.of rfl rfl (Nat.le_of_ble_eq_true rfl) ?_
  show V G mX2_prepared _ _ _ 0 [some (.ref b)] [] h Q
  refine V_walk [] 60 ?_
  simp (disch := first | omega | assumption) only [↓wstep, ↓wq_s, ↓wq_0, stp, ↓WR0, ↓WR1, ↓WR2, ↓WR3, ↓WR4, ↓WR5, ↓WR6, ↓WR7, ↓WR8, ↓WR9, ↓WR10, ↓WR11, ↓WR12, WI0, WI1, WI2, WI3, fv_0, fv_1, fv_2, fv_3, lkI_0, lkI_1, kip, kin, tgp, tkp, tgn, tkn, bip, bin, sip, lget, lset1, lset2, lcat2, ↓ws_get, ↓ws_put, ws_cell, ws_cell1, ws_hcell, ws_hcell3, ws_hcell1, ↓cellOf, ↓ws_call, ↓ws_callS, ↓ws_oi, ↓ws_ac, ↓ws_mm, ↓ws_post, ↓ws_exc, popN, rok, clsAt, cnOf, catS_nil, catS_i, catS_r, catS_n, catS_l, catS_d, catS_f, nokc, Option.toList_none, Option.toList_some, List.cons_append, List.nil_append, List.length_cons, List.length_nil, List.set_cons_zero, List.set_cons_succ, List.getElem?_cons_zero, List.getElem?_cons_succ, Nat.reduceAdd, Nat.reduceSub, Nat.reduceMul, Nat.reduceEqDiff, Nat.reduceLeDiff, Nat.reduceLT, Nat.reduceDiv, Bool.false_eq_true, ↓reduceIte, true_and, and_true, false_and, and_false, reduceCtorEq, if_true, Nat.zero_add, cl, lt_nI, le_nI, eq_nI, in_nI, z_nI, retok, or_true, true_or, false_or, or_false, Nat.one_ne_zero, ne_eq, not_false_eq_true, not_true_eq_false, forall_const, Option.isSome_some, false_implies, implies_true, hput_1, hnew_1, vcat1, Nat.le_refl, Nat.not_lt_zero, Nat.lt_irrefl, hput_eq, hput_ne, hput_put, DX2_prepared, DX2_prepared_0, TX2_prepared, FT_2, MT_2, OI_a, AC_a, NT_a, a.1, a.2.1, nI_add, rfh_at, vrf, e1]
  exact ⟨rfl, hq⟩
set_option maxRecDepth 20000 in
set_option maxHeartbeats 4000000 in
theorem c_keepPrepared {G : GT} {h : Hp} {b o c d : Nat} {f : Nat → St} {Q : RT → Hp → Prop} (ho : o < 9) (hc : c ≤ 8) (a : AtH h b o c f) (hq : ∀ h', Fm h h' b (b + 1) → AtH h' b (if c < 8 then o else (o + 1) % 9) (if c < 8 then c + 1 else c) f → Q (.inl none) h') : Ct G mX2_keepPrepared d 0 0 [.ref b] h Q := by
  refine Ct.of rfl rfl (Nat.le_of_ble_eq_true rfl) ?_
  show V G mX2_keepPrepared _ _ _ 0 [some (.ref b)] [] h Q
  have e1 : nI (o + 1) - nI (o + 1) / nI 9 * nI 9 = nI ((o + 1) % 9) := rem_nI (by omega) (by omega) (by omega)
  refine V_walk [] 60 ?_
  simp (disch := first | omega | assumption) only [↓wstep, ↓wq_s, ↓wq_0, stp, ↓WR0, ↓WR1, ↓WR2, ↓WR3, ↓WR4, ↓WR5, ↓WR6, ↓WR7, ↓WR8, ↓WR9, ↓WR10, ↓WR11, ↓WR12, WI0, WI1, WI2, WI3, fv_0, fv_1, fv_2, fv_3, lkI_0, lkI_1, kip, kin, tgp, tkp, tgn, tkn, bip, bin, sip, lget, lset1, lset2, lcat2, ↓ws_get, ↓ws_put, ws_cell, ws_cell1, ws_hcell, ws_hcell3, ws_hcell1, ↓cellOf, ↓ws_call, ↓ws_callS, ↓ws_oi, ↓ws_ac, ↓ws_mm, ↓ws_post, ↓ws_exc, popN, rok, clsAt, cnOf, catS_nil, catS_i, catS_r, catS_n, catS_l, catS_d, catS_f, nokc, Option.toList_none, Option.toList_some, List.cons_append, List.nil_append, List.length_cons, List.length_nil, List.set_cons_zero, List.set_cons_succ, List.getElem?_cons_zero, List.getElem?_cons_succ, Nat.reduceAdd, Nat.reduceSub, Nat.reduceMul, Nat.reduceEqDiff, Nat.reduceLeDiff, Nat.reduceLT, Nat.reduceDiv, Bool.false_eq_true, ↓reduceIte, true_and, and_true, false_and, and_false, reduceCtorEq, if_true, Nat.zero_add, cl, lt_nI, le_nI, eq_nI, in_nI, z_nI, retok, or_true, true_or, false_or, or_false, Nat.one_ne_zero, ne_eq, not_false_eq_true, not_true_eq_false, forall_const, Option.isSome_some, false_implies, implies_true, hput_1, hnew_1, vcat1, Nat.le_refl, Nat.not_lt_zero, Nat.lt_irrefl, hput_eq, hput_ne, hput_put, DX2_keepPrepared, DX2_keepPrepared_0, TX2_keepPrepared, FT_2, MT_2, OI_a, AC_a, NT_a, a.1, nI_add, e1]
  refine ⟨fun c1 => ?_, fun c1 => ?_⟩
  · rw [if_neg (by omega), if_neg (by omega)] at hq
    exact hq _ (Fm.put (by omega) (by omega)) a.put0
  · rw [if_pos (by omega), if_pos (by omega)] at hq
    exact hq _ (Fm.put (by omega) (by omega)) a.put0
set_option maxRecDepth 20000 in
set_option maxHeartbeats 4000000 in
theorem c_prepare {G : GT} {h : Hp} {b o c m d : Nat} {f : Nat → St} {T : St} {Q : RT → Hp → Prop} (hd : 4 ≤ d) (ho : o < 9) (hc : c ≤ 8) (hm : b + 173 ≤ m ∨ m + 19 ≤ b) (a : AtH h b o c f) (w : AtS h m T) (ct : ClS T) (cf : ∀ i, i < 9 → ClS (f i)) (hq : ∀ h', Fm h h' b (b + 173) → AtH h' b o c (fu f ((o + c) % 9) T) → Q (.inl none) h') : Ct G mX2_prepare d 0 0 [.ref b, .ref m] h Q := by
  have e2 : (o + c) % 9 < 9 := Nat.mod_lt _ (by omega)
  have a0 := a.2.2 ((o + c) % 9) e2
  refine Ct.of rfl rfl (Nat.le_of_ble_eq_true rfl) ?_
  show V G mX2_prepare _ _ _ 0 [some (.ref b), some (.ref m)] [] h Q
  refine V_walk [] 60 ?_
  simp (disch := first | omega | assumption) only [↓wstep, ↓wq_s, ↓wq_0, stp, ↓WR0, ↓WR1, ↓WR2, ↓WR3, ↓WR4, ↓WR5, ↓WR6, ↓WR7, ↓WR8, ↓WR9, ↓WR10, ↓WR11, ↓WR12, WI0, WI1, WI2, WI3, fv_0, fv_1, fv_2, fv_3, lkI_0, lkI_1, kip, kin, tgp, tkp, tgn, tkn, bip, bin, sip, lget, lset1, lset2, lcat2, ↓ws_get, ↓ws_put, ws_cell, ws_cell1, ws_hcell, ws_hcell3, ws_hcell1, ↓cellOf, ↓ws_call, ↓ws_callS, ↓ws_oi, ↓ws_ac, ↓ws_mm, ↓ws_post, ↓ws_exc, popN, rok, clsAt, cnOf, catS_nil, catS_i, catS_r, catS_n, catS_l, catS_d, catS_f, nokc, Option.toList_none, Option.toList_some, List.cons_append, List.nil_append, List.length_cons, List.length_nil, List.set_cons_zero, List.set_cons_succ, List.getElem?_cons_zero, List.getElem?_cons_succ, Nat.reduceAdd, Nat.reduceSub, Nat.reduceMul, Nat.reduceEqDiff, Nat.reduceLeDiff, Nat.reduceLT, Nat.reduceDiv, Bool.false_eq_true, ↓reduceIte, true_and, and_true, false_and, and_false, reduceCtorEq, if_true, Nat.zero_add, cl, lt_nI, le_nI, eq_nI, in_nI, z_nI, retok, or_true, true_or, false_or, or_false, Nat.one_ne_zero, ne_eq, not_false_eq_true, not_true_eq_false, forall_const, Option.isSome_some, false_implies, implies_true, hput_1, hnew_1, vcat1, Nat.le_refl, Nat.not_lt_zero, Nat.lt_irrefl, hput_eq, hput_ne, hput_put, DX2_prepare, DX2_prepare_0, TX2_prepare, FT_2, MT_2, DX2_prepared, DX6_copyFrom, OI_a, AC_a, NT_a, a.1]
  refine CtE.of0 (by omega) (c_prepared ho hc a ?_)
  simp (disch := first | omega | assumption) only [↓wstep, ↓wq_s, ↓wq_0, stp, ↓WR0, ↓WR1, ↓WR2, ↓WR3, ↓WR4, ↓WR5, ↓WR6, ↓WR7, ↓WR8, ↓WR9, ↓WR10, ↓WR11, ↓WR12, WI0, WI1, WI2, WI3, fv_0, fv_1, fv_2, fv_3, lkI_0, lkI_1, kip, kin, tgp, tkp, tgn, tkn, bip, bin, sip, lget, lset1, lset2, lcat2, ↓ws_get, ↓ws_put, ws_cell, ws_cell1, ws_hcell, ws_hcell3, ws_hcell1, ↓cellOf, ↓ws_call, ↓ws_callS, ↓ws_oi, ↓ws_ac, ↓ws_mm, ↓ws_post, ↓ws_exc, popN, rok, clsAt, cnOf, catS_nil, catS_i, catS_r, catS_n, catS_l, catS_d, catS_f, nokc, Option.toList_none, Option.toList_some, List.cons_append, List.nil_append, List.length_cons, List.length_nil, List.set_cons_zero, List.set_cons_succ, List.getElem?_cons_zero, List.getElem?_cons_succ, Nat.reduceAdd, Nat.reduceSub, Nat.reduceMul, Nat.reduceEqDiff, Nat.reduceLeDiff, Nat.reduceLT, Nat.reduceDiv, Bool.false_eq_true, ↓reduceIte, true_and, and_true, false_and, and_false, reduceCtorEq, if_true, Nat.zero_add, cl, lt_nI, le_nI, eq_nI, in_nI, z_nI, retok, or_true, true_or, false_or, or_false, Nat.one_ne_zero, ne_eq, not_false_eq_true, not_true_eq_false, forall_const, Option.isSome_some, false_implies, implies_true, hput_1, hnew_1, vcat1, Nat.le_refl, Nat.not_lt_zero, Nat.lt_irrefl, hput_eq, hput_ne, hput_put, DX2_prepare, DX2_prepare_0, TX2_prepare, FT_2, MT_2, DX2_prepared, DX6_copyFrom, OI_a, AC_a, NT_a, a0.1]
  refine CtE.of0 (by omega) (c_copyFromS (by omega) (by omega) a0 w (cf _ e2) ct (fun h1 f1 a1 => ?_))
  simp (disch := first | omega | assumption) only [↓wstep, ↓wq_s, ↓wq_0, stp, ↓WR0, ↓WR1, ↓WR2, ↓WR3, ↓WR4, ↓WR5, ↓WR6, ↓WR7, ↓WR8, ↓WR9, ↓WR10, ↓WR11, ↓WR12, WI0, WI1, WI2, WI3, fv_0, fv_1, fv_2, fv_3, lkI_0, lkI_1, kip, kin, tgp, tkp, tgn, tkn, bip, bin, sip, lget, lset1, lset2, lcat2, ↓ws_get, ↓ws_put, ws_cell, ws_cell1, ws_hcell, ws_hcell3, ws_hcell1, ↓cellOf, ↓ws_call, ↓ws_callS, ↓ws_oi, ↓ws_ac, ↓ws_mm, ↓ws_post, ↓ws_exc, popN, rok, clsAt, cnOf, catS_nil, catS_i, catS_r, catS_n, catS_l, catS_d, catS_f, nokc, Option.toList_none, Option.toList_some, List.cons_append, List.nil_append, List.length_cons, List.length_nil, List.set_cons_zero, List.set_cons_succ, List.getElem?_cons_zero, List.getElem?_cons_succ, Nat.reduceAdd, Nat.reduceSub, Nat.reduceMul, Nat.reduceEqDiff, Nat.reduceLeDiff, Nat.reduceLT, Nat.reduceDiv, Bool.false_eq_true, ↓reduceIte, true_and, and_true, false_and, and_false, reduceCtorEq, if_true, Nat.zero_add, cl, lt_nI, le_nI, eq_nI, in_nI, z_nI, retok, or_true, true_or, false_or, or_false, Nat.one_ne_zero, ne_eq, not_false_eq_true, not_true_eq_false, forall_const, Option.isSome_some, false_implies, implies_true, hput_1, hnew_1, vcat1, Nat.le_refl, Nat.not_lt_zero, Nat.lt_irrefl, hput_eq, hput_ne, hput_put, DX2_prepare, DX2_prepare_0, TX2_prepare, FT_2, MT_2, DX2_prepared, DX6_copyFrom, OI_a, AC_a, NT_a]
  exact hq h1 (f1.wide (by omega) (by omega)) (a.st e2 f1 a1)
set_option maxRecDepth 20000 in
set_option maxHeartbeats 4000000 in
theorem c_takeLatest {G : GT} {h : Hp} {b o c d : Nat} {f : Nat → St} {Q : RT → Hp → Prop} (hd : 1 ≤ d) (ho : o < 9) (hc : c ≤ 7) (a : AtH h b o (c + 1) f) (hq : ∀ h', Fm h h' b (b + 1) → AtH h' b o c f → Q (.inl (some (.ref (b + 2 + 19 * ((o + c) % 9))))) h') : Ct G mX2_takeLatest d 0 0 [.ref b] h Q := by
  have e1 : nI (c + 1) - nI 1 = nI c := sub_nI (by omega)
  refine Ct.of rfl rfl (Nat.le_of_ble_eq_true rfl) ?_
  show V G mX2_takeLatest _ _ _ 0 [some (.ref b)] [] h Q
  refine V_walk [] 60 ?_
  simp (disch := first | omega | assumption) only [↓wstep, ↓wq_s, ↓wq_0, stp, ↓WR0, ↓WR1, ↓WR2, ↓WR3, ↓WR4, ↓WR5, ↓WR6, ↓WR7, ↓WR8, ↓WR9, ↓WR10, ↓WR11, ↓WR12, WI0, WI1, WI2, WI3, fv_0, fv_1, fv_2, fv_3, lkI_0, lkI_1, kip, kin, tgp, tkp, tgn, tkn, bip, bin, sip, lget, lset1, lset2, lcat2, ↓ws_get, ↓ws_put, ws_cell, ws_cell1, ws_hcell, ws_hcell3, ws_hcell1, ↓cellOf, ↓ws_call, ↓ws_callS, ↓ws_oi, ↓ws_ac, ↓ws_mm, ↓ws_post, ↓ws_exc, popN, rok, clsAt, cnOf, catS_nil, catS_i, catS_r, catS_n, catS_l, catS_d, catS_f, nokc, Option.toList_none, Option.toList_some, List.cons_append, List.nil_append, List.length_cons, List.length_nil, List.set_cons_zero, List.set_cons_succ, List.getElem?_cons_zero, List.getElem?_cons_succ, Nat.reduceAdd, Nat.reduceSub, Nat.reduceMul, Nat.reduceEqDiff, Nat.reduceLeDiff, Nat.reduceLT, Nat.reduceDiv, Bool.false_eq_true, ↓reduceIte, true_and, and_true, false_and, and_false, reduceCtorEq, if_true, Nat.zero_add, cl, lt_nI, le_nI, eq_nI, in_nI, z_nI, retok, or_true, true_or, false_or, or_false, Nat.one_ne_zero, ne_eq, not_false_eq_true, not_true_eq_false, forall_const, Option.isSome_some, false_implies, implies_true, hput_1, hnew_1, vcat1, Nat.le_refl, Nat.not_lt_zero, Nat.lt_irrefl, hput_eq, hput_ne, hput_put, DX2_takeLatest, DX2_takeLatest_0, TX2_takeLatest, FT_2, MT_2, DX2_prepared, OI_a, AC_a, NT_a, a.1, e1]
  have a1 : AtH _ b o c f := a.put0 (o' := o) (c' := c)
  refine CtE.of0 (by omega) (c_prepared ho (by omega) a1 ?_)
  simp (disch := first | omega | assumption) only [↓wstep, ↓wq_s, ↓wq_0, stp, ↓WR0, ↓WR1, ↓WR2, ↓WR3, ↓WR4, ↓WR5, ↓WR6, ↓WR7, ↓WR8, ↓WR9, ↓WR10, ↓WR11, ↓WR12, WI0, WI1, WI2, WI3, fv_0, fv_1, fv_2, fv_3, lkI_0, lkI_1, kip, kin, tgp, tkp, tgn, tkn, bip, bin, sip, lget, lset1, lset2, lcat2, ↓ws_get, ↓ws_put, ws_cell, ws_cell1, ws_hcell, ws_hcell3, ws_hcell1, ↓cellOf, ↓ws_call, ↓ws_callS, ↓ws_oi, ↓ws_ac, ↓ws_mm, ↓ws_post, ↓ws_exc, popN, rok, clsAt, cnOf, catS_nil, catS_i, catS_r, catS_n, catS_l, catS_d, catS_f, nokc, Option.toList_none, Option.toList_some, List.cons_append, List.nil_append, List.length_cons, List.length_nil, List.set_cons_zero, List.set_cons_succ, List.getElem?_cons_zero, List.getElem?_cons_succ, Nat.reduceAdd, Nat.reduceSub, Nat.reduceMul, Nat.reduceEqDiff, Nat.reduceLeDiff, Nat.reduceLT, Nat.reduceDiv, Bool.false_eq_true, ↓reduceIte, true_and, and_true, false_and, and_false, reduceCtorEq, if_true, Nat.zero_add, cl, lt_nI, le_nI, eq_nI, in_nI, z_nI, retok, or_true, true_or, false_or, or_false, Nat.one_ne_zero, ne_eq, not_false_eq_true, not_true_eq_false, forall_const, Option.isSome_some, false_implies, implies_true, hput_1, hnew_1, vcat1, Nat.le_refl, Nat.not_lt_zero, Nat.lt_irrefl, hput_eq, hput_ne, hput_put, DX2_takeLatest, DX2_takeLatest_0, TX2_takeLatest, FT_2, MT_2, DX2_prepared, OI_a, AC_a, NT_a]
  exact ⟨rfl, hq _ (Fm.put (by omega) (by omega)) a1⟩
/-- the first k of nine states, side by side -/
def rfhk (b k : Nat) : Nat → Option Nat := fun i => if i < k then some (b + 2 + 19 * i) else none
theorem AtS.of {h h' : Hp} {s : Nat} {S : St} (a : AtS h s S) (f : ∀ b, s ≤ b → b < s + 19 → h'.2 b = h.2 b) : AtS h' s S := by
  obtain ⟨h1, h2, h3, h4⟩ := a
  exact ⟨(f _ (by omega) (by omega)).trans h1, (f _ (by omega) (by omega)).trans h2, (f _ (by omega) (by omega)).trans h3, fun i hi => (h4 i hi).of (fun q q1 q2 => f q (by omega) (by omega))⟩
set_option maxRecDepth 20000 in
set_option maxHeartbeats 4000000 in
theorem l_hinit {G : GT} {b d : Nat} {Q : RT → Hp → Prop} (hd : 4 ≤ d) : ∀ (r k : Nat) (h : Hp) (rc rs : Nat), k + r = 9 → 19 * r ≤ rc → 404 * r ≤ rs → h.1 = b + 2 + 19 * k → h.2 b = some (.inr (1, [.ref (b + 1), .int (nI 0), .int (nI 0)])) → h.2 (b + 1) = some (.inl (6, 9, .inr (.inr (.inr (.inr (rfhk b k)))))) → (∀ i, i < k → AtS h (b + 2 + 19 * i) st0) → (∀ h', Fw h h' b (b + 173) → AtH h' b 0 0 (fun _ => st0) → Q (.inl none) h') → V G mX2_init d rc rs 25 [some (.ref b), some (.int (nI k))] [] h Q := by
  intro r
  induction r with
  | zero =>
    intro k h rc rs hk h1 h2 h3 h4 h5 h7 hq
    obtain rfl : k = 9 := by omega
    refine V_walk [] 40 ?_
    simp (disch := first | omega | assumption) only [↓wstep, ↓wq_s, ↓wq_0, stp, ↓WR0, ↓WR1, ↓WR2, ↓WR3, ↓WR4, ↓WR5, ↓WR6, ↓WR7, ↓WR8, ↓WR9, ↓WR10, ↓WR11, ↓WR12, WI0, WI1, WI2, WI3, fv_0, fv_1, fv_2, fv_3, lkI_0, lkI_1, kip, kin, tgp, tkp, tgn, tkn, bip, bin, sip, lget, lset1, lset2, lcat2, ↓ws_get, ↓ws_put, ws_cell, ws_cell1, ws_hcell, ws_hcell3, ws_hcell1, ↓cellOf, ↓ws_call, ↓ws_callS, ↓ws_oi, ↓ws_ac, ↓ws_mm, ↓ws_post, ↓ws_exc, popN, rok, clsAt, cnOf, catS_nil, catS_i, catS_r, catS_n, catS_l, catS_d, catS_f, nokc, Option.toList_none, Option.toList_some, List.cons_append, List.nil_append, List.length_cons, List.length_nil, List.set_cons_zero, List.set_cons_succ, List.getElem?_cons_zero, List.getElem?_cons_succ, Nat.reduceAdd, Nat.reduceSub, Nat.reduceMul, Nat.reduceEqDiff, Nat.reduceLeDiff, Nat.reduceLT, Nat.reduceDiv, Bool.false_eq_true, ↓reduceIte, true_and, and_true, false_and, and_false, reduceCtorEq, if_true, Nat.zero_add, cl, lt_nI, le_nI, eq_nI, in_nI, z_nI, retok, or_true, true_or, false_or, or_false, Nat.one_ne_zero, ne_eq, not_false_eq_true, not_true_eq_false, forall_const, Option.isSome_some, false_implies, implies_true, hput_1, hnew_1, vcat1, Nat.le_refl, Nat.not_lt_zero, Nat.lt_irrefl, hput_eq, hput_ne, hput_put, DX2_init, DX2_init_0, TX2_init, FT_2, MT_2, DX6_init, OI_a, AC_a, NT_a]
    exact hq h ⟨h3, fun _ _ => rfl⟩ ⟨h4, h5, h7⟩
  | succ r ih =>
    intro k h rc rs hk h1 h2 h3 h4 h5 h7 hq
    have hlt : k < 9 := by omega
    refine V_walk [25] 40 ?_
    simp (disch := first | omega | assumption) only [↓wstep, ↓wq_s, ↓wq_0, stp, ↓WR0, ↓WR1, ↓WR2, ↓WR3, ↓WR4, ↓WR5, ↓WR6, ↓WR7, ↓WR8, ↓WR9, ↓WR10, ↓WR11, ↓WR12, WI0, WI1, WI2, WI3, fv_0, fv_1, fv_2, fv_3, lkI_0, lkI_1, kip, kin, tgp, tkp, tgn, tkn, bip, bin, sip, lget, lset1, lset2, lcat2, ↓ws_get, ↓ws_put, ws_cell, ws_cell1, ws_hcell, ws_hcell3, ws_hcell1, ↓cellOf, ↓ws_call, ↓ws_callS, ↓ws_oi, ↓ws_ac, ↓ws_mm, ↓ws_post, ↓ws_exc, popN, rok, clsAt, cnOf, catS_nil, catS_i, catS_r, catS_n, catS_l, catS_d, catS_f, nokc, Option.toList_none, Option.toList_some, List.cons_append, List.nil_append, List.length_cons, List.length_nil, List.set_cons_zero, List.set_cons_succ, List.getElem?_cons_zero, List.getElem?_cons_succ, Nat.reduceAdd, Nat.reduceSub, Nat.reduceMul, Nat.reduceEqDiff, Nat.reduceLeDiff, Nat.reduceLT, Nat.reduceDiv, Bool.false_eq_true, ↓reduceIte, true_and, and_true, false_and, and_false, reduceCtorEq, if_true, Nat.zero_add, cl, lt_nI, le_nI, eq_nI, in_nI, z_nI, retok, or_true, true_or, false_or, or_false, Nat.one_ne_zero, ne_eq, not_false_eq_true, not_true_eq_false, forall_const, Option.isSome_some, false_implies, implies_true, hput_1, hnew_1, vcat1, Nat.le_refl, Nat.not_lt_zero, Nat.lt_irrefl, hput_eq, hput_ne, hput_put, DX2_init, DX2_init_0, TX2_init, FT_2, MT_2, DX6_init, OI_a, AC_a, NT_a, h4, h3, hnew_if, hput_if, if_neg, if_pos, ini, hd]
    refine ⟨fun c => by omega, fun _ => ⟨by omega, by omega, ?_⟩⟩
    refine CtE.of (d - 1) 18 400 (by omega) (by omega) (by omega) (c_state_init (by omega) (by rw [hnew_1, h3]) (by rw [hnew_if, h3, if_pos rfl]) (fun h1' f1 a1 => ?_))
    have g4 : h1'.2 b = some (.inr (1, [.ref (b + 1), .int (nI 0), .int (nI 0)])) := (f1.2 _ (by omega)).trans (by rw [hnew_if, h3, if_neg (by omega), h4])
    have g5 : h1'.2 (b + 1) = some (.inl (6, 9, .inr (.inr (.inr (.inr (rfhk b k)))))) := (f1.2 _ (by omega)).trans (by rw [hnew_if, h3, if_neg (by omega), h5])
    have g6 := a1.1
    have e : va_up (rfhk b k) k (some (b + 2 + 19 * k)) = rfhk b (k + 1) := by
      funext i
      simp only [va_up, rfhk]
      by_cases c : i = k
      · subst c; rw [if_pos rfl, if_pos (by omega)]
      · rw [if_neg c]
        by_cases c1 : i < k
        · rw [if_pos c1, if_pos (by omega)]
        · rw [if_neg c1, if_neg (by omega)]
    simp (disch := first | omega | assumption) only [↓wstep, ↓wq_s, ↓wq_0, stp, ↓WR0, ↓WR1, ↓WR2, ↓WR3, ↓WR4, ↓WR5, ↓WR6, ↓WR7, ↓WR8, ↓WR9, ↓WR10, ↓WR11, ↓WR12, WI0, WI1, WI2, WI3, fv_0, fv_1, fv_2, fv_3, lkI_0, lkI_1, kip, kin, tgp, tkp, tgn, tkn, bip, bin, sip, lget, lset1, lset2, lcat2, ↓ws_get, ↓ws_put, ws_cell, ws_cell1, ws_hcell, ws_hcell3, ws_hcell1, ↓cellOf, ↓ws_call, ↓ws_callS, ↓ws_oi, ↓ws_ac, ↓ws_mm, ↓ws_post, ↓ws_exc, popN, rok, clsAt, cnOf, catS_nil, catS_i, catS_r, catS_n, catS_l, catS_d, catS_f, nokc, Option.toList_none, Option.toList_some, List.cons_append, List.nil_append, List.length_cons, List.length_nil, List.set_cons_zero, List.set_cons_succ, List.getElem?_cons_zero, List.getElem?_cons_succ, Nat.reduceAdd, Nat.reduceSub, Nat.reduceMul, Nat.reduceEqDiff, Nat.reduceLeDiff, Nat.reduceLT, Nat.reduceDiv, Bool.false_eq_true, ↓reduceIte, true_and, and_true, false_and, and_false, reduceCtorEq, if_true, Nat.zero_add, cl, lt_nI, le_nI, eq_nI, in_nI, z_nI, retok, or_true, true_or, false_or, or_false, Nat.one_ne_zero, ne_eq, not_false_eq_true, not_true_eq_false, forall_const, Option.isSome_some, false_implies, implies_true, hput_1, hnew_1, vcat1, Nat.le_refl, Nat.not_lt_zero, Nat.lt_irrefl, hput_eq, hput_ne, hput_put, DX2_init, DX2_init_0, TX2_init, FT_2, MT_2, DX6_init, OI_a, AC_a, NT_a, g4, g5, g6, nI_add, e]
    have f2 : ∀ q, q < b + 2 + 19 * k → q ≠ b + 1 → (hput h1' (b + 1) (.inl (6, 9, .inr (.inr (.inr (.inr (rfhk b (k + 1)))))))).2 q = h.2 q := fun q hb hn => by
      rw [hput_ne hn, f1.2 q (by omega), hnew_if, h3, if_neg (by omega)]
    refine ih (k + 1) _ _ _ (by omega) (by omega) (by omega) ?_ ?_ (hput_eq _ _ _) ?_ ?_
    · rw [hput_1, f1.1]; omega
    · rw [f2 _ (by omega) (by omega), h4]
    · intro i hi
      by_cases c : i = k
      · subst c
        exact a1.of (fun q hb1 hb2 => hput_ne (by omega))
      · exact (h7 i (by omega)).of (fun q hb1 hb2 => f2 q (by omega) (by omega))
    · intro h' w a
      refine hq h' ⟨w.1, fun q hb => (w.2 q hb).trans ?_⟩ a
      rw [hput_ne (by omega), f1.2 q (by omega), hnew_if, h3, if_neg (by omega)]
set_option maxRecDepth 20000 in
set_option maxHeartbeats 4000000 in
theorem c_hist_init {G : GT} {h : Hp} {b d : Nat} {Q : RT → Hp → Prop} (hd : 4 ≤ d) (hn : h.1 = b + 1) (a : h.2 b = some (.inr (1, [.null, .int (nI 0), .int (nI 0)]))) (hq : ∀ h', Fw h h' b (b + 173) → AtH h' b 0 0 (fun _ => st0) → Q (.inl none) h') : Ct G mX2_init d 172 3700 [.ref b] h Q := by
  refine Ct.of rfl rfl (Nat.le_of_ble_eq_true rfl) ?_
  show V G mX2_init _ _ _ 0 [some (.ref b), none] [] h Q
  refine V_walk [10] 40 ?_
  simp (disch := first | omega | assumption) only [↓wstep, ↓wq_s, ↓wq_0, stp, ↓WR0, ↓WR1, ↓WR2, ↓WR3, ↓WR4, ↓WR5, ↓WR6, ↓WR7, ↓WR8, ↓WR9, ↓WR10, ↓WR11, ↓WR12, WI0, WI1, WI2, WI3, fv_0, fv_1, fv_2, fv_3, lkI_0, lkI_1, kip, kin, tgp, tkp, tgn, tkn, bip, bin, sip, lget, lset1, lset2, lcat2, ↓ws_get, ↓ws_put, ws_cell, ws_cell1, ws_hcell, ws_hcell3, ws_hcell1, ↓cellOf, ↓ws_call, ↓ws_callS, ↓ws_oi, ↓ws_ac, ↓ws_mm, ↓ws_post, ↓ws_exc, popN, rok, clsAt, cnOf, catS_nil, catS_i, catS_r, catS_n, catS_l, catS_d, catS_f, nokc, Option.toList_none, Option.toList_some, List.cons_append, List.nil_append, List.length_cons, List.length_nil, List.set_cons_zero, List.set_cons_succ, List.getElem?_cons_zero, List.getElem?_cons_succ, Nat.reduceAdd, Nat.reduceSub, Nat.reduceMul, Nat.reduceEqDiff, Nat.reduceLeDiff, Nat.reduceLT, Nat.reduceDiv, Bool.false_eq_true, ↓reduceIte, true_and, and_true, false_and, and_false, reduceCtorEq, if_true, Nat.zero_add, cl, lt_nI, le_nI, eq_nI, in_nI, z_nI, retok, or_true, true_or, false_or, or_false, Nat.one_ne_zero, ne_eq, not_false_eq_true, not_true_eq_false, forall_const, Option.isSome_some, false_implies, implies_true, hput_1, hnew_1, vcat1, Nat.le_refl, Nat.not_lt_zero, Nat.lt_irrefl, hput_eq, hput_ne, hput_put, DX2_init, DX2_init_0, TX2_init, FT_2, MT_2, DX6_init, OI_a, AC_a, NT_a, hd, atn, an_e]
  refine ⟨by omega, 9, rfl, by omega, by omega, ?_⟩
  refine V_walk [25] 40 ?_
  simp (disch := first | omega | assumption) only [↓wstep, ↓wq_s, ↓wq_0, stp, ↓WR0, ↓WR1, ↓WR2, ↓WR3, ↓WR4, ↓WR5, ↓WR6, ↓WR7, ↓WR8, ↓WR9, ↓WR10, ↓WR11, ↓WR12, WI0, WI1, WI2, WI3, fv_0, fv_1, fv_2, fv_3, lkI_0, lkI_1, kip, kin, tgp, tkp, tgn, tkn, bip, bin, sip, lget, lset1, lset2, lcat2, ↓ws_get, ↓ws_put, ws_cell, ws_cell1, ws_hcell, ws_hcell3, ws_hcell1, ↓cellOf, ↓ws_call, ↓ws_callS, ↓ws_oi, ↓ws_ac, ↓ws_mm, ↓ws_post, ↓ws_exc, popN, rok, clsAt, cnOf, catS_nil, catS_i, catS_r, catS_n, catS_l, catS_d, catS_f, nokc, Option.toList_none, Option.toList_some, List.cons_append, List.nil_append, List.length_cons, List.length_nil, List.set_cons_zero, List.set_cons_succ, List.getElem?_cons_zero, List.getElem?_cons_succ, Nat.reduceAdd, Nat.reduceSub, Nat.reduceMul, Nat.reduceEqDiff, Nat.reduceLeDiff, Nat.reduceLT, Nat.reduceDiv, Bool.false_eq_true, ↓reduceIte, true_and, and_true, false_and, and_false, reduceCtorEq, if_true, Nat.zero_add, cl, lt_nI, le_nI, eq_nI, in_nI, z_nI, retok, or_true, true_or, false_or, or_false, Nat.one_ne_zero, ne_eq, not_false_eq_true, not_true_eq_false, forall_const, Option.isSome_some, false_implies, implies_true, hput_1, hnew_1, vcat1, Nat.le_refl, Nat.not_lt_zero, Nat.lt_irrefl, hput_eq, hput_ne, hput_put, DX2_init, DX2_init_0, TX2_init, FT_2, MT_2, DX6_init, OI_a, AC_a, NT_a, hd, atn, a, hnew_if, hput_if, hn, zr0, zr1, if_neg, if_pos, ini]
  have hh : ∀ h', h'.1 = b + 2 → h'.2 b = some (.inr (1, [.ref (b + 1), .int (nI 0), .int (nI 0)])) → h'.2 (b + 1) = some (.inl (6, 9, .inr (.inr (.inr (.inr (rfhk b 0)))))) → (∀ q, q < b ∨ b + 2 ≤ q → h'.2 q = h.2 q) → V G mX2_init d 171 3691 25 [some (.ref b), some (.int (nI 0))] [] h' Q := fun h' k1 k2 k3 k5 => by
    refine l_hinit hd 9 0 h' 171 3691 (by omega) (by omega) (by omega) (by omega) k2 k3 (fun i hi => absurd hi (Nat.not_lt_zero _)) (fun h2 f2 a2 => hq h2 ⟨f2.1, fun q hb => (f2.2 q hb).trans (k5 q (by omega))⟩ a2)
  refine hh _ ?_ ?_ ?_ ?_
  · simp only [hput_1, hnew_1, hn]
  · simp only [hput_if, hnew_if, hput_1, hnew_1, hn, if_true]
  · simp (disch := omega) only [hput_if, hnew_if, hput_1, hnew_1, hn, if_neg, if_pos]
    exact congrArg (fun f => some (Sum.inl (6, 9, Sum.inr (Sum.inr (Sum.inr (Sum.inr f)))))) (funext fun i => (if_neg (Nat.not_lt_zero _)).symm)
  · intro q hb
    simp only [hput_if, hnew_if, hput_1, hnew_1, hn]
    rw [if_neg (by omega), if_neg (by omega)]
