/-! ===== the library's StringBuilder ===== -/
theorem V_dup_x1 {G : GT} {y : MD} {d rc rs pc : Nat} {lv : LL} {st : List Value} {h : Hp} {Q : RT → Hp → Prop} {v w : Value} (hd : decode y.2.1 pc = .ok (.dup_x1, 1)) (hv : v.category = 1) (hw : w.category = 1) (k : V G y d rc rs (pc + 1) lv (v :: w :: v :: st) h Q) : V G y d rc rs pc lv (v :: w :: st) h Q := by
  intro p e R s m args below meth c H locs cells slots mc ms ls QQ hF hR hc hs hE hl hr hS
  exact lv_dup_x1 hF.1 hF.2.1 hd hv hw (k p e R s m args below meth c H locs cells slots mc ms ls QQ hF hR hc hs hE hl hr hS)
def sbE (v n : Nat) (ml : Int32) : va_E := .inr (7, [.ref v, .int (nI 0), .int ml, .int (nI n)])
/-- a StringBuilder at s: its bytes at v, room for cap, n of them -/
def SB (h : Hp) (s v cap n : Nat) (ml : Int32) (g : Nat → Int32) : Prop := h.2 s = some (sbE v n ml) ∧ h.2 v = some (.inl (4, cap, .inl g))
/-- the library's statics: compact texts, digits -/
def JW2 (G : GT) : Prop := svG G 15 18 = some (.int (nI 1)) ∧ ∃ a1 a2, a1 < b0 G ∧ a2 < b0 G ∧ svG G 16 83 = some (.ref a1) ∧ svG G 16 87 = some (.ref a2) ∧ smG G a1 = some (.inl (4, 100, .inl (fun k => nI (48 + k % 10)))) ∧ smG G a2 = some (.inl (4, 100, .inl (fun k => nI (48 + k / 10))))
theorem ct_e : CT 18 200 = some 2147483639 ∧ CT 15 39 = some 2147483647 := ⟨rfl, rfl⟩
theorem shl0 (m : Nat) : nI m <<< (nI 0 &&& 31) = nI m := by
  rw [show (nI 0 &&& 31 : Int32) = 0 from rfl]
  exact Int32.shiftLeft_zero
theorem shr0 {m : Nat} (h : m < 2147483648) : nI m >>> (nI 0 &&& 31) = nI m := sc_shr0 h
set_option maxRecDepth 20000 in
set_option maxHeartbeats 4000000 in
theorem c_jLat {G : GT} {h : Hp} {s v n d : Nat} {ml : Int32} {Q : RT → Hp → Prop} (hj : JW2 G) (a : h.2 s = some (sbE v n ml)) (hq : Q (.inl (some (.int (nI 1)))) h) : Ct G mJ5_isLatin1_aae02 d 0 0 [.ref s] h Q := by
  unfold sbE at a
  have j1 := hj.1
  refine Ct.of rfl rfl (Nat.le_of_ble_eq_true rfl) ?_
  show V G mJ5_isLatin1_aae02 _ _ _ 0 [some (.ref s)] [] h Q
  refine V_walk [] 20 ?_
  simp (disch := first | omega | assumption) only [↓wstep, ↓wq_s, ↓wq_0, stp, ↓WR0, ↓WR1, ↓WR2, ↓WR3, ↓WR4, ↓WR5, ↓WR6, ↓WR7, ↓WR8, ↓WR9, ↓WR10, ↓WR11, ↓WR12, WI0, WI1, WI2, WI3, fv_0, fv_1, fv_2, fv_3, lkI_0, lkI_1, kip, kin, tgp, tkp, tgn, tkn, bip, bin, sip, lget, lset1, lset2, lcat2, ↓ws_get, ↓ws_put, ws_cell, ws_cell1, ws_hcell, ws_hcell3, ws_hcell1, ↓cellOf, ↓ws_call, ↓ws_callS, ↓ws_oi, ↓ws_ac, ↓ws_mm, ↓ws_post, ↓ws_exc, popN, rok, clsAt, cnOf, catS_nil, catS_i, catS_r, catS_n, catS_l, catS_d, catS_f, nokc, Option.toList_none, Option.toList_some, List.cons_append, List.nil_append, List.length_cons, List.length_nil, List.set_cons_zero, List.set_cons_succ, List.getElem?_cons_zero, List.getElem?_cons_succ, Nat.reduceAdd, Nat.reduceSub, Nat.reduceMul, Nat.reduceEqDiff, Nat.reduceLeDiff, Nat.reduceLT, Nat.reduceDiv, Bool.false_eq_true, ↓reduceIte, true_and, and_true, false_and, and_false, reduceCtorEq, if_true, Nat.zero_add, cl, lt_nI, le_nI, eq_nI, in_nI, z_nI, retok, or_true, true_or, false_or, or_false, Nat.one_ne_zero, ne_eq, not_false_eq_true, not_true_eq_false, forall_const, Option.isSome_some, false_implies, implies_true, hput_1, hnew_1, vcat1, Nat.le_refl, Nat.not_lt_zero, Nat.lt_irrefl, hput_eq, hput_ne, hput_put, DJ5_isLatin1_aae02, DJ5_isLatin1_aae02_0, TJ5_isLatin1_aae02, FT_15, MT_15, SC_15, OI_a, AC_a, NT_a, a, j1]
  exact hq
set_option maxRecDepth 20000 in
set_option maxHeartbeats 4000000 in
theorem c_newLength {G : GT} {h : Hp} {a g p d : Nat} {Q : RT → Hp → Prop} (hd : 1 ≤ d) (ha : a < 100000) (hg : g < 100000) (hp : p < 100000) (h0 : 0 < g) (hq : Q (.inl (some (.int (nI (a + max g p))))) h) : Ct G mJ8_newLength_cabcc d 0 0 [.int (nI a), .int (nI g), .int (nI p)] h Q := by
  have e1 : (if nI g < nI p then nI p else nI g) = nI (max g p) := by
    rw [ite_nI]; congr 1
    rw [Nat.max_def]
    by_cases q : g < p
    · rw [if_pos (by rw [lt_nI (by omega) (by omega)]; exact q), if_pos (by omega)]
    · rw [if_neg (by rw [lt_nI (by omega) (by omega)]; exact q)]; split <;> omega
  have e1' : (if g < p then nI p else nI g) = nI (max g p) := by
    rw [ite_nI]; congr 1
    rw [Nat.max_def]; split <;> split <;> omega
  have hm : max g p < 100000 := by omega
  have hm0 : 0 < max g p := by omega
  have e2 : (2147483639 < nI (a + max g p)) = False := eq_false (by rw [show (2147483639 : Int32) = nI 2147483639 from rfl, lt_nI (by omega) (by omega)]; omega)
  have e3 : (a + max g p ≤ 0) = False := eq_false (by omega)
  refine Ct.of rfl rfl (Nat.le_of_ble_eq_true rfl) ?_
  show V G mJ8_newLength_cabcc _ _ _ 0 [some (.int (nI a)), some (.int (nI g)), some (.int (nI p)), none] [] h Q
  refine V_walk [] 20 ?_
  simp (disch := first | omega | assumption) only [↓wstep, ↓wq_s, ↓wq_0, stp, ↓WR0, ↓WR1, ↓WR2, ↓WR3, ↓WR4, ↓WR5, ↓WR6, ↓WR7, ↓WR8, ↓WR9, ↓WR10, ↓WR11, ↓WR12, WI0, WI1, WI2, WI3, fv_0, fv_1, fv_2, fv_3, lkI_0, lkI_1, kip, kin, tgp, tkp, tgn, tkn, bip, bin, sip, lget, lset1, lset2, lcat2, ↓ws_get, ↓ws_put, ws_cell, ws_cell1, ws_hcell, ws_hcell3, ws_hcell1, ↓cellOf, ↓ws_call, ↓ws_callS, ↓ws_oi, ↓ws_ac, ↓ws_mm, ↓ws_post, ↓ws_exc, popN, rok, clsAt, cnOf, catS_nil, catS_i, catS_r, catS_n, catS_l, catS_d, catS_f, nokc, Option.toList_none, Option.toList_some, List.cons_append, List.nil_append, List.length_cons, List.length_nil, List.set_cons_zero, List.set_cons_succ, List.getElem?_cons_zero, List.getElem?_cons_succ, Nat.reduceAdd, Nat.reduceSub, Nat.reduceMul, Nat.reduceEqDiff, Nat.reduceLeDiff, Nat.reduceLT, Nat.reduceDiv, Bool.false_eq_true, ↓reduceIte, true_and, and_true, false_and, and_false, reduceCtorEq, if_true, Nat.zero_add, cl, lt_nI, le_nI, eq_nI, in_nI, z_nI, retok, or_true, true_or, false_or, or_false, Nat.one_ne_zero, ne_eq, not_false_eq_true, not_true_eq_false, forall_const, Option.isSome_some, false_implies, implies_true, hput_1, hnew_1, vcat1, Nat.le_refl, Nat.not_lt_zero, Nat.lt_irrefl, hput_eq, hput_ne, hput_put, DJ8_newLength_cabcc, DJ8_newLength_cabcc_0, TJ8_newLength_cabcc, MT_18, SC_18, DJ8_hugeLength_7cf53, OI_a, AC_a, NT_a, e1, e1', nI_add, ct_e, e2, e3]
  exact ⟨by omega, hq⟩
set_option maxRecDepth 20000 in
set_option maxHeartbeats 4000000 in
theorem c_newCap {G : GT} {h : Hp} {s v cap n m d : Nat} {ml : Int32} {g : Nat → Int32} {Q : RT → Hp → Prop} (hd : 2 ≤ d) (a : SB h s v cap n ml g) (hc : cap < 1000) (hm : cap < m) (hm2 : m ≤ 2 * cap + 2) (hq : Q (.inl (some (.int (nI (2 * cap + 2))))) h) : Ct G mJ5_newCapacity_0f7a4 d 0 0 [.ref s, .int (nI m)] h Q := by
  obtain ⟨a0, a1⟩ := a
  unfold sbE at a0
  have e1 := shl0 m
  have e2 : nI m - nI cap = nI (m - cap) := sub_nI (by omega)
  have e3 := shl0 2
  have e4 : (nI (2 * cap + 2) = (2147483647 : Int32)) = False := eq_false (by rw [show (2147483647 : Int32) = nI 2147483647 from rfl, eq_nI (by omega) (by omega)]; omega)
  have e5 := shr0 (m := 2 * cap + 2) (by omega)
  refine Ct.of rfl rfl (Nat.le_of_ble_eq_true rfl) ?_
  show V G mJ5_newCapacity_0f7a4 _ _ _ 0 [some (.ref s), some (.int (nI m)), none, none, none, none] [] h Q
  refine V_walk [] 60 ?_
  simp (disch := first | omega | assumption) only [↓wstep, ↓wq_s, ↓wq_0, stp, ↓WR0, ↓WR1, ↓WR2, ↓WR3, ↓WR4, ↓WR5, ↓WR6, ↓WR7, ↓WR8, ↓WR9, ↓WR10, ↓WR11, ↓WR12, WI0, WI1, WI2, WI3, fv_0, fv_1, fv_2, fv_3, lkI_0, lkI_1, kip, kin, tgp, tkp, tgn, tkn, bip, bin, sip, lget, lset1, lset2, lcat2, ↓ws_get, ↓ws_put, ws_cell, ws_cell1, ws_hcell, ws_hcell3, ws_hcell1, ↓cellOf, ↓ws_call, ↓ws_callS, ↓ws_oi, ↓ws_ac, ↓ws_mm, ↓ws_post, ↓ws_exc, popN, rok, clsAt, cnOf, catS_nil, catS_i, catS_r, catS_n, catS_l, catS_d, catS_f, nokc, Option.toList_none, Option.toList_some, List.cons_append, List.nil_append, List.length_cons, List.length_nil, List.set_cons_zero, List.set_cons_succ, List.getElem?_cons_zero, List.getElem?_cons_succ, Nat.reduceAdd, Nat.reduceSub, Nat.reduceMul, Nat.reduceEqDiff, Nat.reduceLeDiff, Nat.reduceLT, Nat.reduceDiv, Bool.false_eq_true, ↓reduceIte, true_and, and_true, false_and, and_false, reduceCtorEq, if_true, Nat.zero_add, cl, lt_nI, le_nI, eq_nI, in_nI, z_nI, retok, or_true, true_or, false_or, or_false, Nat.one_ne_zero, ne_eq, not_false_eq_true, not_true_eq_false, forall_const, Option.isSome_some, false_implies, implies_true, hput_1, hnew_1, vcat1, Nat.le_refl, Nat.not_lt_zero, Nat.lt_irrefl, hput_eq, hput_ne, hput_put, DJ5_newCapacity_0f7a4, DJ5_newCapacity_0f7a4_0, TJ5_newCapacity_0f7a4, FT_15, MT_15, SC_15, DJ8_newLength_cabcc, OI_a, AC_a, NT_a, a0, a1, e1, e2, e3, nI_add]
  refine CtE.of0 (by omega) (c_newLength (by omega) (by omega) (by omega) (by omega) (by omega) ?_)
  rw [show cap + max (m - cap) (cap + 2) = 2 * cap + 2 from by omega]
  simp (disch := first | omega | assumption) only [↓wstep, ↓wq_s, ↓wq_0, stp, ↓WR0, ↓WR1, ↓WR2, ↓WR3, ↓WR4, ↓WR5, ↓WR6, ↓WR7, ↓WR8, ↓WR9, ↓WR10, ↓WR11, ↓WR12, WI0, WI1, WI2, WI3, fv_0, fv_1, fv_2, fv_3, lkI_0, lkI_1, kip, kin, tgp, tkp, tgn, tkn, bip, bin, sip, lget, lset1, lset2, lcat2, ↓ws_get, ↓ws_put, ws_cell, ws_cell1, ws_hcell, ws_hcell3, ws_hcell1, ↓cellOf, ↓ws_call, ↓ws_callS, ↓ws_oi, ↓ws_ac, ↓ws_mm, ↓ws_post, ↓ws_exc, popN, rok, clsAt, cnOf, catS_nil, catS_i, catS_r, catS_n, catS_l, catS_d, catS_f, nokc, Option.toList_none, Option.toList_some, List.cons_append, List.nil_append, List.length_cons, List.length_nil, List.set_cons_zero, List.set_cons_succ, List.getElem?_cons_zero, List.getElem?_cons_succ, Nat.reduceAdd, Nat.reduceSub, Nat.reduceMul, Nat.reduceEqDiff, Nat.reduceLeDiff, Nat.reduceLT, Nat.reduceDiv, Bool.false_eq_true, ↓reduceIte, true_and, and_true, false_and, and_false, reduceCtorEq, if_true, Nat.zero_add, cl, lt_nI, le_nI, eq_nI, in_nI, z_nI, retok, or_true, true_or, false_or, or_false, Nat.one_ne_zero, ne_eq, not_false_eq_true, not_true_eq_false, forall_const, Option.isSome_some, false_implies, implies_true, hput_1, hnew_1, vcat1, Nat.le_refl, Nat.not_lt_zero, Nat.lt_irrefl, hput_eq, hput_ne, hput_put, DJ5_newCapacity_0f7a4, DJ5_newCapacity_0f7a4_0, TJ5_newCapacity_0f7a4, FT_15, MT_15, SC_15, DJ8_newLength_cabcc, OI_a, AC_a, NT_a, a0, ct_e, e4, e5]
  exact hq
set_option maxRecDepth 20000 in
set_option maxHeartbeats 4000000 in
theorem c_copyOf {G : GT} {h : Hp} {v cap m d : Nat} {g : Nat → Int32} {Q : RT → Hp → Prop} (hd : 1 ≤ d) (a1 : h.2 v = some (.inl (4, cap, .inl g))) (hf : ∀ k, k < cap → fits .byte (.int (g k)) = true) (hv : v < h.1) (hc : cap < m) (hm : m < 60000) (hq : ∀ h' g', h'.1 = h.1 + 1 → (∀ b, b < h.1 → h'.2 b = h.2 b) → h'.2 h.1 = some (.inl (4, m, .inl g')) → (∀ k, k < cap → g' k = g k) → (∀ k, cap ≤ k → g' k = nI 0) → Q (.inl (some (.ref h.1))) h') : Ct G mJ7_copyOf_9075b d 1 m [.ref v, .int (nI m)] h Q := by
  have e0 : (m = cap) = False := eq_false (by omega)
  have e1 : (if nI m < nI cap then nI m else nI cap) = nI cap := if_neg (by rw [lt_nI (by omega) (by omega)]; omega)
  have e1' : (if m < cap then nI m else nI cap) = nI cap := if_neg (by omega)
  have hv2 : (v = h.1) = False := eq_false (by omega)
  refine Ct.of rfl rfl (Nat.le_of_ble_eq_true rfl) ?_
  show V G mJ7_copyOf_9075b _ _ _ 0 [some (.ref v), some (.int (nI m)), none] [] h Q
  refine V_walk [14] 10 ?_
  simp (disch := first | omega | assumption) only [↓wstep, ↓wq_s, ↓wq_0, stp, ↓WR0, ↓WR1, ↓WR2, ↓WR3, ↓WR4, ↓WR5, ↓WR6, ↓WR7, ↓WR8, ↓WR9, ↓WR10, ↓WR11, ↓WR12, WI0, WI1, WI2, WI3, fv_0, fv_1, fv_2, fv_3, lkI_0, lkI_1, kip, kin, tgp, tkp, tgn, tkn, bip, bin, sip, lget, lset1, lset2, lcat2, ↓ws_get, ↓ws_put, ws_cell, ws_cell1, ws_hcell, ws_hcell3, ws_hcell1, ↓cellOf, ↓ws_call, ↓ws_callS, ↓ws_oi, ↓ws_ac, ↓ws_mm, ↓ws_post, ↓ws_exc, popN, rok, clsAt, cnOf, catS_nil, catS_i, catS_r, catS_n, catS_l, catS_d, catS_f, nokc, Option.toList_none, Option.toList_some, List.cons_append, List.nil_append, List.length_cons, List.length_nil, List.set_cons_zero, List.set_cons_succ, List.getElem?_cons_zero, List.getElem?_cons_succ, Nat.reduceAdd, Nat.reduceSub, Nat.reduceMul, Nat.reduceEqDiff, Nat.reduceLeDiff, Nat.reduceLT, Nat.reduceDiv, Bool.false_eq_true, ↓reduceIte, true_and, and_true, false_and, and_false, reduceCtorEq, if_true, Nat.zero_add, cl, lt_nI, le_nI, eq_nI, in_nI, z_nI, retok, or_true, true_or, false_or, or_false, Nat.one_ne_zero, ne_eq, not_false_eq_true, not_true_eq_false, forall_const, Option.isSome_some, false_implies, implies_true, hput_1, hnew_1, vcat1, Nat.le_refl, Nat.not_lt_zero, Nat.lt_irrefl, hput_eq, hput_ne, hput_put, DJ7_copyOf_9075b, DJ7_copyOf_9075b_0, TJ7_copyOf_9075b, MT_17, SC_17, OI_a, AC_a, NT_a, a1, e0]
  refine V_walk [17] 40 ?_
  simp (disch := first | omega | assumption) only [↓wstep, ↓wq_s, ↓wq_0, stp, ↓WR0, ↓WR1, ↓WR2, ↓WR3, ↓WR4, ↓WR5, ↓WR6, ↓WR7, ↓WR8, ↓WR9, ↓WR10, ↓WR11, ↓WR12, WI0, WI1, WI2, WI3, fv_0, fv_1, fv_2, fv_3, lkI_0, lkI_1, kip, kin, tgp, tkp, tgn, tkn, bip, bin, sip, lget, lset1, lset2, lcat2, ↓ws_get, ↓ws_put, ws_cell, ws_cell1, ws_hcell, ws_hcell3, ws_hcell1, ↓cellOf, ↓ws_call, ↓ws_callS, ↓ws_oi, ↓ws_ac, ↓ws_mm, ↓ws_post, ↓ws_exc, popN, rok, clsAt, cnOf, catS_nil, catS_i, catS_r, catS_n, catS_l, catS_d, catS_f, nokc, Option.toList_none, Option.toList_some, List.cons_append, List.nil_append, List.length_cons, List.length_nil, List.set_cons_zero, List.set_cons_succ, List.getElem?_cons_zero, List.getElem?_cons_succ, Nat.reduceAdd, Nat.reduceSub, Nat.reduceMul, Nat.reduceEqDiff, Nat.reduceLeDiff, Nat.reduceLT, Nat.reduceDiv, Bool.false_eq_true, ↓reduceIte, true_and, and_true, false_and, and_false, reduceCtorEq, if_true, Nat.zero_add, cl, lt_nI, le_nI, eq_nI, in_nI, z_nI, retok, or_true, true_or, false_or, or_false, Nat.one_ne_zero, ne_eq, not_false_eq_true, not_true_eq_false, forall_const, Option.isSome_some, false_implies, implies_true, hput_1, hnew_1, vcat1, Nat.le_refl, Nat.not_lt_zero, Nat.lt_irrefl, hput_eq, hput_ne, hput_put, DJ7_copyOf_9075b, DJ7_copyOf_9075b_0, TJ7_copyOf_9075b, MT_17, SC_17, OI_a, AC_a, NT_a, a1, atn]
  refine ⟨m, rfl, by omega, by omega, ?_⟩
  have b1 : (hnew h (.inl (4, zrow 4 m))).2 v = some (.inl (4, cap, .inl g)) := by rw [hnew_if, if_neg (by omega)]; exact a1
  have b2 : (hnew h (.inl (4, zrow 4 m))).2 h.1 = some (.inl (4, m, .inl (fun _ => nI 0))) := by rw [hnew_if, if_pos rfl]; rfl
  refine V_walk [] 40 ?_
  simp (disch := first | omega | assumption) only [↓wstep, ↓wq_s, ↓wq_0, stp, ↓WR0, ↓WR1, ↓WR2, ↓WR3, ↓WR4, ↓WR5, ↓WR6, ↓WR7, ↓WR8, ↓WR9, ↓WR10, ↓WR11, ↓WR12, WI0, WI1, WI2, WI3, fv_0, fv_1, fv_2, fv_3, lkI_0, lkI_1, kip, kin, tgp, tkp, tgn, tkn, bip, bin, sip, lget, lset1, lset2, lcat2, ↓ws_get, ↓ws_put, ws_cell, ws_cell1, ws_hcell, ws_hcell3, ws_hcell1, ↓cellOf, ↓ws_call, ↓ws_callS, ↓ws_oi, ↓ws_ac, ↓ws_mm, ↓ws_post, ↓ws_exc, popN, rok, clsAt, cnOf, catS_nil, catS_i, catS_r, catS_n, catS_l, catS_d, catS_f, nokc, Option.toList_none, Option.toList_some, List.cons_append, List.nil_append, List.length_cons, List.length_nil, List.set_cons_zero, List.set_cons_succ, List.getElem?_cons_zero, List.getElem?_cons_succ, Nat.reduceAdd, Nat.reduceSub, Nat.reduceMul, Nat.reduceEqDiff, Nat.reduceLeDiff, Nat.reduceLT, Nat.reduceDiv, Bool.false_eq_true, ↓reduceIte, true_and, and_true, false_and, and_false, reduceCtorEq, if_true, Nat.zero_add, cl, lt_nI, le_nI, eq_nI, in_nI, z_nI, retok, or_true, true_or, false_or, or_false, Nat.one_ne_zero, ne_eq, not_false_eq_true, not_true_eq_false, forall_const, Option.isSome_some, false_implies, implies_true, hput_1, hnew_1, vcat1, Nat.le_refl, Nat.not_lt_zero, Nat.lt_irrefl, hput_eq, hput_ne, hput_put, DJ7_copyOf_9075b, DJ7_copyOf_9075b_0, TJ7_copyOf_9075b, MT_17, SC_17, OI_a, AC_a, NT_a, b1, b2, e1, e1', cpfit, tyOf]
  refine ⟨hd, by omega, hf, hd, rfl, hq _ _ rfl (fun b hb => ?_) (hput_eq _ _ _) (fun k hk => ?_) (fun k hk => ?_)⟩
  · rw [hput_ne (by omega), hnew_if, if_neg (by omega)]
  · rw [pk_cpy_in (by omega) (by omega)]; congr 1; omega
  · rw [pk_cpy_out (by omega)]
/-- all are bytes of plain letters -/
def Fb (g : Nat → Int32) (cap : Nat) : Prop := ∀ k, k < cap → ∃ c, c < 128 ∧ g k = nI c
theorem by_all : ∀ c, c < 128 → fits .byte (.int (nI c)) = true ∧ (nI c).toInt8.toInt32 = nI c ∧ nI c &&& nI 255 = nI c := by decide +kernel
theorem nb (c : Nat) (h : c < 128) : vp_nar .byte (nI c) = nI c := by rw [vp_nar_byte]; exact (by_all c h).2.1
theorem Fb.upd {g : Nat → Int32} {cap k c : Nat} (h : Fb g cap) (hc : c < 128) : Fb (upd g k (nI c)) cap := fun j hj => by
  by_cases e : j = k
  · subst e; exact ⟨c, hc, pk_us⟩
  · rw [pk_un e]; exact h j hj
def caN (m cap : Nat) : Nat := if m ≤ cap then cap else 2 * cap + 2
def ceN (m cap : Nat) : Nat := if m ≤ cap then 0 else 1
def slN (m cap : Nat) : Nat := if m ≤ cap then 0 else 2 * cap + 2
set_option maxRecDepth 20000 in
set_option maxHeartbeats 4000000 in
theorem c_ensure {G : GT} {h : Hp} {s v cap n m d : Nat} {ml : Int32} {g : Nat → Int32} {Q : RT → Hp → Prop} (hd : 4 ≤ d) (a : SB h s v cap n ml g) (hb : Fb g cap) (hs : s < h.1) (hv : v < h.1) (hsv : v ≠ s) (hc : cap < 1000) (hm2 : m ≤ 2 * cap + 2) (hq : ∀ h' v' g', h'.1 = h.1 + ceN m cap → (∀ b, b ≠ s → b < h.1 → h'.2 b = h.2 b) → SB h' s v' (caN m cap) n ml g' → Fb g' (caN m cap) → (∀ k, k < cap → g' k = g k) → (v' = v ∨ v' = h.1) → v' < h'.1 → v' ≠ s → Q (.inl none) h') : Ct G mJ5_ensureCapacityInternal_d00df d (ceN m cap) (slN m cap) [.ref s, .int (nI m)] h Q := by
  have a' := a
  obtain ⟨a0, a1⟩ := a
  unfold sbE at a0
  have e1 := shr0 (m := cap) (by omega)
  have e5 := shl0 (2 * cap + 2)
  by_cases q : m ≤ cap
  · have e2 : (nI m - nI cap ≤ nI 0) = True := eq_true (by rw [Int32.le_iff_toInt_le, pk_sub_toInt (by omega) (by omega), nI_toInt (by omega)]; omega)
    unfold caN ceN at hq
    unfold ceN slN
    rw [if_pos q, if_pos q]
    rw [if_pos q, if_pos q] at hq
    refine Ct.of rfl rfl (Nat.le_of_ble_eq_true rfl) ?_
    show V G mJ5_ensureCapacityInternal_d00df _ _ _ 0 [some (.ref s), some (.int (nI m)), none] [] h Q
    refine V_walk [] 40 ?_
    simp (disch := first | omega | assumption) only [↓wstep, ↓wq_s, ↓wq_0, stp, ↓WR0, ↓WR1, ↓WR2, ↓WR3, ↓WR4, ↓WR5, ↓WR6, ↓WR7, ↓WR8, ↓WR9, ↓WR10, ↓WR11, ↓WR12, WI0, WI1, WI2, WI3, fv_0, fv_1, fv_2, fv_3, lkI_0, lkI_1, kip, kin, tgp, tkp, tgn, tkn, bip, bin, sip, lget, lset1, lset2, lcat2, ↓ws_get, ↓ws_put, ws_cell, ws_cell1, ws_hcell, ws_hcell3, ws_hcell1, ↓cellOf, ↓ws_call, ↓ws_callS, ↓ws_oi, ↓ws_ac, ↓ws_mm, ↓ws_post, ↓ws_exc, popN, rok, clsAt, cnOf, catS_nil, catS_i, catS_r, catS_n, catS_l, catS_d, catS_f, nokc, Option.toList_none, Option.toList_some, List.cons_append, List.nil_append, List.length_cons, List.length_nil, List.set_cons_zero, List.set_cons_succ, List.getElem?_cons_zero, List.getElem?_cons_succ, Nat.reduceAdd, Nat.reduceSub, Nat.reduceMul, Nat.reduceEqDiff, Nat.reduceLeDiff, Nat.reduceLT, Nat.reduceDiv, Bool.false_eq_true, ↓reduceIte, true_and, and_true, false_and, and_false, reduceCtorEq, if_true, Nat.zero_add, cl, lt_nI, le_nI, eq_nI, in_nI, z_nI, retok, or_true, true_or, false_or, or_false, Nat.one_ne_zero, ne_eq, not_false_eq_true, not_true_eq_false, forall_const, Option.isSome_some, false_implies, implies_true, hput_1, hnew_1, vcat1, Nat.le_refl, Nat.not_lt_zero, Nat.lt_irrefl, hput_eq, hput_ne, hput_put, DJ5_ensureCapacityInternal_d00df, DJ5_ensureCapacityInternal_d00df_0, TJ5_ensureCapacityInternal_d00df, FT_15, MT_15, SC_15, DJ5_newCapacity_0f7a4, DJ7_copyOf_9075b, OI_a, AC_a, NT_a, a0, a1, e1, e2]
    exact hq h v g rfl (fun _ _ _ => rfl) a' hb (fun _ _ => rfl) (Or.inl rfl) hv hsv
  · have e2 : nI m - nI cap = nI (m - cap) := sub_nI (by omega)
    have e3 : (m - cap ≤ 0) = False := eq_false (by omega)
    unfold caN ceN at hq
    unfold ceN slN
    rw [if_neg q, if_neg q]
    rw [if_neg q, if_neg q] at hq
    refine Ct.of rfl rfl (Nat.le_of_ble_eq_true rfl) ?_
    show V G mJ5_ensureCapacityInternal_d00df _ _ _ 0 [some (.ref s), some (.int (nI m)), none] [] h Q
    refine V_walk [] 40 ?_
    simp (disch := first | omega | assumption) only [↓wstep, ↓wq_s, ↓wq_0, stp, ↓WR0, ↓WR1, ↓WR2, ↓WR3, ↓WR4, ↓WR5, ↓WR6, ↓WR7, ↓WR8, ↓WR9, ↓WR10, ↓WR11, ↓WR12, WI0, WI1, WI2, WI3, fv_0, fv_1, fv_2, fv_3, lkI_0, lkI_1, kip, kin, tgp, tkp, tgn, tkn, bip, bin, sip, lget, lset1, lset2, lcat2, ↓ws_get, ↓ws_put, ws_cell, ws_cell1, ws_hcell, ws_hcell3, ws_hcell1, ↓cellOf, ↓ws_call, ↓ws_callS, ↓ws_oi, ↓ws_ac, ↓ws_mm, ↓ws_post, ↓ws_exc, popN, rok, clsAt, cnOf, catS_nil, catS_i, catS_r, catS_n, catS_l, catS_d, catS_f, nokc, Option.toList_none, Option.toList_some, List.cons_append, List.nil_append, List.length_cons, List.length_nil, List.set_cons_zero, List.set_cons_succ, List.getElem?_cons_zero, List.getElem?_cons_succ, Nat.reduceAdd, Nat.reduceSub, Nat.reduceMul, Nat.reduceEqDiff, Nat.reduceLeDiff, Nat.reduceLT, Nat.reduceDiv, Bool.false_eq_true, ↓reduceIte, true_and, and_true, false_and, and_false, reduceCtorEq, if_true, Nat.zero_add, cl, lt_nI, le_nI, eq_nI, in_nI, z_nI, retok, or_true, true_or, false_or, or_false, Nat.one_ne_zero, ne_eq, not_false_eq_true, not_true_eq_false, forall_const, Option.isSome_some, false_implies, implies_true, hput_1, hnew_1, vcat1, Nat.le_refl, Nat.not_lt_zero, Nat.lt_irrefl, hput_eq, hput_ne, hput_put, DJ5_ensureCapacityInternal_d00df, DJ5_ensureCapacityInternal_d00df_0, TJ5_ensureCapacityInternal_d00df, FT_15, MT_15, SC_15, DJ5_newCapacity_0f7a4, DJ7_copyOf_9075b, OI_a, AC_a, NT_a, a0, a1, e1, e2, e3]
    refine CtE.of0 (by omega) (c_newCap (by omega) a' hc (by omega) hm2 ?_)
    simp (disch := first | omega | assumption) only [↓wstep, ↓wq_s, ↓wq_0, stp, ↓WR0, ↓WR1, ↓WR2, ↓WR3, ↓WR4, ↓WR5, ↓WR6, ↓WR7, ↓WR8, ↓WR9, ↓WR10, ↓WR11, ↓WR12, WI0, WI1, WI2, WI3, fv_0, fv_1, fv_2, fv_3, lkI_0, lkI_1, kip, kin, tgp, tkp, tgn, tkn, bip, bin, sip, lget, lset1, lset2, lcat2, ↓ws_get, ↓ws_put, ws_cell, ws_cell1, ws_hcell, ws_hcell3, ws_hcell1, ↓cellOf, ↓ws_call, ↓ws_callS, ↓ws_oi, ↓ws_ac, ↓ws_mm, ↓ws_post, ↓ws_exc, popN, rok, clsAt, cnOf, catS_nil, catS_i, catS_r, catS_n, catS_l, catS_d, catS_f, nokc, Option.toList_none, Option.toList_some, List.cons_append, List.nil_append, List.length_cons, List.length_nil, List.set_cons_zero, List.set_cons_succ, List.getElem?_cons_zero, List.getElem?_cons_succ, Nat.reduceAdd, Nat.reduceSub, Nat.reduceMul, Nat.reduceEqDiff, Nat.reduceLeDiff, Nat.reduceLT, Nat.reduceDiv, Bool.false_eq_true, ↓reduceIte, true_and, and_true, false_and, and_false, reduceCtorEq, if_true, Nat.zero_add, cl, lt_nI, le_nI, eq_nI, in_nI, z_nI, retok, or_true, true_or, false_or, or_false, Nat.one_ne_zero, ne_eq, not_false_eq_true, not_true_eq_false, forall_const, Option.isSome_some, false_implies, implies_true, hput_1, hnew_1, vcat1, Nat.le_refl, Nat.not_lt_zero, Nat.lt_irrefl, hput_eq, hput_ne, hput_put, DJ5_ensureCapacityInternal_d00df, DJ5_ensureCapacityInternal_d00df_0, TJ5_ensureCapacityInternal_d00df, FT_15, MT_15, SC_15, DJ5_newCapacity_0f7a4, DJ7_copyOf_9075b, OI_a, AC_a, NT_a, a0, e5]
    refine CtE.of (d - 1) 1 (2 * cap + 2) (by omega) (by omega) (by omega) (c_copyOf (by omega) a1 (fun k hk => by obtain ⟨c, h1, h2⟩ := hb k hk; rw [h2]; exact (by_all c h1).1) hv (by omega) (by omega) (fun h1 g1 k1 k2 k3 k4 k5 => ?_))
    have c0 := (k2 s hs).trans a0
    simp (disch := first | omega | assumption) only [↓wstep, ↓wq_s, ↓wq_0, stp, ↓WR0, ↓WR1, ↓WR2, ↓WR3, ↓WR4, ↓WR5, ↓WR6, ↓WR7, ↓WR8, ↓WR9, ↓WR10, ↓WR11, ↓WR12, WI0, WI1, WI2, WI3, fv_0, fv_1, fv_2, fv_3, lkI_0, lkI_1, kip, kin, tgp, tkp, tgn, tkn, bip, bin, sip, lget, lset1, lset2, lcat2, ↓ws_get, ↓ws_put, ws_cell, ws_cell1, ws_hcell, ws_hcell3, ws_hcell1, ↓cellOf, ↓ws_call, ↓ws_callS, ↓ws_oi, ↓ws_ac, ↓ws_mm, ↓ws_post, ↓ws_exc, popN, rok, clsAt, cnOf, catS_nil, catS_i, catS_r, catS_n, catS_l, catS_d, catS_f, nokc, Option.toList_none, Option.toList_some, List.cons_append, List.nil_append, List.length_cons, List.length_nil, List.set_cons_zero, List.set_cons_succ, List.getElem?_cons_zero, List.getElem?_cons_succ, Nat.reduceAdd, Nat.reduceSub, Nat.reduceMul, Nat.reduceEqDiff, Nat.reduceLeDiff, Nat.reduceLT, Nat.reduceDiv, Bool.false_eq_true, ↓reduceIte, true_and, and_true, false_and, and_false, reduceCtorEq, if_true, Nat.zero_add, cl, lt_nI, le_nI, eq_nI, in_nI, z_nI, retok, or_true, true_or, false_or, or_false, Nat.one_ne_zero, ne_eq, not_false_eq_true, not_true_eq_false, forall_const, Option.isSome_some, false_implies, implies_true, hput_1, hnew_1, vcat1, Nat.le_refl, Nat.not_lt_zero, Nat.lt_irrefl, hput_eq, hput_ne, hput_put, DJ5_ensureCapacityInternal_d00df, DJ5_ensureCapacityInternal_d00df_0, TJ5_ensureCapacityInternal_d00df, FT_15, MT_15, SC_15, DJ5_newCapacity_0f7a4, DJ7_copyOf_9075b, OI_a, AC_a, NT_a, c0]
    refine hq _ h.1 g1 k1 (fun b h1 h2 => (hput_ne h1).trans (k2 b h2)) ⟨hput_eq _ _ _, (hput_ne (by omega)).trans k3⟩ (fun k hk => ?_) k4 (Or.inr rfl) (by rw [hput_1, k1]; omega) (by omega)
    by_cases q2 : k < cap
    · rw [k4 k q2]; exact hb k q2
    · exact ⟨0, by omega, k5 k (by omega)⟩
