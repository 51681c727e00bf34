/-! ===== the library's StringBuilder: a number more ===== -/
theorem ngl {a b : Nat} (ha : a < 2 ^ 30) (hb : b < 2 ^ 30) : (-nI a < -nI b) = (b < a) := by
  have h : ∀ n, n < 2 ^ 30 → (-nI n).toInt = -(n : Int) := fun n hn => by
    have := pk_sub_toInt (a := 0) (b := n) (by omega) hn
    rw [show nI 0 - nI n = -nI n from Int32.zero_sub _] at this
    omega
  rw [Int32.lt_iff_toInt_lt, h a ha, h b hb]
  exact propext ⟨fun q => by omega, fun q => by omega⟩
theorem ngle {a b : Nat} (ha : a < 2 ^ 30) (hb : b < 2 ^ 30) : (-nI a ≤ -nI b) = (b ≤ a) := by
  rw [← Int32.not_lt, ngl hb ha]
  exact propext ⟨fun q => by omega, fun q => by omega⟩
theorem ngm (a b : Nat) : nI a * -nI b = -nI (a * b) := by rw [Int32.mul_neg, pk_mul]
theorem ngm2 (a b : Nat) : -nI a * nI b = -nI (a * b) := by rw [Int32.neg_mul, pk_mul]
theorem ngn (a : Nat) : - -nI a = nI a := Int32.neg_neg
theorem ngs {a b : Nat} (h : b ≤ a) : -nI b - -nI a = nI (a - b) := by
  rw [Int32.sub_neg, Int32.add_comm, add_neg, sub_nI h]
theorem ng_div : ∀ k, k < 10000 → -nI k / nI 100 = -nI (k / 100) := by
  intro k hk
  have h : chR (fun k => decide (-nI k / nI 100 = -nI (k / 100))) 14 0 = true := by decide +kernel
  exact of_decide_eq_true (chR_ok 14 0 k h (by omega) (by omega))
/-- how many digits -/
def nd (k : Nat) : Nat := if k < 10 then 1 else if k < 100 then 2 else if k < 1000 then 3 else 4
/-- the digit at place j, from the left -/
def dgv (k j : Nat) : Nat := if k < 10 then k else if k < 100 then (if j = 0 then k / 10 else k % 10) else if k < 1000 then (if j = 0 then k / 100 else if j = 1 then k / 10 % 10 else k % 10) else (if j = 0 then k / 1000 else if j = 1 then k / 100 % 10 else if j = 2 then k / 10 % 10 else k % 10)
set_option maxRecDepth 20000 in
set_option maxHeartbeats 4000000 in
theorem c_strSize {G : GT} {h : Hp} {k d : Nat} {Q : RT → Hp → Prop} (hk : k < 10000) (hq : Q (.inl (some (.int (nI (nd k))))) h) : Ct G mJ6_stringSize_0f7a4 d 0 0 [.int (nI k)] h Q := by
  unfold nd at hq
  have m1 : nI 10 * -nI 10 = -nI 100 := ngm 10 10
  have m2 : nI 10 * -nI 100 = -nI 1000 := ngm 10 100
  have m3 : nI 10 * -nI 1000 = -nI 10000 := ngm 10 1000
  have c1 := ngle (a := k) (b := 10) (by omega) (by omega)
  have c2 := ngle (a := k) (b := 100) (by omega) (by omega)
  have c3 := ngle (a := k) (b := 1000) (by omega) (by omega)
  have c4 := ngle (a := k) (b := 10000) (by omega) (by omega)
  by_cases q1 : k < 10
  · rw [if_pos q1] at hq
    have d1 : (10 ≤ k) = False := eq_false (by omega)
    refine Ct.of rfl rfl (Nat.le_of_ble_eq_true rfl) ?_
    show V G mJ6_stringSize_0f7a4 _ _ _ 0 [some (.int (nI k)), none, none, none] [] h Q
    refine V_walk [] 80 ?_
    simp (disch := first | omega | assumption) only [↓wstep, ↓wq_s, ↓wq_0, stp, ↓WR0, ↓WR1, ↓WR2, ↓WR3, ↓WR4, ↓WR5, ↓WR6, ↓WR7, ↓WR8, ↓WR9, ↓WR10, ↓WR11, ↓WR12, WI0, WI1, WI2, WI3, fv_0, fv_1, fv_2, fv_3, lkI_0, lkI_1, kip, kin, tgp, tkp, tgn, tkn, bip, bin, sip, lget, lset1, lset2, lcat2, ↓ws_get, ↓ws_put, ws_cell, ws_cell1, ws_hcell, ws_hcell3, ws_hcell1, ↓cellOf, ↓ws_call, ↓ws_callS, ↓ws_oi, ↓ws_ac, ↓ws_mm, ↓ws_post, ↓ws_exc, popN, rok, clsAt, cnOf, catS_nil, catS_i, catS_r, catS_n, catS_l, catS_d, catS_f, nokc, Option.toList_none, Option.toList_some, List.cons_append, List.nil_append, List.length_cons, List.length_nil, List.set_cons_zero, List.set_cons_succ, List.getElem?_cons_zero, List.getElem?_cons_succ, Nat.reduceAdd, Nat.reduceSub, Nat.reduceMul, Nat.reduceEqDiff, Nat.reduceLeDiff, Nat.reduceLT, Nat.reduceDiv, Bool.false_eq_true, ↓reduceIte, true_and, and_true, false_and, and_false, reduceCtorEq, if_true, Nat.zero_add, cl, lt_nI, le_nI, eq_nI, in_nI, z_nI, retok, or_true, true_or, false_or, or_false, Nat.one_ne_zero, ne_eq, not_false_eq_true, not_true_eq_false, forall_const, Option.isSome_some, false_implies, implies_true, hput_1, hnew_1, vcat1, Nat.le_refl, Nat.not_lt_zero, Nat.lt_irrefl, hput_eq, hput_ne, hput_put, DJ6_stringSize_0f7a4, DJ6_stringSize_0f7a4_0, TJ6_stringSize_0f7a4, OI_a, AC_a, NT_a, m1, m2, m3, c1, c2, c3, c4, d1, bin, nI_add]
    exact hq
  · rw [if_neg q1] at hq
    have d1 : (10 ≤ k) = True := eq_true (by omega)
    by_cases q2 : k < 100
    · rw [if_pos q2] at hq
      have d2 : (100 ≤ k) = False := eq_false (by omega)
      refine Ct.of rfl rfl (Nat.le_of_ble_eq_true rfl) ?_
      show V G mJ6_stringSize_0f7a4 _ _ _ 0 [some (.int (nI k)), none, none, none] [] h Q
      refine V_walk [] 80 ?_
      simp (disch := first | omega | assumption) only [↓wstep, ↓wq_s, ↓wq_0, stp, ↓WR0, ↓WR1, ↓WR2, ↓WR3, ↓WR4, ↓WR5, ↓WR6, ↓WR7, ↓WR8, ↓WR9, ↓WR10, ↓WR11, ↓WR12, WI0, WI1, WI2, WI3, fv_0, fv_1, fv_2, fv_3, lkI_0, lkI_1, kip, kin, tgp, tkp, tgn, tkn, bip, bin, sip, lget, lset1, lset2, lcat2, ↓ws_get, ↓ws_put, ws_cell, ws_cell1, ws_hcell, ws_hcell3, ws_hcell1, ↓cellOf, ↓ws_call, ↓ws_callS, ↓ws_oi, ↓ws_ac, ↓ws_mm, ↓ws_post, ↓ws_exc, popN, rok, clsAt, cnOf, catS_nil, catS_i, catS_r, catS_n, catS_l, catS_d, catS_f, nokc, Option.toList_none, Option.toList_some, List.cons_append, List.nil_append, List.length_cons, List.length_nil, List.set_cons_zero, List.set_cons_succ, List.getElem?_cons_zero, List.getElem?_cons_succ, Nat.reduceAdd, Nat.reduceSub, Nat.reduceMul, Nat.reduceEqDiff, Nat.reduceLeDiff, Nat.reduceLT, Nat.reduceDiv, Bool.false_eq_true, ↓reduceIte, true_and, and_true, false_and, and_false, reduceCtorEq, if_true, Nat.zero_add, cl, lt_nI, le_nI, eq_nI, in_nI, z_nI, retok, or_true, true_or, false_or, or_false, Nat.one_ne_zero, ne_eq, not_false_eq_true, not_true_eq_false, forall_const, Option.isSome_some, false_implies, implies_true, hput_1, hnew_1, vcat1, Nat.le_refl, Nat.not_lt_zero, Nat.lt_irrefl, hput_eq, hput_ne, hput_put, DJ6_stringSize_0f7a4, DJ6_stringSize_0f7a4_0, TJ6_stringSize_0f7a4, OI_a, AC_a, NT_a, m1, m2, m3, c1, c2, c3, c4, d1, d2, bin, nI_add]
      exact hq
    · rw [if_neg q2] at hq
      have d2 : (100 ≤ k) = True := eq_true (by omega)
      by_cases q3 : k < 1000
      · rw [if_pos q3] at hq
        have d3 : (1000 ≤ k) = False := eq_false (by omega)
        refine Ct.of rfl rfl (Nat.le_of_ble_eq_true rfl) ?_
        show V G mJ6_stringSize_0f7a4 _ _ _ 0 [some (.int (nI k)), none, none, none] [] h Q
        refine V_walk [] 80 ?_
        simp (disch := first | omega | assumption) only [↓wstep, ↓wq_s, ↓wq_0, stp, ↓WR0, ↓WR1, ↓WR2, ↓WR3, ↓WR4, ↓WR5, ↓WR6, ↓WR7, ↓WR8, ↓WR9, ↓WR10, ↓WR11, ↓WR12, WI0, WI1, WI2, WI3, fv_0, fv_1, fv_2, fv_3, lkI_0, lkI_1, kip, kin, tgp, tkp, tgn, tkn, bip, bin, sip, lget, lset1, lset2, lcat2, ↓ws_get, ↓ws_put, ws_cell, ws_cell1, ws_hcell, ws_hcell3, ws_hcell1, ↓cellOf, ↓ws_call, ↓ws_callS, ↓ws_oi, ↓ws_ac, ↓ws_mm, ↓ws_post, ↓ws_exc, popN, rok, clsAt, cnOf, catS_nil, catS_i, catS_r, catS_n, catS_l, catS_d, catS_f, nokc, Option.toList_none, Option.toList_some, List.cons_append, List.nil_append, List.length_cons, List.length_nil, List.set_cons_zero, List.set_cons_succ, List.getElem?_cons_zero, List.getElem?_cons_succ, Nat.reduceAdd, Nat.reduceSub, Nat.reduceMul, Nat.reduceEqDiff, Nat.reduceLeDiff, Nat.reduceLT, Nat.reduceDiv, Bool.false_eq_true, ↓reduceIte, true_and, and_true, false_and, and_false, reduceCtorEq, if_true, Nat.zero_add, cl, lt_nI, le_nI, eq_nI, in_nI, z_nI, retok, or_true, true_or, false_or, or_false, Nat.one_ne_zero, ne_eq, not_false_eq_true, not_true_eq_false, forall_const, Option.isSome_some, false_implies, implies_true, hput_1, hnew_1, vcat1, Nat.le_refl, Nat.not_lt_zero, Nat.lt_irrefl, hput_eq, hput_ne, hput_put, DJ6_stringSize_0f7a4, DJ6_stringSize_0f7a4_0, TJ6_stringSize_0f7a4, OI_a, AC_a, NT_a, m1, m2, m3, c1, c2, c3, c4, d1, d2, d3, bin, nI_add]
        exact hq
      · rw [if_neg q3] at hq
        have d3 : (1000 ≤ k) = True := eq_true (by omega)
        have d4 : (10000 ≤ k) = False := eq_false (by omega)
        refine Ct.of rfl rfl (Nat.le_of_ble_eq_true rfl) ?_
        show V G mJ6_stringSize_0f7a4 _ _ _ 0 [some (.int (nI k)), none, none, none] [] h Q
        refine V_walk [] 80 ?_
        simp (disch := first | omega | assumption) only [↓wstep, ↓wq_s, ↓wq_0, stp, ↓WR0, ↓WR1, ↓WR2, ↓WR3, ↓WR4, ↓WR5, ↓WR6, ↓WR7, ↓WR8, ↓WR9, ↓WR10, ↓WR11, ↓WR12, WI0, WI1, WI2, WI3, fv_0, fv_1, fv_2, fv_3, lkI_0, lkI_1, kip, kin, tgp, tkp, tgn, tkn, bip, bin, sip, lget, lset1, lset2, lcat2, ↓ws_get, ↓ws_put, ws_cell, ws_cell1, ws_hcell, ws_hcell3, ws_hcell1, ↓cellOf, ↓ws_call, ↓ws_callS, ↓ws_oi, ↓ws_ac, ↓ws_mm, ↓ws_post, ↓ws_exc, popN, rok, clsAt, cnOf, catS_nil, catS_i, catS_r, catS_n, catS_l, catS_d, catS_f, nokc, Option.toList_none, Option.toList_some, List.cons_append, List.nil_append, List.length_cons, List.length_nil, List.set_cons_zero, List.set_cons_succ, List.getElem?_cons_zero, List.getElem?_cons_succ, Nat.reduceAdd, Nat.reduceSub, Nat.reduceMul, Nat.reduceEqDiff, Nat.reduceLeDiff, Nat.reduceLT, Nat.reduceDiv, Bool.false_eq_true, ↓reduceIte, true_and, and_true, false_and, and_false, reduceCtorEq, if_true, Nat.zero_add, cl, lt_nI, le_nI, eq_nI, in_nI, z_nI, retok, or_true, true_or, false_or, or_false, Nat.one_ne_zero, ne_eq, not_false_eq_true, not_true_eq_false, forall_const, Option.isSome_some, false_implies, implies_true, hput_1, hnew_1, vcat1, Nat.le_refl, Nat.not_lt_zero, Nat.lt_irrefl, hput_eq, hput_ne, hput_put, DJ6_stringSize_0f7a4, DJ6_stringSize_0f7a4_0, TJ6_stringSize_0f7a4, OI_a, AC_a, NT_a, m1, m2, m3, c1, c2, c3, c4, d1, d2, d3, d4, bin, nI_add]
        exact hq
set_option maxRecDepth 20000 in
set_option maxHeartbeats 4000000 in
/-- what stands in the row behind the last one or two digits -/
theorem l_getTail {G : GT} {h : Hp} {k e v cap d : Nat} {x1 : Int32} {g : Nat → Int32} {y3 y4 : Option Value} {Q : RT → Hp → Prop} (hj : JW2 G) (hz : Zr G h) (hk : k < 100) (he : (if k < 10 then 1 else 2) ≤ e) (he2 : e ≤ cap) (hc : cap < 1000) (a1 : h.2 v = some (.inl (4, cap, .inl g))) (hv : b0 G ≤ v) (hq : ∀ g', (if k < 10 then g' (e - 1) = nI (48 + k) ∧ (∀ j, j ≠ e - 1 → g' j = g j) else g' (e - 1) = nI (48 + k % 10) ∧ g' (e - 2) = nI (48 + k / 10) ∧ ∀ j, j ≠ e - 1 → j ≠ e - 2 → g' j = g j) → Q (.inl (some (.int (nI (e - (if k < 10 then 1 else 2)))))) (hput h v (.inl (4, cap, .inl g')))) : V G mJ6_getChars_ba4f3 d 0 0 72 [some (.int (-nI k)), some (.int x1), some (.ref v), y3, y4, some (.int (nI e)), some (.int (nI 0))] [] h Q := by
  obtain ⟨-, p1, p2, l1, l2, s1, s2, t1, t2⟩ := hj
  have z1 := hz p1 l1
  have z2 := hz p2 l2
  have n1 := ngn k
  have hv1 : p1 ≠ v := by omega
  have hv2 : p2 ≠ v := by omega
  have w1 := nb (48 + k % 10) (by omega)
  have w2 := nb (48 + k / 10) (by omega)
  have e1 : nI e - nI 1 = nI (e - 1) := sub_nI (by split at he <;> omega)
  have c1 : (-nI k < -nI 9) = (9 < k) := ngl (by omega) (by omega)
  have c2 : (-nI 9 ≤ -nI k) = (k ≤ 9) := ngle (by omega) (by omega)
  have i1 : e - 1 < cap := by split at he <;> omega
  by_cases q : k < 10
  · rw [if_pos q] at hq he
    simp only [if_pos q] at hq
    have d2 : (k ≤ 9) = True := eq_true (by omega)
    refine V_walk [] 60 ?_
    simp (disch := first | omega | assumption) only [↓wstep, ↓wq_s, ↓wq_0, stp, ↓WR0, ↓WR1, ↓WR2, ↓WR3, ↓WR4, ↓WR5, ↓WR6, ↓WR7, ↓WR8, ↓WR9, ↓WR10, ↓WR11, ↓WR12, WI0, WI1, WI2, WI3, fv_0, fv_1, fv_2, fv_3, lkI_0, lkI_1, kip, kin, tgp, tkp, tgn, tkn, bip, bin, sip, lget, lset1, lset2, lcat2, ↓ws_get, ↓ws_put, ws_cell, ws_cell1, ws_hcell, ws_hcell3, ws_hcell1, ↓cellOf, ↓ws_call, ↓ws_callS, ↓ws_oi, ↓ws_ac, ↓ws_mm, ↓ws_post, ↓ws_exc, popN, rok, clsAt, cnOf, catS_nil, catS_i, catS_r, catS_n, catS_l, catS_d, catS_f, nokc, Option.toList_none, Option.toList_some, List.cons_append, List.nil_append, List.length_cons, List.length_nil, List.set_cons_zero, List.set_cons_succ, List.getElem?_cons_zero, List.getElem?_cons_succ, Nat.reduceAdd, Nat.reduceSub, Nat.reduceMul, Nat.reduceEqDiff, Nat.reduceLeDiff, Nat.reduceLT, Nat.reduceDiv, Bool.false_eq_true, ↓reduceIte, true_and, and_true, false_and, and_false, reduceCtorEq, if_true, Nat.zero_add, cl, lt_nI, le_nI, eq_nI, in_nI, z_nI, retok, or_true, true_or, false_or, or_false, Nat.one_ne_zero, ne_eq, not_false_eq_true, not_true_eq_false, forall_const, Option.isSome_some, false_implies, implies_true, hput_1, hnew_1, vcat1, Nat.le_refl, Nat.not_lt_zero, Nat.lt_irrefl, hput_eq, hput_ne, hput_put, DJ6_getChars_ba4f3, DJ6_getChars_ba4f3_0, DJ6_getChars_ba4f3_1, TJ6_getChars_ba4f3, OI_a, AC_a, NT_a, s1, s2, t1, t2, z1, z2, n1, a1, e1, w1, w2, c1, c2, d2, add_neg, bin]
    exact hq _ ⟨by rw [pk_us]; congr 2; omega, fun j hj => pk_un hj⟩
  · rw [if_neg q] at hq he
    simp only [if_neg q] at hq
    have d2 : (k ≤ 9) = False := eq_false (by omega)
    have e2 : nI (e - 1) - nI 1 = nI (e - 2) := by rw [sub_nI (by omega)]; rfl
    have i2 : e - 2 < cap := by omega
    refine V_walk [] 60 ?_
    simp (disch := first | omega | assumption) only [↓wstep, ↓wq_s, ↓wq_0, stp, ↓WR0, ↓WR1, ↓WR2, ↓WR3, ↓WR4, ↓WR5, ↓WR6, ↓WR7, ↓WR8, ↓WR9, ↓WR10, ↓WR11, ↓WR12, WI0, WI1, WI2, WI3, fv_0, fv_1, fv_2, fv_3, lkI_0, lkI_1, kip, kin, tgp, tkp, tgn, tkn, bip, bin, sip, lget, lset1, lset2, lcat2, ↓ws_get, ↓ws_put, ws_cell, ws_cell1, ws_hcell, ws_hcell3, ws_hcell1, ↓cellOf, ↓ws_call, ↓ws_callS, ↓ws_oi, ↓ws_ac, ↓ws_mm, ↓ws_post, ↓ws_exc, popN, rok, clsAt, cnOf, catS_nil, catS_i, catS_r, catS_n, catS_l, catS_d, catS_f, nokc, Option.toList_none, Option.toList_some, List.cons_append, List.nil_append, List.length_cons, List.length_nil, List.set_cons_zero, List.set_cons_succ, List.getElem?_cons_zero, List.getElem?_cons_succ, Nat.reduceAdd, Nat.reduceSub, Nat.reduceMul, Nat.reduceEqDiff, Nat.reduceLeDiff, Nat.reduceLT, Nat.reduceDiv, Bool.false_eq_true, ↓reduceIte, true_and, and_true, false_and, and_false, reduceCtorEq, if_true, Nat.zero_add, cl, lt_nI, le_nI, eq_nI, in_nI, z_nI, retok, or_true, true_or, false_or, or_false, Nat.one_ne_zero, ne_eq, not_false_eq_true, not_true_eq_false, forall_const, Option.isSome_some, false_implies, implies_true, hput_1, hnew_1, vcat1, Nat.le_refl, Nat.not_lt_zero, Nat.lt_irrefl, hput_eq, hput_ne, hput_put, DJ6_getChars_ba4f3, DJ6_getChars_ba4f3_0, DJ6_getChars_ba4f3_1, TJ6_getChars_ba4f3, OI_a, AC_a, NT_a, s1, s2, t1, t2, z1, z2, n1, a1, e1, e2, w1, w2, c1, c2, d2, add_neg, bin]
    exact hq _ ⟨by rw [pk_un (by omega), pk_us], pk_us, fun j h1 h2 => by rw [pk_un h2, pk_un h1]⟩
