/-! ===== the model's output line ===== -/
/-- the line's length -/
def sLm (o : MO) (t : Int32) : MO := (o.1, o.2.1, o.2.2.1, t, o.2.2.2.2)
/-- the model's line -/
def ML (h : Hp) (M : Nat) (o : MO) (L : Tx) : Prop := ∃ li, h.2 M = some (mO M (sLm o (nI L.1))) ∧ h.2 (M + 6) = some (.inl (1, 260, .inl li)) ∧ ∀ k, k < L.1 → li k = nI (L.2 k)
def FL (h h' : Hp) (M : Nat) : Prop := h'.1 = h.1 ∧ ∀ b, b ≠ M → b ≠ M + 6 → h'.2 b = h.2 b
theorem FL.rf {h : Hp} {M : Nat} : FL h h M := ⟨rfl, fun _ _ _ => rfl⟩
theorem FL.tr {h h1 h2 : Hp} {M : Nat} (a : FL h h1 M) (b : FL h1 h2 M) : FL h h2 M := ⟨b.1.trans a.1, fun q h1 h2 => (b.2 q h1 h2).trans (a.2 q h1 h2)⟩
theorem FL.fm {h h' : Hp} {M : Nat} (a : FL h h' M) : Fm h h' M (M + 9) := ⟨a.1, fun b hb => a.2 b (by omega) (by omega)⟩
set_option maxRecDepth 20000 in
set_option maxHeartbeats 4000000 in
theorem c_says {G : GT} {h : Hp} {M c d : Nat} {o : MO} {L : Tx} {Q : RT → Hp → Prop} (hc : c < 128) (hL : L.1 < 260) (a : ML h M o L) (hq : ∀ h', FL h h' M → ML h' M o (apC L c) → Q (.inl none) h') : Ct G mX8_says d 0 0 [.ref M, .int (nI c)] h Q := by
  obtain ⟨li, a0, a6, hl⟩ := a
  unfold mO sLm at a0
  have e4 := (sb_byte c (by omega)).2.1
  have e5 : vp_nar .char (nI c) = nI c := nch ⟨c, by omega⟩
  refine Ct.of rfl rfl (Nat.le_of_ble_eq_true rfl) ?_
  show V G mX8_says _ _ _ 0 [some (.ref M), some (.int (nI c))] [] h Q
  refine V_walk [] 40 ?_
  simp (disch := first | omega | assumption) only [↓wstep, ↓wq_s, ↓wq_0, stp, ↓WR0, ↓WR1, ↓WR2, ↓WR3, ↓WR4, ↓WR5, ↓WR6, ↓WR7, ↓WR8, ↓WR9, ↓WR10, ↓WR11, ↓WR12, WI0, WI1, WI2, WI3, fv_0, fv_1, fv_2, fv_3, lkI_0, lkI_1, kip, kin, tgp, tkp, tgn, tkn, bip, bin, sip, lget, lset1, lset2, lcat2, ↓ws_get, ↓ws_put, ws_cell, ws_cell1, ws_hcell, ws_hcell3, ws_hcell1, ↓cellOf, ↓ws_call, ↓ws_callS, ↓ws_oi, ↓ws_ac, ↓ws_mm, ↓ws_post, ↓ws_exc, popN, rok, clsAt, cnOf, catS_nil, catS_i, catS_r, catS_n, catS_l, catS_d, catS_f, nokc, Option.toList_none, Option.toList_some, List.cons_append, List.nil_append, List.length_cons, List.length_nil, List.set_cons_zero, List.set_cons_succ, List.getElem?_cons_zero, List.getElem?_cons_succ, Nat.reduceAdd, Nat.reduceSub, Nat.reduceMul, Nat.reduceEqDiff, Nat.reduceLeDiff, Nat.reduceLT, Nat.reduceDiv, Bool.false_eq_true, ↓reduceIte, true_and, and_true, false_and, and_false, reduceCtorEq, if_true, Nat.zero_add, cl, lt_nI, le_nI, eq_nI, in_nI, z_nI, retok, or_true, true_or, false_or, or_false, Nat.one_ne_zero, ne_eq, not_false_eq_true, not_true_eq_false, forall_const, Option.isSome_some, false_implies, implies_true, hput_1, hnew_1, vcat1, Nat.le_refl, Nat.not_lt_zero, Nat.lt_irrefl, hput_eq, hput_ne, hput_put, DX8_says, DX8_says_0, TX8_says, FT_8, MT_8, SC_8, OI_a, AC_a, NT_a, a0, a6, e4, e5, nI_add]
  refine hq _ ⟨rfl, fun b h1 h2 => (hput_ne h1).trans (hput_ne h2)⟩ ⟨_, hput_eq _ _ _, (hput_ne (by omega)).trans (hput_eq _ _ _), fun k hk => ?_⟩
  have hk' : k < L.1 + 1 := hk
  show _ = nI (fu L.2 L.1 c k)
  by_cases q : k = L.1
  · rw [q, fu_eq, pk_us]
  · rw [fu_ne q, pk_un q]; exact hl k (by omega)
theorem nd_s {v : Nat} (h : 9 < v) (hv : v < 10000) : nd v = nd (v / 10) + 1 := by
  unfold nd
  by_cases q1 : v < 100
  · rw [if_neg (by omega), if_pos q1, if_pos (by omega)]
  · by_cases q2 : v < 1000
    · rw [if_neg (by omega), if_neg q1, if_pos q2, if_neg (by omega), if_pos (by omega)]
    · rw [if_neg (by omega), if_neg q1, if_neg q2, if_neg (by omega), if_neg (by omega), if_pos (by omega)]
theorem dgv_s {v j : Nat} (h : 9 < v) (hv : v < 10000) (hj : j < nd v) : dgv v j = if j = nd (v / 10) then v % 10 else dgv (v / 10) j := by
  have hn := nd_s h hv
  unfold nd at hn hj ⊢
  unfold dgv
  by_cases q1 : v < 100
  · rw [if_neg (by omega), if_pos q1] at hj
    simp only [show ¬ v < 10 from by omega, q1, show v / 10 < 10 from by omega, if_true, if_false]
    split <;> split <;> omega
  · by_cases q2 : v < 1000
    · rw [if_neg (by omega), if_neg q1, if_pos q2] at hj
      simp only [show ¬ v < 10 from by omega, q1, q2, show ¬ v / 10 < 10 from by omega, show v / 10 < 100 from by omega, if_true, if_false]
      split <;> (try split) <;> (try split) <;> (try split) <;> omega
    · rw [if_neg (by omega), if_neg q1, if_neg q2] at hj
      simp only [show ¬ v < 10 from by omega, q1, q2, show ¬ v / 10 < 10 from by omega, show ¬ v / 10 < 100 from by omega, show v / 10 < 1000 from by omega, if_true, if_false]
      split <;> (try split) <;> (try split) <;> (try split) <;> (try split) <;> omega
theorem ML.cg {h : Hp} {M : Nat} {o : MO} {L L' : Tx} (a : ML h M o L) (h1 : L'.1 = L.1) (h2 : ∀ k, k < L.1 → L'.2 k = L.2 k) : ML h M o L' := by
  obtain ⟨li, a0, a6, hl⟩ := a
  exact ⟨li, by rw [h1]; exact a0, a6, fun k hk => by rw [hl k (by omega), h2 k (by omega)]⟩
set_option maxRecDepth 20000 in
set_option maxHeartbeats 4000000 in
theorem c_saysNumber {G : GT} {M : Nat} {o : MO} : ∀ (f v d : Nat) (L : Tx) (h : Hp) (Q : RT → Hp → Prop), v < 10 ^ (f + 1) → f ≤ 3 → f + 2 ≤ d → L.1 + nd v ≤ 260 → ML h M o L → (∀ h', FL h h' M → ML h' M o (apN L v) → Q (.inl none) h') → Ct G mX8_saysNumber d 0 0 [.ref M, .int (nI v)] h Q := by
  have last : ∀ (v d : Nat) (L L' : Tx) (h : Hp) (Q : RT → Hp → Prop), v < 10000 → 1 ≤ d → L.1 < 260 → ML h M o L → (∀ h', FL h h' M → ML h' M o (apC L (48 + v % 10)) → Q (.inl none) h') → V G mX8_saysNumber d 0 0 14 [some (.ref M), some (.int (nI v))] [] h Q := by
    intro v d L L' h Q hv hd hL a hq
    obtain ⟨li, a0, -, -⟩ := id a
    unfold mO at a0
    have e1 : nI v - nI v / nI 10 * nI 10 = nI (v % 10) := rem_nI (by omega) (by omega) (by omega)
    have e2 : ¬ nI 10 = 0 := by decide
    refine V_walk [] 20 ?_
    simp (disch := first | omega | assumption) only [↓wstep, ↓wq_s, ↓wq_0, stp, ↓WR0, ↓WR1, ↓WR2, ↓WR3, ↓WR4, ↓WR5, ↓WR6, ↓WR7, ↓WR8, ↓WR9, ↓WR10, ↓WR11, ↓WR12, WI0, WI1, WI2, WI3, fv_0, fv_1, fv_2, fv_3, lkI_0, lkI_1, kip, kin, tgp, tkp, tgn, tkn, bip, bin, sip, lget, lset1, lset2, lcat2, ↓ws_get, ↓ws_put, ws_cell, ws_cell1, ws_hcell, ws_hcell3, ws_hcell1, ↓cellOf, ↓ws_call, ↓ws_callS, ↓ws_oi, ↓ws_ac, ↓ws_mm, ↓ws_post, ↓ws_exc, popN, rok, clsAt, cnOf, catS_nil, catS_i, catS_r, catS_n, catS_l, catS_d, catS_f, nokc, Option.toList_none, Option.toList_some, List.cons_append, List.nil_append, List.length_cons, List.length_nil, List.set_cons_zero, List.set_cons_succ, List.getElem?_cons_zero, List.getElem?_cons_succ, Nat.reduceAdd, Nat.reduceSub, Nat.reduceMul, Nat.reduceEqDiff, Nat.reduceLeDiff, Nat.reduceLT, Nat.reduceDiv, Bool.false_eq_true, ↓reduceIte, true_and, and_true, false_and, and_false, reduceCtorEq, if_true, Nat.zero_add, cl, lt_nI, le_nI, eq_nI, in_nI, z_nI, retok, or_true, true_or, false_or, or_false, Nat.one_ne_zero, ne_eq, not_false_eq_true, not_true_eq_false, forall_const, Option.isSome_some, false_implies, implies_true, hput_1, hnew_1, vcat1, Nat.le_refl, Nat.not_lt_zero, Nat.lt_irrefl, hput_eq, hput_ne, hput_put, DX8_saysNumber, DX8_saysNumber_0, TX8_saysNumber, FT_8, MT_8, SC_8, DX8_says, OI_a, AC_a, NT_a, a0, e1, e2, nI_add]
    refine CtE.of0 (by omega) (c_says (by omega) hL a (fun h1 f1 a1 => ?_))
    simp (disch := first | omega | assumption) only [↓wstep, ↓wq_s, ↓wq_0, stp, ↓WR0, ↓WR1, ↓WR2, ↓WR3, ↓WR4, ↓WR5, ↓WR6, ↓WR7, ↓WR8, ↓WR9, ↓WR10, ↓WR11, ↓WR12, WI0, WI1, WI2, WI3, fv_0, fv_1, fv_2, fv_3, lkI_0, lkI_1, kip, kin, tgp, tkp, tgn, tkn, bip, bin, sip, lget, lset1, lset2, lcat2, ↓ws_get, ↓ws_put, ws_cell, ws_cell1, ws_hcell, ws_hcell3, ws_hcell1, ↓cellOf, ↓ws_call, ↓ws_callS, ↓ws_oi, ↓ws_ac, ↓ws_mm, ↓ws_post, ↓ws_exc, popN, rok, clsAt, cnOf, catS_nil, catS_i, catS_r, catS_n, catS_l, catS_d, catS_f, nokc, Option.toList_none, Option.toList_some, List.cons_append, List.nil_append, List.length_cons, List.length_nil, List.set_cons_zero, List.set_cons_succ, List.getElem?_cons_zero, List.getElem?_cons_succ, Nat.reduceAdd, Nat.reduceSub, Nat.reduceMul, Nat.reduceEqDiff, Nat.reduceLeDiff, Nat.reduceLT, Nat.reduceDiv, Bool.false_eq_true, ↓reduceIte, true_and, and_true, false_and, and_false, reduceCtorEq, if_true, Nat.zero_add, cl, lt_nI, le_nI, eq_nI, in_nI, z_nI, retok, or_true, true_or, false_or, or_false, Nat.one_ne_zero, ne_eq, not_false_eq_true, not_true_eq_false, forall_const, Option.isSome_some, false_implies, implies_true, hput_1, hnew_1, vcat1, Nat.le_refl, Nat.not_lt_zero, Nat.lt_irrefl, hput_eq, hput_ne, hput_put, DX8_saysNumber, DX8_saysNumber_0, TX8_saysNumber, FT_8, MT_8, SC_8, DX8_says, OI_a, AC_a, NT_a]
    exact hq h1 f1 a1
  intro f
  induction f with
  | zero =>
    intro v d L h Q hv hf hd hL a hq
    have h9 : v < 10 := hv
    have hnd : nd v = 1 := if_pos h9
    refine Ct.of rfl rfl (Nat.le_of_ble_eq_true rfl) ?_
    show V G mX8_saysNumber _ _ _ 0 [some (.ref M), some (.int (nI v))] [] h Q
    refine V_walk [14] 6 ?_
    simp (disch := first | omega | assumption) only [↓wstep, ↓wq_s, ↓wq_0, stp, ↓WR0, ↓WR1, ↓WR2, ↓WR3, ↓WR4, ↓WR5, ↓WR6, ↓WR7, ↓WR8, ↓WR9, ↓WR10, ↓WR11, ↓WR12, WI0, WI1, WI2, WI3, fv_0, fv_1, fv_2, fv_3, lkI_0, lkI_1, kip, kin, tgp, tkp, tgn, tkn, bip, bin, sip, lget, lset1, lset2, lcat2, ↓ws_get, ↓ws_put, ws_cell, ws_cell1, ws_hcell, ws_hcell3, ws_hcell1, ↓cellOf, ↓ws_call, ↓ws_callS, ↓ws_oi, ↓ws_ac, ↓ws_mm, ↓ws_post, ↓ws_exc, popN, rok, clsAt, cnOf, catS_nil, catS_i, catS_r, catS_n, catS_l, catS_d, catS_f, nokc, Option.toList_none, Option.toList_some, List.cons_append, List.nil_append, List.length_cons, List.length_nil, List.set_cons_zero, List.set_cons_succ, List.getElem?_cons_zero, List.getElem?_cons_succ, Nat.reduceAdd, Nat.reduceSub, Nat.reduceMul, Nat.reduceEqDiff, Nat.reduceLeDiff, Nat.reduceLT, Nat.reduceDiv, Bool.false_eq_true, ↓reduceIte, true_and, and_true, false_and, and_false, reduceCtorEq, if_true, Nat.zero_add, cl, lt_nI, le_nI, eq_nI, in_nI, z_nI, retok, or_true, true_or, false_or, or_false, Nat.one_ne_zero, ne_eq, not_false_eq_true, not_true_eq_false, forall_const, Option.isSome_some, false_implies, implies_true, hput_1, hnew_1, vcat1, Nat.le_refl, Nat.not_lt_zero, Nat.lt_irrefl, hput_eq, hput_ne, hput_put, DX8_saysNumber, DX8_saysNumber_0, TX8_saysNumber, FT_8, MT_8, SC_8, DX8_says, OI_a, AC_a, NT_a]
    refine ⟨fun _ => ?_, fun q => by omega⟩
    refine last v d L L h Q (by omega) (by omega) (by omega) a (fun h1 f1 a1 => hq h1 f1 (a1.cg ?_ (fun k hk => ?_)))
    · show L.1 + nd v = L.1 + 1; omega
    · have hk' : k < L.1 + 1 := hk
      show (if k < L.1 then L.2 k else 48 + dgv v (k - L.1)) = fu L.2 L.1 (48 + v % 10) k
      by_cases q : k = L.1
      · rw [if_neg (by omega), q, fu_eq]; unfold dgv; rw [if_pos h9]; omega
      · rw [if_pos (by omega), fu_ne q]
  | succ f ih =>
    intro v d L h Q hv hf hd hL a hq
    have hv4 : v < 10000 := Nat.lt_of_lt_of_le hv (by
      have : f + 1 + 1 ≤ 4 := by omega
      exact Nat.le_trans (Nat.pow_le_pow_right (by omega) this) (by decide))
    by_cases h9 : v < 10
    · have hnd : nd v = 1 := if_pos h9
      refine Ct.of rfl rfl (Nat.le_of_ble_eq_true rfl) ?_
      show V G mX8_saysNumber _ _ _ 0 [some (.ref M), some (.int (nI v))] [] h Q
      refine V_walk [14, 6] 6 ?_
      simp (disch := first | omega | assumption) only [↓wstep, ↓wq_s, ↓wq_0, stp, ↓WR0, ↓WR1, ↓WR2, ↓WR3, ↓WR4, ↓WR5, ↓WR6, ↓WR7, ↓WR8, ↓WR9, ↓WR10, ↓WR11, ↓WR12, WI0, WI1, WI2, WI3, fv_0, fv_1, fv_2, fv_3, lkI_0, lkI_1, kip, kin, tgp, tkp, tgn, tkn, bip, bin, sip, lget, lset1, lset2, lcat2, ↓ws_get, ↓ws_put, ws_cell, ws_cell1, ws_hcell, ws_hcell3, ws_hcell1, ↓cellOf, ↓ws_call, ↓ws_callS, ↓ws_oi, ↓ws_ac, ↓ws_mm, ↓ws_post, ↓ws_exc, popN, rok, clsAt, cnOf, catS_nil, catS_i, catS_r, catS_n, catS_l, catS_d, catS_f, nokc, Option.toList_none, Option.toList_some, List.cons_append, List.nil_append, List.length_cons, List.length_nil, List.set_cons_zero, List.set_cons_succ, List.getElem?_cons_zero, List.getElem?_cons_succ, Nat.reduceAdd, Nat.reduceSub, Nat.reduceMul, Nat.reduceEqDiff, Nat.reduceLeDiff, Nat.reduceLT, Nat.reduceDiv, Bool.false_eq_true, ↓reduceIte, true_and, and_true, false_and, and_false, reduceCtorEq, if_true, Nat.zero_add, cl, lt_nI, le_nI, eq_nI, in_nI, z_nI, retok, or_true, true_or, false_or, or_false, Nat.one_ne_zero, ne_eq, not_false_eq_true, not_true_eq_false, forall_const, Option.isSome_some, false_implies, implies_true, hput_1, hnew_1, vcat1, Nat.le_refl, Nat.not_lt_zero, Nat.lt_irrefl, hput_eq, hput_ne, hput_put, DX8_saysNumber, DX8_saysNumber_0, TX8_saysNumber, FT_8, MT_8, SC_8, DX8_says, OI_a, AC_a, NT_a]
      refine ⟨fun _ => ?_, fun q => by omega⟩
      refine last v d L L h Q (by omega) (by omega) (by omega) a (fun h1 f1 a1 => hq h1 f1 (a1.cg ?_ (fun k hk => ?_)))
      · show L.1 + nd v = L.1 + 1; omega
      · have hk' : k < L.1 + 1 := hk
        show (if k < L.1 then L.2 k else 48 + dgv v (k - L.1)) = fu L.2 L.1 (48 + v % 10) k
        by_cases q : k = L.1
        · rw [if_neg (by omega), q, fu_eq]; unfold dgv; rw [if_pos h9]; omega
        · rw [if_pos (by omega), fu_ne q]
    · have hn := nd_s (show 9 < v by omega) hv4
      obtain ⟨li, a0, -, -⟩ := id a
      unfold mO at a0
      have e2 : ¬ nI 10 = 0 := by decide
      have e3 : nI v / nI 10 = nI (v / 10) := div_nI (by omega) (by omega) (by omega)
      have hv1 : v / 10 < 10 ^ (f + 1) := by
        have h1 : 10 ^ (f + 1 + 1) = 10 ^ (f + 1) * 10 := Nat.pow_succ ..
        exact Nat.div_lt_of_lt_mul (by omega)
      refine Ct.of rfl rfl (Nat.le_of_ble_eq_true rfl) ?_
      show V G mX8_saysNumber _ _ _ 0 [some (.ref M), some (.int (nI v))] [] h Q
      refine V_walk [14] 20 ?_
      simp (disch := first | omega | assumption) only [↓wstep, ↓wq_s, ↓wq_0, stp, ↓WR0, ↓WR1, ↓WR2, ↓WR3, ↓WR4, ↓WR5, ↓WR6, ↓WR7, ↓WR8, ↓WR9, ↓WR10, ↓WR11, ↓WR12, WI0, WI1, WI2, WI3, fv_0, fv_1, fv_2, fv_3, lkI_0, lkI_1, kip, kin, tgp, tkp, tgn, tkn, bip, bin, sip, lget, lset1, lset2, lcat2, ↓ws_get, ↓ws_put, ws_cell, ws_cell1, ws_hcell, ws_hcell3, ws_hcell1, ↓cellOf, ↓ws_call, ↓ws_callS, ↓ws_oi, ↓ws_ac, ↓ws_mm, ↓ws_post, ↓ws_exc, popN, rok, clsAt, cnOf, catS_nil, catS_i, catS_r, catS_n, catS_l, catS_d, catS_f, nokc, Option.toList_none, Option.toList_some, List.cons_append, List.nil_append, List.length_cons, List.length_nil, List.set_cons_zero, List.set_cons_succ, List.getElem?_cons_zero, List.getElem?_cons_succ, Nat.reduceAdd, Nat.reduceSub, Nat.reduceMul, Nat.reduceEqDiff, Nat.reduceLeDiff, Nat.reduceLT, Nat.reduceDiv, Bool.false_eq_true, ↓reduceIte, true_and, and_true, false_and, and_false, reduceCtorEq, if_true, Nat.zero_add, cl, lt_nI, le_nI, eq_nI, in_nI, z_nI, retok, or_true, true_or, false_or, or_false, Nat.one_ne_zero, ne_eq, not_false_eq_true, not_true_eq_false, forall_const, Option.isSome_some, false_implies, implies_true, hput_1, hnew_1, vcat1, Nat.le_refl, Nat.not_lt_zero, Nat.lt_irrefl, hput_eq, hput_ne, hput_put, DX8_saysNumber, DX8_saysNumber_0, TX8_saysNumber, FT_8, MT_8, SC_8, DX8_says, OI_a, AC_a, NT_a, a0, e2, e3]
      refine ⟨fun q => by omega, fun _ => ?_⟩
      refine CtE.of0 (by omega) (ih (v / 10) (d - 1) L h _ hv1 (by omega) (by omega) (by omega) a (fun h1 f1 a1 => ?_))
      simp (disch := first | omega | assumption) only [↓wstep, ↓wq_s, ↓wq_0, stp, ↓WR0, ↓WR1, ↓WR2, ↓WR3, ↓WR4, ↓WR5, ↓WR6, ↓WR7, ↓WR8, ↓WR9, ↓WR10, ↓WR11, ↓WR12, WI0, WI1, WI2, WI3, fv_0, fv_1, fv_2, fv_3, lkI_0, lkI_1, kip, kin, tgp, tkp, tgn, tkn, bip, bin, sip, lget, lset1, lset2, lcat2, ↓ws_get, ↓ws_put, ws_cell, ws_cell1, ws_hcell, ws_hcell3, ws_hcell1, ↓cellOf, ↓ws_call, ↓ws_callS, ↓ws_oi, ↓ws_ac, ↓ws_mm, ↓ws_post, ↓ws_exc, popN, rok, clsAt, cnOf, catS_nil, catS_i, catS_r, catS_n, catS_l, catS_d, catS_f, nokc, Option.toList_none, Option.toList_some, List.cons_append, List.nil_append, List.length_cons, List.length_nil, List.set_cons_zero, List.set_cons_succ, List.getElem?_cons_zero, List.getElem?_cons_succ, Nat.reduceAdd, Nat.reduceSub, Nat.reduceMul, Nat.reduceEqDiff, Nat.reduceLeDiff, Nat.reduceLT, Nat.reduceDiv, Bool.false_eq_true, ↓reduceIte, true_and, and_true, false_and, and_false, reduceCtorEq, if_true, Nat.zero_add, cl, lt_nI, le_nI, eq_nI, in_nI, z_nI, retok, or_true, true_or, false_or, or_false, Nat.one_ne_zero, ne_eq, not_false_eq_true, not_true_eq_false, forall_const, Option.isSome_some, false_implies, implies_true, hput_1, hnew_1, vcat1, Nat.le_refl, Nat.not_lt_zero, Nat.lt_irrefl, hput_eq, hput_ne, hput_put, DX8_saysNumber, DX8_saysNumber_0, TX8_saysNumber, FT_8, MT_8, SC_8, DX8_says, OI_a, AC_a, NT_a]
      refine last v d (apN L (v / 10)) L h1 Q hv4 (by omega) (by show L.1 + nd (v / 10) < 260; omega) a1 (fun h2 f2 a2 => hq h2 (f1.tr f2) (a2.cg ?_ (fun k hk => ?_)))
      · show L.1 + nd v = L.1 + nd (v / 10) + 1; omega
      · have hk' : k < L.1 + nd (v / 10) + 1 := hk
        show (if k < L.1 then L.2 k else 48 + dgv v (k - L.1)) = fu (fun k => if k < L.1 then L.2 k else 48 + dgv (v / 10) (k - L.1)) (L.1 + nd (v / 10)) (48 + v % 10) k
        by_cases q : k = L.1 + nd (v / 10)
        · rw [if_neg (by omega), q, fu_eq, dgv_s (by omega) hv4 (by omega), if_pos (by omega)]
        · rw [fu_ne q]
          by_cases q2 : k < L.1
          · rw [if_pos q2, if_pos q2]
          · rw [if_neg q2, if_neg q2, dgv_s (by omega) hv4 (by omega), if_neg (by omega)]
