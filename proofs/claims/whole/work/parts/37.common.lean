/-! ===== the class's own methods: the common feather ===== -/
/-- r feathers, from c on: the best one, how many -/
def cmF (S : St) : Nat → Nat → Nat → Nat → Nat × Nat
  | 0, _, b, m => (b, m)
  | r + 1, c, b, m => if m < cntS S (Fin.ofNat 65536 c) then cmF S r (c + 1) c (cntS S (Fin.ofNat 65536 c)) else cmF S r (c + 1) b m
theorem cntS_le {S : St} (c : Fin 65536) (h : tot S ≤ 24) : cntS S c ≤ 24 := by
  have h0 := cnt_le (fun k => ((S.2.2.2 0).2.2 k).2.1 == c) (S.2.2.2 0).1 0
  have h1 := cnt_le (fun k => ((S.2.2.2 1).2.2 k).2.1 == c) (S.2.2.2 1).1 0
  have h2 := cnt_le (fun k => ((S.2.2.2 2).2.2 k).2.1 == c) (S.2.2.2 2).1 0
  have h3 := cnt_le (fun k => ((S.2.2.2 3).2.2 k).2.1 == c) (S.2.2.2 3).1 0
  unfold tot at h
  unfold cntS
  omega
set_option maxRecDepth 20000 in
set_option maxHeartbeats 4000000 in
theorem l_common {G : GT} {K : KT9} {h : Hp} {B d : Nat} {x : XS} {Q : RT → Hp → Prop} (hd : 8 ≤ d) (ok : OkX x) (a : AtX K h B x) : ∀ (r c b m : Nat) (x4 : Option Value), c + r = 105 → m ≤ 24 → (∀ y4, V G mX7_commonFeather d 1 6 43 [some (.ref B), some (.int (nI (cmF x.1 r c b m).1)), some (.int (nI (cmF x.1 r c b m).2)), some (.int (nI 105)), y4] [] h Q) → V G mX7_commonFeather d 1 6 8 [some (.ref B), some (.int (nI b)), some (.int (nI m)), some (.int (nI c)), x4] [] h Q := by
  have a0 := a.1
  unfold xE at a0
  have a1 := a.2.1.1
  intro r
  induction r with
  | zero =>
    intro c b m x4 hc hm hq
    obtain rfl : c = 105 := by omega
    refine V_walk [43] 40 ?_
    simp (disch := first | omega | assumption) only [↓wstep, ↓wq_s, ↓wq_0, stp, ↓WR0, ↓WR1, ↓WR2, ↓WR3, ↓WR4, ↓WR5, ↓WR6, ↓WR7, ↓WR8, ↓WR9, ↓WR10, ↓WR11, ↓WR12, WI0, WI1, WI2, WI3, fv_0, fv_1, fv_2, fv_3, lkI_0, lkI_1, kip, kin, tgp, tkp, tgn, tkn, bip, bin, sip, lget, lset1, lset2, lcat2, ↓ws_get, ↓ws_put, ws_cell, ws_cell1, ws_hcell, ws_hcell3, ws_hcell1, ↓cellOf, ↓ws_call, ↓ws_callS, ↓ws_oi, ↓ws_ac, ↓ws_mm, ↓ws_post, ↓ws_exc, popN, rok, clsAt, cnOf, catS_nil, catS_i, catS_r, catS_n, catS_l, catS_d, catS_f, nokc, Option.toList_none, Option.toList_some, List.cons_append, List.nil_append, List.length_cons, List.length_nil, List.set_cons_zero, List.set_cons_succ, List.getElem?_cons_zero, List.getElem?_cons_succ, Nat.reduceAdd, Nat.reduceSub, Nat.reduceMul, Nat.reduceEqDiff, Nat.reduceLeDiff, Nat.reduceLT, Nat.reduceDiv, Bool.false_eq_true, ↓reduceIte, true_and, and_true, false_and, and_false, reduceCtorEq, if_true, Nat.zero_add, cl, lt_nI, le_nI, eq_nI, in_nI, z_nI, retok, or_true, true_or, false_or, or_false, Nat.one_ne_zero, ne_eq, not_false_eq_true, not_true_eq_false, forall_const, Option.isSome_some, false_implies, implies_true, hput_1, hnew_1, vcat1, Nat.le_refl, Nat.not_lt_zero, Nat.lt_irrefl, hput_eq, hput_ne, hput_put, DX7_commonFeather, DX7_commonFeather_0, TX7_commonFeather, FT_7, MT_7, SC_7, DX6_countWith, OI_a, AC_a, NT_a]
    exact hq x4
  | succ r ih =>
    intro c b m x4 hc hm hq
    have hcv : (Fin.ofNat 65536 c).val = c := Nat.mod_eq_of_lt (by omega)
    have hl := cntS_le (Fin.ofNat 65536 c) ok.2.2.2.2.1
    rw [cmF] at hq
    refine V_walk [8, 43] 40 ?_
    simp (disch := first | omega | assumption) only [↓wstep, ↓wq_s, ↓wq_0, stp, ↓WR0, ↓WR1, ↓WR2, ↓WR3, ↓WR4, ↓WR5, ↓WR6, ↓WR7, ↓WR8, ↓WR9, ↓WR10, ↓WR11, ↓WR12, WI0, WI1, WI2, WI3, fv_0, fv_1, fv_2, fv_3, lkI_0, lkI_1, kip, kin, tgp, tkp, tgn, tkn, bip, bin, sip, lget, lset1, lset2, lcat2, ↓ws_get, ↓ws_put, ws_cell, ws_cell1, ws_hcell, ws_hcell3, ws_hcell1, ↓cellOf, ↓ws_call, ↓ws_callS, ↓ws_oi, ↓ws_ac, ↓ws_mm, ↓ws_post, ↓ws_exc, popN, rok, clsAt, cnOf, catS_nil, catS_i, catS_r, catS_n, catS_l, catS_d, catS_f, nokc, Option.toList_none, Option.toList_some, List.cons_append, List.nil_append, List.length_cons, List.length_nil, List.set_cons_zero, List.set_cons_succ, List.getElem?_cons_zero, List.getElem?_cons_succ, Nat.reduceAdd, Nat.reduceSub, Nat.reduceMul, Nat.reduceEqDiff, Nat.reduceLeDiff, Nat.reduceLT, Nat.reduceDiv, Bool.false_eq_true, ↓reduceIte, true_and, and_true, false_and, and_false, reduceCtorEq, if_true, Nat.zero_add, cl, lt_nI, le_nI, eq_nI, in_nI, z_nI, retok, or_true, true_or, false_or, or_false, Nat.one_ne_zero, ne_eq, not_false_eq_true, not_true_eq_false, forall_const, Option.isSome_some, false_implies, implies_true, hput_1, hnew_1, vcat1, Nat.le_refl, Nat.not_lt_zero, Nat.lt_irrefl, hput_eq, hput_ne, hput_put, DX7_commonFeather, DX7_commonFeather_0, TX7_commonFeather, FT_7, MT_7, SC_7, DX6_countWith, OI_a, AC_a, NT_a, a0, a1]
    refine ⟨fun c1 => by omega, fun _ => ?_⟩
    rw [show nI c = nI (Fin.ofNat 65536 c).val from by rw [hcv]]
    refine CtE.of0 (by omega) (c_countWithS (by omega) ok.2.2.2.2.1 a.2.1 ?_)
    rw [show cnt (fun k => ((x.1.2.2.2 0).2.2 k).2.1 == Fin.ofNat 65536 c) (x.1.2.2.2 0).1 0 + cnt (fun k => ((x.1.2.2.2 1).2.2 k).2.1 == Fin.ofNat 65536 c) (x.1.2.2.2 1).1 0 + cnt (fun k => ((x.1.2.2.2 2).2.2 k).2.1 == Fin.ofNat 65536 c) (x.1.2.2.2 2).1 0 + cnt (fun k => ((x.1.2.2.2 3).2.2 k).2.1 == Fin.ofNat 65536 c) (x.1.2.2.2 3).1 0 = cntS x.1 (Fin.ofNat 65536 c) from rfl]
    rw [hcv]
    have e4 := (sb_byte (c + 1) (by omega)).2.1
    simp (disch := first | omega | assumption) only [↓wstep, ↓wq_s, ↓wq_0, stp, ↓WR0, ↓WR1, ↓WR2, ↓WR3, ↓WR4, ↓WR5, ↓WR6, ↓WR7, ↓WR8, ↓WR9, ↓WR10, ↓WR11, ↓WR12, WI0, WI1, WI2, WI3, fv_0, fv_1, fv_2, fv_3, lkI_0, lkI_1, kip, kin, tgp, tkp, tgn, tkn, bip, bin, sip, lget, lset1, lset2, lcat2, ↓ws_get, ↓ws_put, ws_cell, ws_cell1, ws_hcell, ws_hcell3, ws_hcell1, ↓cellOf, ↓ws_call, ↓ws_callS, ↓ws_oi, ↓ws_ac, ↓ws_mm, ↓ws_post, ↓ws_exc, popN, rok, clsAt, cnOf, catS_nil, catS_i, catS_r, catS_n, catS_l, catS_d, catS_f, nokc, Option.toList_none, Option.toList_some, List.cons_append, List.nil_append, List.length_cons, List.length_nil, List.set_cons_zero, List.set_cons_succ, List.getElem?_cons_zero, List.getElem?_cons_succ, Nat.reduceAdd, Nat.reduceSub, Nat.reduceMul, Nat.reduceEqDiff, Nat.reduceLeDiff, Nat.reduceLT, Nat.reduceDiv, Bool.false_eq_true, ↓reduceIte, true_and, and_true, false_and, and_false, reduceCtorEq, if_true, Nat.zero_add, cl, lt_nI, le_nI, eq_nI, in_nI, z_nI, retok, or_true, true_or, false_or, or_false, Nat.one_ne_zero, ne_eq, not_false_eq_true, not_true_eq_false, forall_const, Option.isSome_some, false_implies, implies_true, hput_1, hnew_1, vcat1, Nat.le_refl, Nat.not_lt_zero, Nat.lt_irrefl, hput_eq, hput_ne, hput_put, DX7_commonFeather, DX7_commonFeather_0, TX7_commonFeather, FT_7, MT_7, SC_7, DX6_countWith, OI_a, AC_a, NT_a, nI_add, e4]
    refine ⟨fun k => ?_, fun k => ?_⟩
    · rw [if_neg (by omega)] at hq
      exact ih (c + 1) b m _ (by omega) hm hq
    · rw [if_pos (by omega)] at hq
      exact ih (c + 1) c _ _ (by omega) hl hq
set_option maxRecDepth 20000 in
set_option maxHeartbeats 4000000 in
theorem c_x_commonFeather {G : GT} {K : KT9} {h : Hp} {B d : Nat} {x : XS} {Q : RT → Hp → Prop} (hd : 8 ≤ d) (hm : MsgW G) (ok : OkX x) (a : AtX K h B x) (hb : (cmF x.1 8 97 97 0).1 < 65536) (hs : (cmF x.1 8 97 97 0).2 ≤ 24) (hq : ∀ z, h.1 ≤ z → Q (if (cmF x.1 8 97 97 0).2 = 0 then .inr "java/util/NoSuchElementException" else .inl (some (.int (nI (cmF x.1 8 97 97 0).1)))) (z, h.2)) : Ct G mX7_commonFeather d 1 6 [.ref B] h Q := by
  have hd6 : 6 ≤ d := by omega
  refine Ct.of rfl rfl (Nat.le_of_ble_eq_true rfl) ?_
  show V G mX7_commonFeather _ _ _ 0 [some (.ref B), none, none, none, none] [] h Q
  refine V_walk [8] 40 ?_
  simp (disch := first | omega | assumption) only [↓wstep, ↓wq_s, ↓wq_0, stp, ↓WR0, ↓WR1, ↓WR2, ↓WR3, ↓WR4, ↓WR5, ↓WR6, ↓WR7, ↓WR8, ↓WR9, ↓WR10, ↓WR11, ↓WR12, WI0, WI1, WI2, WI3, fv_0, fv_1, fv_2, fv_3, lkI_0, lkI_1, kip, kin, tgp, tkp, tgn, tkn, bip, bin, sip, lget, lset1, lset2, lcat2, ↓ws_get, ↓ws_put, ws_cell, ws_cell1, ws_hcell, ws_hcell3, ws_hcell1, ↓cellOf, ↓ws_call, ↓ws_callS, ↓ws_oi, ↓ws_ac, ↓ws_mm, ↓ws_post, ↓ws_exc, popN, rok, clsAt, cnOf, catS_nil, catS_i, catS_r, catS_n, catS_l, catS_d, catS_f, nokc, Option.toList_none, Option.toList_some, List.cons_append, List.nil_append, List.length_cons, List.length_nil, List.set_cons_zero, List.set_cons_succ, List.getElem?_cons_zero, List.getElem?_cons_succ, Nat.reduceAdd, Nat.reduceSub, Nat.reduceMul, Nat.reduceEqDiff, Nat.reduceLeDiff, Nat.reduceLT, Nat.reduceDiv, Bool.false_eq_true, ↓reduceIte, true_and, and_true, false_and, and_false, reduceCtorEq, if_true, Nat.zero_add, cl, lt_nI, le_nI, eq_nI, in_nI, z_nI, retok, or_true, true_or, false_or, or_false, Nat.one_ne_zero, ne_eq, not_false_eq_true, not_true_eq_false, forall_const, Option.isSome_some, false_implies, implies_true, hput_1, hnew_1, vcat1, Nat.le_refl, Nat.not_lt_zero, Nat.lt_irrefl, hput_eq, hput_ne, hput_put, DX7_commonFeather, DX7_commonFeather_0, TX7_commonFeather, FT_7, MT_7, SC_7, DX6_countWith, OI_a, AC_a, NT_a]
  refine l_common hd ok a 8 97 97 0 _ (by omega) (by omega) (fun y4 => ?_)
  refine V_walk [57] 40 ?_
  simp (disch := first | omega | assumption) only [↓wstep, ↓wq_s, ↓wq_0, stp, ↓WR0, ↓WR1, ↓WR2, ↓WR3, ↓WR4, ↓WR5, ↓WR6, ↓WR7, ↓WR8, ↓WR9, ↓WR10, ↓WR11, ↓WR12, WI0, WI1, WI2, WI3, fv_0, fv_1, fv_2, fv_3, lkI_0, lkI_1, kip, kin, tgp, tkp, tgn, tkn, bip, bin, sip, lget, lset1, lset2, lcat2, ↓ws_get, ↓ws_put, ws_cell, ws_cell1, ws_hcell, ws_hcell3, ws_hcell1, ↓cellOf, ↓ws_call, ↓ws_callS, ↓ws_oi, ↓ws_ac, ↓ws_mm, ↓ws_post, ↓ws_exc, popN, rok, clsAt, cnOf, catS_nil, catS_i, catS_r, catS_n, catS_l, catS_d, catS_f, nokc, Option.toList_none, Option.toList_some, List.cons_append, List.nil_append, List.length_cons, List.length_nil, List.set_cons_zero, List.set_cons_succ, List.getElem?_cons_zero, List.getElem?_cons_succ, Nat.reduceAdd, Nat.reduceSub, Nat.reduceMul, Nat.reduceEqDiff, Nat.reduceLeDiff, Nat.reduceLT, Nat.reduceDiv, Bool.false_eq_true, ↓reduceIte, true_and, and_true, false_and, and_false, reduceCtorEq, if_true, Nat.zero_add, cl, lt_nI, le_nI, eq_nI, in_nI, z_nI, retok, or_true, true_or, false_or, or_false, Nat.one_ne_zero, ne_eq, not_false_eq_true, not_true_eq_false, forall_const, Option.isSome_some, false_implies, implies_true, hput_1, hnew_1, vcat1, Nat.le_refl, Nat.not_lt_zero, Nat.lt_irrefl, hput_eq, hput_ne, hput_put, DX7_commonFeather, DX7_commonFeather_0, TX7_commonFeather, FT_7, MT_7, SC_7, DX6_countWith, OI_a, AC_a, NT_a, nt_e, xl_e, ws_throw, hd6, TX7_commonFeather]
  refine ⟨fun k => ?_, fun k => ?_⟩
  · rw [if_neg k] at hq
    refine V_walk [] 40 ?_
    simp (disch := first | omega | assumption) only [↓wstep, ↓wq_s, ↓wq_0, stp, ↓WR0, ↓WR1, ↓WR2, ↓WR3, ↓WR4, ↓WR5, ↓WR6, ↓WR7, ↓WR8, ↓WR9, ↓WR10, ↓WR11, ↓WR12, WI0, WI1, WI2, WI3, fv_0, fv_1, fv_2, fv_3, lkI_0, lkI_1, kip, kin, tgp, tkp, tgn, tkn, bip, bin, sip, lget, lset1, lset2, lcat2, ↓ws_get, ↓ws_put, ws_cell, ws_cell1, ws_hcell, ws_hcell3, ws_hcell1, ↓cellOf, ↓ws_call, ↓ws_callS, ↓ws_oi, ↓ws_ac, ↓ws_mm, ↓ws_post, ↓ws_exc, popN, rok, clsAt, cnOf, catS_nil, catS_i, catS_r, catS_n, catS_l, catS_d, catS_f, nokc, Option.toList_none, Option.toList_some, List.cons_append, List.nil_append, List.length_cons, List.length_nil, List.set_cons_zero, List.set_cons_succ, List.getElem?_cons_zero, List.getElem?_cons_succ, Nat.reduceAdd, Nat.reduceSub, Nat.reduceMul, Nat.reduceEqDiff, Nat.reduceLeDiff, Nat.reduceLT, Nat.reduceDiv, Bool.false_eq_true, ↓reduceIte, true_and, and_true, false_and, and_false, reduceCtorEq, if_true, Nat.zero_add, cl, lt_nI, le_nI, eq_nI, in_nI, z_nI, retok, or_true, true_or, false_or, or_false, Nat.one_ne_zero, ne_eq, not_false_eq_true, not_true_eq_false, forall_const, Option.isSome_some, false_implies, implies_true, hput_1, hnew_1, vcat1, Nat.le_refl, Nat.not_lt_zero, Nat.lt_irrefl, hput_eq, hput_ne, hput_put, DX7_commonFeather, DX7_commonFeather_0, TX7_commonFeather, FT_7, MT_7, SC_7, DX6_countWith, OI_a, AC_a, NT_a]
    exact ⟨⟨_, hb, rfl⟩, hq _ (Nat.le_refl _)⟩
  · rw [if_pos k] at hq
    exact ⟨hq, hm _ (by decide)⟩
