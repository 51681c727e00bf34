/-! ===== the class's own methods: isConsistent ===== -/
/-- the two ranks agree for r ranks from k on -/
def rkAg (N : Nt) : Nat → Nat → Bool
  | 0, _ => true
  | r + 1, k => if ((toN k N).2.2 0).1 = (isort sharp (N.1 - 1) 1 N.2.2 k).1 then rkAg N r (k + 1) else false
set_option maxRecDepth 20000 in
set_option maxHeartbeats 4000000 in
theorem l_ranksAgree {G : GT} {K : KT9} {B d i : Nat} {N : Nt} {Q : RT → Hp → Prop} (hd : 10 ≤ d) (hi : i < 4) : ∀ (r k : Nat) (x : XS) (h : Hp), x.1.2.2.2 i = N → k + r = N.1 → OkX x → ClP x.2.2.2.2.1.2.2 → AtX K h B x → (∀ h' M, Fm h h' B (B + 229) → ClP M.2.2 → AtX K h' B (xScr x M) → Q (.inl (some (.int (bI1 (rkAg N r k))))) h') → V G mX7_ranksAgree d 0 0 2 [some (.ref B), some (.ref (B + 1 + 3 + 4 * i)), some (.int (nI k))] [] h Q := by
  intro r
  induction r with
  | zero =>
    intro k x h hN hk ok cs a hq
    subst hN
    have hz := tot_le ok.2.2.2.2.1 hi
    have n := a.2.1.2.2.2 i hi
    refine V_walk [] 40 ?_
    simp (disch := first | omega | assumption) only [↓wstep, ↓wq_s, ↓wq_0, stp, ↓WR0, ↓WR1, ↓WR2, ↓WR3, ↓WR4, ↓WR5, ↓WR6, ↓WR7, ↓WR8, ↓WR9, ↓WR10, ↓WR11, ↓WR12, WI0, WI1, WI2, WI3, fv_0, fv_1, fv_2, fv_3, lkI_0, lkI_1, kip, kin, tgp, tkp, tgn, tkn, bip, bin, sip, lget, lset1, lset2, lcat2, ↓ws_get, ↓ws_put, ws_cell, ws_cell1, ws_hcell, ws_hcell3, ws_hcell1, ↓cellOf, ↓ws_call, ↓ws_callS, ↓ws_oi, ↓ws_ac, ↓ws_mm, ↓ws_post, ↓ws_exc, popN, rok, clsAt, cnOf, catS_nil, catS_i, catS_r, catS_n, catS_l, catS_d, catS_f, nokc, Option.toList_none, Option.toList_some, List.cons_append, List.nil_append, List.length_cons, List.length_nil, List.set_cons_zero, List.set_cons_succ, List.getElem?_cons_zero, List.getElem?_cons_succ, Nat.reduceAdd, Nat.reduceSub, Nat.reduceMul, Nat.reduceEqDiff, Nat.reduceLeDiff, Nat.reduceLT, Nat.reduceDiv, Bool.false_eq_true, ↓reduceIte, true_and, and_true, false_and, and_false, reduceCtorEq, if_true, Nat.zero_add, cl, lt_nI, le_nI, eq_nI, in_nI, z_nI, retok, or_true, true_or, false_or, or_false, Nat.one_ne_zero, ne_eq, not_false_eq_true, not_true_eq_false, forall_const, Option.isSome_some, false_implies, implies_true, hput_1, hnew_1, vcat1, Nat.le_refl, Nat.not_lt_zero, Nat.lt_irrefl, hput_eq, hput_ne, hput_put, DX7_ranksAgree, DX7_ranksAgree_0, TX7_ranksAgree, FT_7, MT_7, SC_7, DX7_findByTakingOut, DX7_findBySorting, OI_a, AC_a, NT_a, n.1]
    refine ⟨fun _ => hq h x.2.2.2.2.1 Fm.rf cs a, fun c => by omega⟩
  | succ r ih =>
    intro k x h hN hk ok cs a hq
    subst hN
    have hz := tot_le ok.2.2.2.2.1 hi
    have n := a.2.1.2.2.2 i hi
    have a0 := a.1
    unfold xE at a0
    have hkk : k < (x.1.2.2.2 i).1 := by omega
    rw [rkAg] at hq
    refine V_walk [2] 40 ?_
    simp (disch := first | omega | assumption) only [↓wstep, ↓wq_s, ↓wq_0, stp, ↓WR0, ↓WR1, ↓WR2, ↓WR3, ↓WR4, ↓WR5, ↓WR6, ↓WR7, ↓WR8, ↓WR9, ↓WR10, ↓WR11, ↓WR12, WI0, WI1, WI2, WI3, fv_0, fv_1, fv_2, fv_3, lkI_0, lkI_1, kip, kin, tgp, tkp, tgn, tkn, bip, bin, sip, lget, lset1, lset2, lcat2, ↓ws_get, ↓ws_put, ws_cell, ws_cell1, ws_hcell, ws_hcell3, ws_hcell1, ↓cellOf, ↓ws_call, ↓ws_callS, ↓ws_oi, ↓ws_ac, ↓ws_mm, ↓ws_post, ↓ws_exc, popN, rok, clsAt, cnOf, catS_nil, catS_i, catS_r, catS_n, catS_l, catS_d, catS_f, nokc, Option.toList_none, Option.toList_some, List.cons_append, List.nil_append, List.length_cons, List.length_nil, List.set_cons_zero, List.set_cons_succ, List.getElem?_cons_zero, List.getElem?_cons_succ, Nat.reduceAdd, Nat.reduceSub, Nat.reduceMul, Nat.reduceEqDiff, Nat.reduceLeDiff, Nat.reduceLT, Nat.reduceDiv, Bool.false_eq_true, ↓reduceIte, true_and, and_true, false_and, and_false, reduceCtorEq, if_true, Nat.zero_add, cl, lt_nI, le_nI, eq_nI, in_nI, z_nI, retok, or_true, true_or, false_or, or_false, Nat.one_ne_zero, ne_eq, not_false_eq_true, not_true_eq_false, forall_const, Option.isSome_some, false_implies, implies_true, hput_1, hnew_1, vcat1, Nat.le_refl, Nat.not_lt_zero, Nat.lt_irrefl, hput_eq, hput_ne, hput_put, DX7_ranksAgree, DX7_ranksAgree_0, TX7_ranksAgree, FT_7, MT_7, SC_7, DX7_findByTakingOut, DX7_findBySorting, OI_a, AC_a, NT_a, n.1, a0]
    refine ⟨fun c => by omega, fun _ => ?_⟩
    refine CtE.of0 (by omega) (c_findByTakingOut (by omega) hi ok cs hkk a (fun h1 f1 a1 => ?_))
    have b0' := a1.1
    unfold xE at b0'
    have cs1 := k_toN k (x.1.2.2.2 i) (ok.2.2.1.1 i hi) hz (by omega)
    simp (disch := first | omega | assumption) only [↓wstep, ↓wq_s, ↓wq_0, stp, ↓WR0, ↓WR1, ↓WR2, ↓WR3, ↓WR4, ↓WR5, ↓WR6, ↓WR7, ↓WR8, ↓WR9, ↓WR10, ↓WR11, ↓WR12, WI0, WI1, WI2, WI3, fv_0, fv_1, fv_2, fv_3, lkI_0, lkI_1, kip, kin, tgp, tkp, tgn, tkn, bip, bin, sip, lget, lset1, lset2, lcat2, ↓ws_get, ↓ws_put, ws_cell, ws_cell1, ws_hcell, ws_hcell3, ws_hcell1, ↓cellOf, ↓ws_call, ↓ws_callS, ↓ws_oi, ↓ws_ac, ↓ws_mm, ↓ws_post, ↓ws_exc, popN, rok, clsAt, cnOf, catS_nil, catS_i, catS_r, catS_n, catS_l, catS_d, catS_f, nokc, Option.toList_none, Option.toList_some, List.cons_append, List.nil_append, List.length_cons, List.length_nil, List.set_cons_zero, List.set_cons_succ, List.getElem?_cons_zero, List.getElem?_cons_succ, Nat.reduceAdd, Nat.reduceSub, Nat.reduceMul, Nat.reduceEqDiff, Nat.reduceLeDiff, Nat.reduceLT, Nat.reduceDiv, Bool.false_eq_true, ↓reduceIte, true_and, and_true, false_and, and_false, reduceCtorEq, if_true, Nat.zero_add, cl, lt_nI, le_nI, eq_nI, in_nI, z_nI, retok, or_true, true_or, false_or, or_false, Nat.one_ne_zero, ne_eq, not_false_eq_true, not_true_eq_false, forall_const, Option.isSome_some, false_implies, implies_true, hput_1, hnew_1, vcat1, Nat.le_refl, Nat.not_lt_zero, Nat.lt_irrefl, hput_eq, hput_ne, hput_put, DX7_ranksAgree, DX7_ranksAgree_0, TX7_ranksAgree, FT_7, MT_7, SC_7, DX7_findByTakingOut, DX7_findBySorting, OI_a, AC_a, NT_a, b0']
    refine CtE.of0 (by omega) (c_findBySorting (by omega) hi (by exact ok) (by exact cs1) (by exact hkk) a1 (fun h2 f2 a2 => ?_))
    have cs2 := k_isort sharp ((x.1.2.2.2 i).1 - 1) 1 (x.1.2.2.2 i).2.2 (ok.2.2.1.1 i hi) (by omega)
    simp (disch := first | omega | assumption) only [↓wstep, ↓wq_s, ↓wq_0, stp, ↓WR0, ↓WR1, ↓WR2, ↓WR3, ↓WR4, ↓WR5, ↓WR6, ↓WR7, ↓WR8, ↓WR9, ↓WR10, ↓WR11, ↓WR12, WI0, WI1, WI2, WI3, fv_0, fv_1, fv_2, fv_3, lkI_0, lkI_1, kip, kin, tgp, tkp, tgn, tkn, bip, bin, sip, lget, lset1, lset2, lcat2, ↓ws_get, ↓ws_put, ws_cell, ws_cell1, ws_hcell, ws_hcell3, ws_hcell1, ↓cellOf, ↓ws_call, ↓ws_callS, ↓ws_oi, ↓ws_ac, ↓ws_mm, ↓ws_post, ↓ws_exc, popN, rok, clsAt, cnOf, catS_nil, catS_i, catS_r, catS_n, catS_l, catS_d, catS_f, nokc, Option.toList_none, Option.toList_some, List.cons_append, List.nil_append, List.length_cons, List.length_nil, List.set_cons_zero, List.set_cons_succ, List.getElem?_cons_zero, List.getElem?_cons_succ, Nat.reduceAdd, Nat.reduceSub, Nat.reduceMul, Nat.reduceEqDiff, Nat.reduceLeDiff, Nat.reduceLT, Nat.reduceDiv, Bool.false_eq_true, ↓reduceIte, true_and, and_true, false_and, and_false, reduceCtorEq, if_true, Nat.zero_add, cl, lt_nI, le_nI, eq_nI, in_nI, z_nI, retok, or_true, true_or, false_or, or_false, Nat.one_ne_zero, ne_eq, not_false_eq_true, not_true_eq_false, forall_const, Option.isSome_some, false_implies, implies_true, hput_1, hnew_1, vcat1, Nat.le_refl, Nat.not_lt_zero, Nat.lt_irrefl, hput_eq, hput_ne, hput_put, DX7_ranksAgree, DX7_ranksAgree_0, TX7_ranksAgree, FT_7, MT_7, SC_7, DX7_findByTakingOut, DX7_findBySorting, OI_a, AC_a, NT_a, nI_add]
    refine ⟨fun e => ?_, fun e => ?_⟩
    · exact (1 : Nat)
    · exact (1 : Nat)
