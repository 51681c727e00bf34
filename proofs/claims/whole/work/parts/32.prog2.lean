/-! ===== the class's own methods: programs, undo, save ===== -/
theorem AtX.obj {K : KT9} {h : Hp} {B : Nat} {hs : Bool} {le lf : Int32} {x : XS} (a : AtX K h B x) : AtX K (hput h B (xE B hs le lf)) B (x.1, x.2.1, x.2.2.1, x.2.2.2.1, x.2.2.2.2.1, hs, le, lf) := by
  obtain ⟨a0, a1, a2, a3, a4, a5⟩ := a
  have f : Fm h (hput h B (xE B hs le lf)) B (B + 1) := Fm.put (by omega) (by omega)
  exact ⟨hput_eq _ _ _, a1.mv f (by omega), a2.mv f (by omega), a3.mv f (by omega), a4.mv f (by omega), a5.mv f (by omega)⟩
theorem AtX.prog {K : KT9} {h h' : Hp} {B len er tt : Nat} {sg : Nat → Fin 65536} {cm : Nat → Cmd} {x : XS} (a : AtX K h B x) (g : Fm h h' (B + 212) (B + 224)) (w : AtP K h' (B + 212) sg len er tt cm) : AtX K h' B (x.1, x.2.1, x.2.2.1, (sg, len, er, tt, cm), x.2.2.2.2) := by
  obtain ⟨a0, a1, a2, a3, a4, a5⟩ := a
  exact ⟨(g.2 _ (by omega)).trans a0, a1.mv g (by omega), a2.mv g (by omega), a3.mv g (by omega), w, a5.mv g (by omega)⟩
theorem AtX.sav {K : KT9} {h h' : Hp} {B : Nat} {S : St} {x : XS} (a : AtX K h B x) (g : Fm h h' (B + 20) (B + 39)) (w : AtS h' (B + 20) S) : AtX K h' B (x.1, S, x.2.2) := by
  obtain ⟨a0, a1, a2, a3, a4, a5⟩ := a
  exact ⟨(g.2 _ (by omega)).trans a0, a1.mv g (by omega), w, a3.mv g (by omega), a4.mv g (by omega), a5.mv g (by omega)⟩
theorem AtX.scr {K : KT9} {h h' : Hp} {B sz ex : Nat} {p : Pens} {x : XS} (a : AtX K h B x) (g : Fm h h' (B + 224) (B + 228)) (w : AtN h' (B + 224) sz ex p) : AtX K h' B (x.1, x.2.1, x.2.2.1, x.2.2.2.1, (sz, ex, p), x.2.2.2.2.2) := by
  obtain ⟨a0, a1, a2, a3, a4, a5⟩ := a
  exact ⟨(g.2 _ (by omega)).trans a0, a1.mv g (by omega), a2.mv g (by omega), a3.mv g (by omega), a4.mv g (by omega), w⟩
set_option maxRecDepth 20000 in
set_option maxHeartbeats 4000000 in
theorem c_x_save {G : GT} {K : KT9} {h : Hp} {B d : Nat} {x : XS} {Q : RT → Hp → Prop} (hd : 8 ≤ d) (ok : OkX x) (cs : ClS x.2.1) (a : AtX K h B x) (hq : ∀ h', Fg h h' B (B + 229) → AtX K h' B (x.1, x.1, x.2.2.1, x.2.2.2.1, x.2.2.2.2.1, true, x.2.2.2.2.2.2) → Q (.inl (some (.int (nI (tot x.1))))) h') : Ct G mX7_save d 0 0 [.ref B] h Q := by
  have a0 := a.1
  unfold xE at a0
  have a1 := a.2.2.1.1
  refine Ct.of rfl rfl (Nat.le_of_ble_eq_true rfl) ?_
  show V G mX7_save _ _ _ 0 [some (.ref B)] [] h Q
  refine V_walk [] 40 ?_
  simp (disch := first | omega | assumption) only [↓wstep, ↓wq_s, ↓wq_0, stp, ↓WR0, ↓WR1, ↓WR2, ↓WR3, ↓WR4, ↓WR5, ↓WR6, ↓WR7, ↓WR8, ↓WR9, ↓WR10, ↓WR11, ↓WR12, WI0, WI1, WI2, WI3, fv_0, fv_1, fv_2, fv_3, lkI_0, lkI_1, kip, kin, tgp, tkp, tgn, tkn, bip, bin, sip, lget, lset1, lset2, lcat2, ↓ws_get, ↓ws_put, ws_cell, ws_cell1, ws_hcell, ws_hcell3, ws_hcell1, ↓cellOf, ↓ws_call, ↓ws_callS, ↓ws_oi, ↓ws_ac, ↓ws_mm, ↓ws_post, ↓ws_exc, popN, rok, clsAt, cnOf, catS_nil, catS_i, catS_r, catS_n, catS_l, catS_d, catS_f, nokc, Option.toList_none, Option.toList_some, List.cons_append, List.nil_append, List.length_cons, List.length_nil, List.set_cons_zero, List.set_cons_succ, List.getElem?_cons_zero, List.getElem?_cons_succ, Nat.reduceAdd, Nat.reduceSub, Nat.reduceMul, Nat.reduceEqDiff, Nat.reduceLeDiff, Nat.reduceLT, Nat.reduceDiv, Bool.false_eq_true, ↓reduceIte, true_and, and_true, false_and, and_false, reduceCtorEq, if_true, Nat.zero_add, cl, lt_nI, le_nI, eq_nI, in_nI, z_nI, retok, or_true, true_or, false_or, or_false, Nat.one_ne_zero, ne_eq, not_false_eq_true, not_true_eq_false, forall_const, Option.isSome_some, false_implies, implies_true, hput_1, hnew_1, vcat1, Nat.le_refl, Nat.not_lt_zero, Nat.lt_irrefl, hput_eq, hput_ne, hput_put, DX7_save, DX7_save_0, TX7_save, FT_7, MT_7, SC_7, DX6_copyFrom, DX6_penCount, OI_a, AC_a, NT_a, a0, a1]
  refine CtE.of0 (by omega) (c_copyFromS (by omega) (by omega) a.2.2.1 a.2.1 cs ok.2.2.1 (fun h1 f1 b1 => ?_))
  have b := a.sav f1 b1
  have b0 := b.1
  have c := b.obj (hs := true) (le := x.2.2.2.2.2.2.1) (lf := x.2.2.2.2.2.2.2)
  have c1 := b.2.1.1
  unfold xE at b0 c
  simp (disch := first | omega | assumption) only [↓wstep, ↓wq_s, ↓wq_0, stp, ↓WR0, ↓WR1, ↓WR2, ↓WR3, ↓WR4, ↓WR5, ↓WR6, ↓WR7, ↓WR8, ↓WR9, ↓WR10, ↓WR11, ↓WR12, WI0, WI1, WI2, WI3, fv_0, fv_1, fv_2, fv_3, lkI_0, lkI_1, kip, kin, tgp, tkp, tgn, tkn, bip, bin, sip, lget, lset1, lset2, lcat2, ↓ws_get, ↓ws_put, ws_cell, ws_cell1, ws_hcell, ws_hcell3, ws_hcell1, ↓cellOf, ↓ws_call, ↓ws_callS, ↓ws_oi, ↓ws_ac, ↓ws_mm, ↓ws_post, ↓ws_exc, popN, rok, clsAt, cnOf, catS_nil, catS_i, catS_r, catS_n, catS_l, catS_d, catS_f, nokc, Option.toList_none, Option.toList_some, List.cons_append, List.nil_append, List.length_cons, List.length_nil, List.set_cons_zero, List.set_cons_succ, List.getElem?_cons_zero, List.getElem?_cons_succ, Nat.reduceAdd, Nat.reduceSub, Nat.reduceMul, Nat.reduceEqDiff, Nat.reduceLeDiff, Nat.reduceLT, Nat.reduceDiv, Bool.false_eq_true, ↓reduceIte, true_and, and_true, false_and, and_false, reduceCtorEq, if_true, Nat.zero_add, cl, lt_nI, le_nI, eq_nI, in_nI, z_nI, retok, or_true, true_or, false_or, or_false, Nat.one_ne_zero, ne_eq, not_false_eq_true, not_true_eq_false, forall_const, Option.isSome_some, false_implies, implies_true, hput_1, hnew_1, vcat1, Nat.le_refl, Nat.not_lt_zero, Nat.lt_irrefl, hput_eq, hput_ne, hput_put, DX7_save, DX7_save_0, TX7_save, FT_7, MT_7, SC_7, DX6_copyFrom, DX6_penCount, OI_a, AC_a, NT_a, b0, c1]
  refine CtE.of0 (by omega) (c_penCount c.2.1 ?_)
  simp (disch := first | omega | assumption) only [↓wstep, ↓wq_s, ↓wq_0, stp, ↓WR0, ↓WR1, ↓WR2, ↓WR3, ↓WR4, ↓WR5, ↓WR6, ↓WR7, ↓WR8, ↓WR9, ↓WR10, ↓WR11, ↓WR12, WI0, WI1, WI2, WI3, fv_0, fv_1, fv_2, fv_3, lkI_0, lkI_1, kip, kin, tgp, tkp, tgn, tkn, bip, bin, sip, lget, lset1, lset2, lcat2, ↓ws_get, ↓ws_put, ws_cell, ws_cell1, ws_hcell, ws_hcell3, ws_hcell1, ↓cellOf, ↓ws_call, ↓ws_callS, ↓ws_oi, ↓ws_ac, ↓ws_mm, ↓ws_post, ↓ws_exc, popN, rok, clsAt, cnOf, catS_nil, catS_i, catS_r, catS_n, catS_l, catS_d, catS_f, nokc, Option.toList_none, Option.toList_some, List.cons_append, List.nil_append, List.length_cons, List.length_nil, List.set_cons_zero, List.set_cons_succ, List.getElem?_cons_zero, List.getElem?_cons_succ, Nat.reduceAdd, Nat.reduceSub, Nat.reduceMul, Nat.reduceEqDiff, Nat.reduceLeDiff, Nat.reduceLT, Nat.reduceDiv, Bool.false_eq_true, ↓reduceIte, true_and, and_true, false_and, and_false, reduceCtorEq, if_true, Nat.zero_add, cl, lt_nI, le_nI, eq_nI, in_nI, z_nI, retok, or_true, true_or, false_or, or_false, Nat.one_ne_zero, ne_eq, not_false_eq_true, not_true_eq_false, forall_const, Option.isSome_some, false_implies, implies_true, hput_1, hnew_1, vcat1, Nat.le_refl, Nat.not_lt_zero, Nat.lt_irrefl, hput_eq, hput_ne, hput_put, DX7_save, DX7_save_0, TX7_save, FT_7, MT_7, SC_7, DX6_copyFrom, DX6_penCount, OI_a, AC_a, NT_a]
  exact hq _ (Fm.tr (f1.wide (by omega) (by omega)) (Fm.put (by omega) (by omega)) : Fm h _ B (B + 229)).g c
set_option maxRecDepth 20000 in
set_option maxHeartbeats 4000000 in
theorem c_x_errorPosition {G : GT} {K : KT9} {h : Hp} {B d : Nat} {x : XS} {Q : RT → Hp → Prop} (hd : 8 ≤ d) (hm : MsgW G) (a : AtX K h B x) (hq : ∀ z, h.1 ≤ z → Q (if x.2.2.2.2.2.2.1 < nI 0 then .inr "java/util/NoSuchElementException" else .inl (some (.int x.2.2.2.2.2.2.1))) (z, h.2)) : Ct G mX7_errorPosition d 1 6 [.ref B] h Q := by
  have a0 := a.1
  unfold xE at a0
  have hd6 : 6 ≤ d := by omega
  refine Ct.of rfl rfl (Nat.le_of_ble_eq_true rfl) ?_
  show V G mX7_errorPosition _ _ _ 0 [some (.ref B)] [] h Q
  refine V_walk [] 40 ?_
  simp (disch := first | omega | assumption) only [↓wstep, ↓wq_s, ↓wq_0, stp, ↓WR0, ↓WR1, ↓WR2, ↓WR3, ↓WR4, ↓WR5, ↓WR6, ↓WR7, ↓WR8, ↓WR9, ↓WR10, ↓WR11, ↓WR12, WI0, WI1, WI2, WI3, fv_0, fv_1, fv_2, fv_3, lkI_0, lkI_1, kip, kin, tgp, tkp, tgn, tkn, bip, bin, sip, lget, lset1, lset2, lcat2, ↓ws_get, ↓ws_put, ws_cell, ws_cell1, ws_hcell, ws_hcell3, ws_hcell1, ↓cellOf, ↓ws_call, ↓ws_callS, ↓ws_oi, ↓ws_ac, ↓ws_mm, ↓ws_post, ↓ws_exc, popN, rok, clsAt, cnOf, catS_nil, catS_i, catS_r, catS_n, catS_l, catS_d, catS_f, nokc, Option.toList_none, Option.toList_some, List.cons_append, List.nil_append, List.length_cons, List.length_nil, List.set_cons_zero, List.set_cons_succ, List.getElem?_cons_zero, List.getElem?_cons_succ, Nat.reduceAdd, Nat.reduceSub, Nat.reduceMul, Nat.reduceEqDiff, Nat.reduceLeDiff, Nat.reduceLT, Nat.reduceDiv, Bool.false_eq_true, ↓reduceIte, true_and, and_true, false_and, and_false, reduceCtorEq, if_true, Nat.zero_add, cl, lt_nI, le_nI, eq_nI, in_nI, z_nI, retok, or_true, true_or, false_or, or_false, Nat.one_ne_zero, ne_eq, not_false_eq_true, not_true_eq_false, forall_const, Option.isSome_some, false_implies, implies_true, hput_1, hnew_1, vcat1, Nat.le_refl, Nat.not_lt_zero, Nat.lt_irrefl, hput_eq, hput_ne, hput_put, DX7_errorPosition, DX7_errorPosition_0, TX7_errorPosition, FT_7, MT_7, SC_7, OI_a, AC_a, NT_a, a0, nt_e, xl_e, ws_throw, hd6, TX7_errorPosition]
  refine ⟨fun c => ?_, fun c => ?_⟩
  · rw [if_neg (Int32.not_lt.mpr c)] at hq
    exact hq _ (Nat.le_refl _)
  · rw [if_pos (Int32.not_le.mp c)] at hq
    exact ⟨hq, hm _ (by decide)⟩
set_option maxRecDepth 20000 in
set_option maxHeartbeats 4000000 in
theorem c_x_failedCommand {G : GT} {K : KT9} {h : Hp} {B d : Nat} {x : XS} {Q : RT → Hp → Prop} (hd : 8 ≤ d) (hm : MsgW G) (a : AtX K h B x) (hq : ∀ z, h.1 ≤ z → Q (if x.2.2.2.2.2.2.2 < nI 0 then .inr "java/util/NoSuchElementException" else .inl (some (.int x.2.2.2.2.2.2.2))) (z, h.2)) : Ct G mX7_failedCommand d 1 6 [.ref B] h Q := by
  have a0 := a.1
  unfold xE at a0
  have hd6 : 6 ≤ d := by omega
  refine Ct.of rfl rfl (Nat.le_of_ble_eq_true rfl) ?_
  show V G mX7_failedCommand _ _ _ 0 [some (.ref B)] [] h Q
  refine V_walk [] 40 ?_
  simp (disch := first | omega | assumption) only [↓wstep, ↓wq_s, ↓wq_0, stp, ↓WR0, ↓WR1, ↓WR2, ↓WR3, ↓WR4, ↓WR5, ↓WR6, ↓WR7, ↓WR8, ↓WR9, ↓WR10, ↓WR11, ↓WR12, WI0, WI1, WI2, WI3, fv_0, fv_1, fv_2, fv_3, lkI_0, lkI_1, kip, kin, tgp, tkp, tgn, tkn, bip, bin, sip, lget, lset1, lset2, lcat2, ↓ws_get, ↓ws_put, ws_cell, ws_cell1, ws_hcell, ws_hcell3, ws_hcell1, ↓cellOf, ↓ws_call, ↓ws_callS, ↓ws_oi, ↓ws_ac, ↓ws_mm, ↓ws_post, ↓ws_exc, popN, rok, clsAt, cnOf, catS_nil, catS_i, catS_r, catS_n, catS_l, catS_d, catS_f, nokc, Option.toList_none, Option.toList_some, List.cons_append, List.nil_append, List.length_cons, List.length_nil, List.set_cons_zero, List.set_cons_succ, List.getElem?_cons_zero, List.getElem?_cons_succ, Nat.reduceAdd, Nat.reduceSub, Nat.reduceMul, Nat.reduceEqDiff, Nat.reduceLeDiff, Nat.reduceLT, Nat.reduceDiv, Bool.false_eq_true, ↓reduceIte, true_and, and_true, false_and, and_false, reduceCtorEq, if_true, Nat.zero_add, cl, lt_nI, le_nI, eq_nI, in_nI, z_nI, retok, or_true, true_or, false_or, or_false, Nat.one_ne_zero, ne_eq, not_false_eq_true, not_true_eq_false, forall_const, Option.isSome_some, false_implies, implies_true, hput_1, hnew_1, vcat1, Nat.le_refl, Nat.not_lt_zero, Nat.lt_irrefl, hput_eq, hput_ne, hput_put, DX7_failedCommand, DX7_failedCommand_0, TX7_failedCommand, FT_7, MT_7, SC_7, OI_a, AC_a, NT_a, a0, nt_e, xl_e, ws_throw, hd6, TX7_failedCommand]
  refine ⟨fun c => ?_, fun c => ?_⟩
  · rw [if_neg (Int32.not_lt.mpr c)] at hq
    exact hq _ (Nat.le_refl _)
  · rw [if_pos (Int32.not_le.mp c)] at hq
    exact ⟨hq, hm _ (by decide)⟩
set_option maxRecDepth 20000 in
set_option maxHeartbeats 4000000 in
theorem c_x_type {G : GT} {K : KT9} {h : Hp} {B d : Nat} {c : Fin 65536} {x : XS} {Q : RT → Hp → Prop} (hd : 8 ≤ d) (hm : MsgW G) (hl : x.2.2.2.1.2.1 ≤ 60) (a : AtX K h B x) (hq0 : x.2.2.2.1.2.1 = 60 → ∀ z, h.1 ≤ z → Q (.inr "java/lang/IllegalStateException") (z, h.2)) (hq1 : x.2.2.2.1.2.1 < 60 → ∀ h', Fg h h' B (B + 229) → AtX K h' B (x.1, x.2.1, x.2.2.1, (fu x.2.2.2.1.1 x.2.2.2.1.2.1 c, x.2.2.2.1.2.1 + 1, x.2.2.2.1.2.2), x.2.2.2.2) → Q (.inl (some (.int (nI (x.2.2.2.1.2.1 + 1))))) h') : Ct G mX7_type d 1 6 [.ref B, .int (nI c.val)] h Q := by
  have a0 := a.1
  unfold xE at a0
  have a4 := a.2.2.2.2.1
  have a5 := a4.1
  have hd6 : 6 ≤ d := by omega
  refine Ct.of rfl rfl (Nat.le_of_ble_eq_true rfl) ?_
  show V G mX7_type _ _ _ 0 [some (.ref B), some (.int (nI c.val))] [] h Q
  refine V_walk [22] 40 ?_
  simp (disch := first | omega | assumption) only [↓wstep, ↓wq_s, ↓wq_0, stp, ↓WR0, ↓WR1, ↓WR2, ↓WR3, ↓WR4, ↓WR5, ↓WR6, ↓WR7, ↓WR8, ↓WR9, ↓WR10, ↓WR11, ↓WR12, WI0, WI1, WI2, WI3, fv_0, fv_1, fv_2, fv_3, lkI_0, lkI_1, kip, kin, tgp, tkp, tgn, tkn, bip, bin, sip, lget, lset1, lset2, lcat2, ↓ws_get, ↓ws_put, ws_cell, ws_cell1, ws_hcell, ws_hcell3, ws_hcell1, ↓cellOf, ↓ws_call, ↓ws_callS, ↓ws_oi, ↓ws_ac, ↓ws_mm, ↓ws_post, ↓ws_exc, popN, rok, clsAt, cnOf, catS_nil, catS_i, catS_r, catS_n, catS_l, catS_d, catS_f, nokc, Option.toList_none, Option.toList_some, List.cons_append, List.nil_append, List.length_cons, List.length_nil, List.set_cons_zero, List.set_cons_succ, List.getElem?_cons_zero, List.getElem?_cons_succ, Nat.reduceAdd, Nat.reduceSub, Nat.reduceMul, Nat.reduceEqDiff, Nat.reduceLeDiff, Nat.reduceLT, Nat.reduceDiv, Bool.false_eq_true, ↓reduceIte, true_and, and_true, false_and, and_false, reduceCtorEq, if_true, Nat.zero_add, cl, lt_nI, le_nI, eq_nI, in_nI, z_nI, retok, or_true, true_or, false_or, or_false, Nat.one_ne_zero, ne_eq, not_false_eq_true, not_true_eq_false, forall_const, Option.isSome_some, false_implies, implies_true, hput_1, hnew_1, vcat1, Nat.le_refl, Nat.not_lt_zero, Nat.lt_irrefl, hput_eq, hput_ne, hput_put, DX7_type, DX7_type_0, TX7_type, FT_7, MT_7, SC_7, DX5_append, OI_a, AC_a, NT_a, a0, a5, nt_e, xl_e, ws_throw, hd6, TX7_type]
  refine ⟨fun k => ?_, fun k => ?_⟩
  · exact (1 : Nat)
  · exact (1 : Nat)
