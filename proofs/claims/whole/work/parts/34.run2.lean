/-! ===== the class's own methods: run, put together ===== -/
theorem runS_tl (cm : Nat → Cmd) (m : Nat) (x : XS) : (runS cm m x).2.2.2 = x.2.2.2 := by unfold runS; split <;> rfl
theorem pAll_lt (cm : Nat → Cmd) : ∀ (r i : Nat) (S : St) (k : Nat), (pAll cm r i S).1 = some k → k < i + r
  | 0, _, _, _, h => by cases h
  | r + 1, i, S, k, h => by
    rw [pAll] at h
    split at h
    · cases h; omega
    · have := pAll_lt cm r (i + 1) _ k h; omega
set_option maxRecDepth 20000 in
set_option maxHeartbeats 4000000 in
theorem c_x_run {G : GT} {K : KT9} {B d : Nat} {n : Nat → Nat} {f : Nat → Nat → Nat} {Gd : Nat → St → Prop} {x : XS} {h : Hp} {Q : RT → Hp → Prop} (hd : 9 ≤ d) (hm : MsgW G) (hj : JW G) (w : KW G K n f) (ws : KSW G K) (hB : b0 G ≤ B) (g0 : ∀ j S, Gd j S → tot S ≤ 24 ∧ FeaS S ∧ ClS S) (g1 : ∀ j S c, Gd j S → Gd (j + 1) (pExec S c).2) (hz : Zr G h) (a : AtX K h B x) (gd : Gd 0 x.1) (ok : OkX x) (hl : x.2.2.2.1.2.1 ≤ 60) (hk : ∀ j, (x.2.2.2.1.2.2.2.2 j).1 < 10)
    (hq0 : (pParse x.2.2.2.1.1 x.2.2.2.1.2.1 n f 9 0 0 x.2.2.2.1.2.2.1 x.2.2.2.1.2.2.2.2).1 = none → ∀ h', Fg h h' B (B + 228) → AtX K h' B (x.1, x.2.1, x.2.2.1, (x.2.2.2.1.1, 0, (pParse x.2.2.2.1.1 x.2.2.2.1.2.1 n f 9 0 0 x.2.2.2.1.2.2.1 x.2.2.2.1.2.2.2.2).2), x.2.2.2.2.1, x.2.2.2.2.2.1, nI (pParse x.2.2.2.1.1 x.2.2.2.1.2.1 n f 9 0 0 x.2.2.2.1.2.2.1 x.2.2.2.1.2.2.2.2).2.1, x.2.2.2.2.2.2.2) → Q (.inr "java/lang/IllegalArgumentException") h')
    (hq1 : ∀ m, (pParse x.2.2.2.1.1 x.2.2.2.1.2.1 n f 9 0 0 x.2.2.2.1.2.2.1 x.2.2.2.1.2.2.2.2).1 = some m → ∀ h', Fg h h' B (B + 228) → ∀ k, (pAll (pParse x.2.2.2.1.1 x.2.2.2.1.2.1 n f 9 0 0 x.2.2.2.1.2.2.1 x.2.2.2.1.2.2.2.2).2.2.2 m 0 x.1).1 = some k → AtX K h' B (runS (pParse x.2.2.2.1.1 x.2.2.2.1.2.1 n f 9 0 0 x.2.2.2.1.2.2.1 x.2.2.2.1.2.2.2.2).2.2.2 m (x.1, x.2.1, x.2.2.1, (x.2.2.2.1.1, 0, (pParse x.2.2.2.1.1 x.2.2.2.1.2.1 n f 9 0 0 x.2.2.2.1.2.2.1 x.2.2.2.1.2.2.2.2).2), x.2.2.2.2.1, x.2.2.2.2.2.1, x.2.2.2.2.2.2.1, nI k)) → Q (.inr "java/lang/UnsupportedOperationException") h')
    (hq2 : ∀ m, (pParse x.2.2.2.1.1 x.2.2.2.1.2.1 n f 9 0 0 x.2.2.2.1.2.2.1 x.2.2.2.1.2.2.2.2).1 = some m → ∀ h', Fg h h' B (B + 228) → (pAll (pParse x.2.2.2.1.1 x.2.2.2.1.2.1 n f 9 0 0 x.2.2.2.1.2.2.1 x.2.2.2.1.2.2.2.2).2.2.2 m 0 x.1).1 = none → AtX K h' B (runS (pParse x.2.2.2.1.1 x.2.2.2.1.2.1 n f 9 0 0 x.2.2.2.1.2.2.1 x.2.2.2.1.2.2.2.2).2.2.2 m (x.1, x.2.1, x.2.2.1, (x.2.2.2.1.1, 0, (pParse x.2.2.2.1.1 x.2.2.2.1.2.1 n f 9 0 0 x.2.2.2.1.2.2.1 x.2.2.2.1.2.2.2.2).2), x.2.2.2.2)) → Q (.inl (some (.int (nI m)))) h') : Ct G mX7_run d 1 6 [.ref B] h Q := by
  have a0 := a.1
  unfold xE at a0
  have a4 := a.2.2.2.2.1
  have a5 := a4.1
  have hd6 : 6 ≤ d := by omega
  have pk := pParse_k (sg := x.2.2.2.1.1) (len := x.2.2.2.1.2.1) (n := n) (f := f) 9 0 0 x.2.2.2.1.2.2.1 x.2.2.2.1.2.2.2.2 hk
  refine Ct.of rfl rfl (Nat.le_of_ble_eq_true rfl) ?_
  show V G mX7_run _ _ _ 0 [some (.ref B), none, none] [] h Q
  refine V_walk [41] 40 ?_
  simp (disch := first | omega | assumption) only [↓wstep, ↓wq_s, ↓wq_0, stp, ↓WR0, ↓WR1, ↓WR2, ↓WR3, ↓WR4, ↓WR5, ↓WR6, ↓WR7, ↓WR8, ↓WR9, ↓WR10, ↓WR11, ↓WR12, WI0, WI1, WI2, WI3, fv_0, fv_1, fv_2, fv_3, lkI_0, lkI_1, kip, kin, tgp, tkp, tgn, tkn, bip, bin, sip, lget, lset1, lset2, lcat2, ↓ws_get, ↓ws_put, ws_cell, ws_cell1, ws_hcell, ws_hcell3, ws_hcell1, ↓cellOf, ↓ws_call, ↓ws_callS, ↓ws_oi, ↓ws_ac, ↓ws_mm, ↓ws_post, ↓ws_exc, popN, rok, clsAt, cnOf, catS_nil, catS_i, catS_r, catS_n, catS_l, catS_d, catS_f, nokc, Option.toList_none, Option.toList_some, List.cons_append, List.nil_append, List.length_cons, List.length_nil, List.set_cons_zero, List.set_cons_succ, List.getElem?_cons_zero, List.getElem?_cons_succ, Nat.reduceAdd, Nat.reduceSub, Nat.reduceMul, Nat.reduceEqDiff, Nat.reduceLeDiff, Nat.reduceLT, Nat.reduceDiv, Bool.false_eq_true, ↓reduceIte, true_and, and_true, false_and, and_false, reduceCtorEq, if_true, Nat.zero_add, cl, lt_nI, le_nI, eq_nI, in_nI, z_nI, retok, or_true, true_or, false_or, or_false, Nat.one_ne_zero, ne_eq, not_false_eq_true, not_true_eq_false, forall_const, Option.isSome_some, false_implies, implies_true, hput_1, hnew_1, vcat1, Nat.le_refl, Nat.not_lt_zero, Nat.lt_irrefl, hput_eq, hput_ne, hput_put, DX7_run, DX7_run_0, TX7_run, FT_7, MT_7, SC_7, DX5_parse, DX7_executeAll, OI_a, AC_a, NT_a, a0, a5]
  refine CtE.of0 (by omega) (c_parse (by omega) hj w (by omega) hl hz a4 (fun h1 f1 b1 => ?_))
  generalize pParse x.2.2.2.1.1 x.2.2.2.1.2.1 n f 9 0 0 x.2.2.2.1.2.2.1 x.2.2.2.1.2.2.2.2 = P at *
  have b := a.prog f1 b1
  have b0' := b.1
  have b5 := b1.1
  unfold xE at b0'
  have c4 := b1.put0 (len' := 0) (er' := P.2.1) (tt' := P.2.2.1)
  have fc : Fm h1 (hput h1 (B + 212) (.inr (3, [.ref (B + 212 + 1), .ref (B + 212 + 2), .int (nI 0), .int (nI P.2.1), .int (nI P.2.2.1)]))) (B + 212) (B + 224) := Fm.put (by omega) (by omega)
  have c := b.prog fc c4
  have k1 : Fm h _ B (B + 228) := (f1.tr fc).wide (by omega) (by omega)
  obtain ⟨o, P2⟩ := P
  cases o with
  | none =>
    simp (disch := first | omega | assumption) only [↓wstep, ↓wq_s, ↓wq_0, stp, ↓WR0, ↓WR1, ↓WR2, ↓WR3, ↓WR4, ↓WR5, ↓WR6, ↓WR7, ↓WR8, ↓WR9, ↓WR10, ↓WR11, ↓WR12, WI0, WI1, WI2, WI3, fv_0, fv_1, fv_2, fv_3, lkI_0, lkI_1, kip, kin, tgp, tkp, tgn, tkn, bip, bin, sip, lget, lset1, lset2, lcat2, ↓ws_get, ↓ws_put, ws_cell, ws_cell1, ws_hcell, ws_hcell3, ws_hcell1, ↓cellOf, ↓ws_call, ↓ws_callS, ↓ws_oi, ↓ws_ac, ↓ws_mm, ↓ws_post, ↓ws_exc, popN, rok, clsAt, cnOf, catS_nil, catS_i, catS_r, catS_n, catS_l, catS_d, catS_f, nokc, Option.toList_none, Option.toList_some, List.cons_append, List.nil_append, List.length_cons, List.length_nil, List.set_cons_zero, List.set_cons_succ, List.getElem?_cons_zero, List.getElem?_cons_succ, Nat.reduceAdd, Nat.reduceSub, Nat.reduceMul, Nat.reduceEqDiff, Nat.reduceLeDiff, Nat.reduceLT, Nat.reduceDiv, Bool.false_eq_true, ↓reduceIte, true_and, and_true, false_and, and_false, reduceCtorEq, if_true, Nat.zero_add, cl, lt_nI, le_nI, eq_nI, in_nI, z_nI, retok, or_true, true_or, false_or, or_false, Nat.one_ne_zero, ne_eq, not_false_eq_true, not_true_eq_false, forall_const, Option.isSome_some, false_implies, implies_true, hput_1, hnew_1, vcat1, Nat.le_refl, Nat.not_lt_zero, Nat.lt_irrefl, hput_eq, hput_ne, hput_put, DX7_run, DX7_run_0, TX7_run, FT_7, MT_7, SC_7, DX5_parse, DX7_executeAll, OI_a, AC_a, NT_a, oI_0, n1_0, b0', b5, nt_e, xl_e, ws_throw, hd6, TX7_run]
    refine ⟨fun z hz' => ?_, hm _ (by decide)⟩
    have e := c.obj (hs := x.2.2.2.2.2.1) (le := nI P2.1) (lf := x.2.2.2.2.2.2.2)
    exact hq0 rfl _ ((k1.tr (Fm.put (by omega) (by omega))).g.tr (Fg.sz hz')) e.z
  | some m =>
    have pm := pk.2 m rfl
    have c0 := c.1
    unfold xE at c0
    simp (disch := first | omega | assumption) only [↓wstep, ↓wq_s, ↓wq_0, stp, ↓WR0, ↓WR1, ↓WR2, ↓WR3, ↓WR4, ↓WR5, ↓WR6, ↓WR7, ↓WR8, ↓WR9, ↓WR10, ↓WR11, ↓WR12, WI0, WI1, WI2, WI3, fv_0, fv_1, fv_2, fv_3, lkI_0, lkI_1, kip, kin, tgp, tkp, tgn, tkn, bip, bin, sip, lget, lset1, lset2, lcat2, ↓ws_get, ↓ws_put, ws_cell, ws_cell1, ws_hcell, ws_hcell3, ws_hcell1, ↓cellOf, ↓ws_call, ↓ws_callS, ↓ws_oi, ↓ws_ac, ↓ws_mm, ↓ws_post, ↓ws_exc, popN, rok, clsAt, cnOf, catS_nil, catS_i, catS_r, catS_n, catS_l, catS_d, catS_f, nokc, Option.toList_none, Option.toList_some, List.cons_append, List.nil_append, List.length_cons, List.length_nil, List.set_cons_zero, List.set_cons_succ, List.getElem?_cons_zero, List.getElem?_cons_succ, Nat.reduceAdd, Nat.reduceSub, Nat.reduceMul, Nat.reduceEqDiff, Nat.reduceLeDiff, Nat.reduceLT, Nat.reduceDiv, Bool.false_eq_true, ↓reduceIte, true_and, and_true, false_and, and_false, reduceCtorEq, if_true, Nat.zero_add, cl, lt_nI, le_nI, eq_nI, in_nI, z_nI, retok, or_true, true_or, false_or, or_false, Nat.one_ne_zero, ne_eq, not_false_eq_true, not_true_eq_false, forall_const, Option.isSome_some, false_implies, implies_true, hput_1, hnew_1, vcat1, Nat.le_refl, Nat.not_lt_zero, Nat.lt_irrefl, hput_eq, hput_ne, hput_put, DX7_run, DX7_run_0, TX7_run, FT_7, MT_7, SC_7, DX5_parse, DX7_executeAll, OI_a, AC_a, NT_a, oI_s, Nat.zero_le, b0', b5]
    refine V_walk [] 40 ?_
    simp (disch := first | omega | assumption) only [↓wstep, ↓wq_s, ↓wq_0, stp, ↓WR0, ↓WR1, ↓WR2, ↓WR3, ↓WR4, ↓WR5, ↓WR6, ↓WR7, ↓WR8, ↓WR9, ↓WR10, ↓WR11, ↓WR12, WI0, WI1, WI2, WI3, fv_0, fv_1, fv_2, fv_3, lkI_0, lkI_1, kip, kin, tgp, tkp, tgn, tkn, bip, bin, sip, lget, lset1, lset2, lcat2, ↓ws_get, ↓ws_put, ws_cell, ws_cell1, ws_hcell, ws_hcell3, ws_hcell1, ↓cellOf, ↓ws_call, ↓ws_callS, ↓ws_oi, ↓ws_ac, ↓ws_mm, ↓ws_post, ↓ws_exc, popN, rok, clsAt, cnOf, catS_nil, catS_i, catS_r, catS_n, catS_l, catS_d, catS_f, nokc, Option.toList_none, Option.toList_some, List.cons_append, List.nil_append, List.length_cons, List.length_nil, List.set_cons_zero, List.set_cons_succ, List.getElem?_cons_zero, List.getElem?_cons_succ, Nat.reduceAdd, Nat.reduceSub, Nat.reduceMul, Nat.reduceEqDiff, Nat.reduceLeDiff, Nat.reduceLT, Nat.reduceDiv, Bool.false_eq_true, ↓reduceIte, true_and, and_true, false_and, and_false, reduceCtorEq, if_true, Nat.zero_add, cl, lt_nI, le_nI, eq_nI, in_nI, z_nI, retok, or_true, true_or, false_or, or_false, Nat.one_ne_zero, ne_eq, not_false_eq_true, not_true_eq_false, forall_const, Option.isSome_some, false_implies, implies_true, hput_1, hnew_1, vcat1, Nat.le_refl, Nat.not_lt_zero, Nat.lt_irrefl, hput_eq, hput_ne, hput_put, DX7_run, DX7_run_0, TX7_run, FT_7, MT_7, SC_7, DX5_parse, DX7_executeAll, OI_a, AC_a, NT_a, b0', b5]
    refine CtE.of0 (by omega) (c_executeAll (by omega) w ws hB (by omega) g0 g1 (hz.mv k1 hB) c gd ok (fun j _ => pk.1 j) (fun h2 f2 a2 => ?_))
    have e0 := a2.1
    rw [runS_tl] at e0
    dsimp only at e0 a2 ⊢
    unfold xE at e0
    cases e : (pAll P2.2.2 m 0 x.1).1 with
    | none =>
      simp (disch := first | omega | assumption) only [↓wstep, ↓wq_s, ↓wq_0, stp, ↓WR0, ↓WR1, ↓WR2, ↓WR3, ↓WR4, ↓WR5, ↓WR6, ↓WR7, ↓WR8, ↓WR9, ↓WR10, ↓WR11, ↓WR12, WI0, WI1, WI2, WI3, fv_0, fv_1, fv_2, fv_3, lkI_0, lkI_1, kip, kin, tgp, tkp, tgn, tkn, bip, bin, sip, lget, lset1, lset2, lcat2, ↓ws_get, ↓ws_put, ws_cell, ws_cell1, ws_hcell, ws_hcell3, ws_hcell1, ↓cellOf, ↓ws_call, ↓ws_callS, ↓ws_oi, ↓ws_ac, ↓ws_mm, ↓ws_post, ↓ws_exc, popN, rok, clsAt, cnOf, catS_nil, catS_i, catS_r, catS_n, catS_l, catS_d, catS_f, nokc, Option.toList_none, Option.toList_some, List.cons_append, List.nil_append, List.length_cons, List.length_nil, List.set_cons_zero, List.set_cons_succ, List.getElem?_cons_zero, List.getElem?_cons_succ, Nat.reduceAdd, Nat.reduceSub, Nat.reduceMul, Nat.reduceEqDiff, Nat.reduceLeDiff, Nat.reduceLT, Nat.reduceDiv, Bool.false_eq_true, ↓reduceIte, true_and, and_true, false_and, and_false, reduceCtorEq, if_true, Nat.zero_add, cl, lt_nI, le_nI, eq_nI, in_nI, z_nI, retok, or_true, true_or, false_or, or_false, Nat.one_ne_zero, ne_eq, not_false_eq_true, not_true_eq_false, forall_const, Option.isSome_some, false_implies, implies_true, hput_1, hnew_1, vcat1, Nat.le_refl, Nat.not_lt_zero, Nat.lt_irrefl, hput_eq, hput_ne, hput_put, DX7_run, DX7_run_0, TX7_run, FT_7, MT_7, SC_7, DX5_parse, DX7_executeAll, OI_a, AC_a, NT_a, oI_0, n1_0]
      exact hq2 m rfl h2 (k1.g.tr f2) e a2
    | some k =>
      simp (disch := first | omega | assumption) only [↓wstep, ↓wq_s, ↓wq_0, stp, ↓WR0, ↓WR1, ↓WR2, ↓WR3, ↓WR4, ↓WR5, ↓WR6, ↓WR7, ↓WR8, ↓WR9, ↓WR10, ↓WR11, ↓WR12, WI0, WI1, WI2, WI3, fv_0, fv_1, fv_2, fv_3, lkI_0, lkI_1, kip, kin, tgp, tkp, tgn, tkn, bip, bin, sip, lget, lset1, lset2, lcat2, ↓ws_get, ↓ws_put, ws_cell, ws_cell1, ws_hcell, ws_hcell3, ws_hcell1, ↓cellOf, ↓ws_call, ↓ws_callS, ↓ws_oi, ↓ws_ac, ↓ws_mm, ↓ws_post, ↓ws_exc, popN, rok, clsAt, cnOf, catS_nil, catS_i, catS_r, catS_n, catS_l, catS_d, catS_f, nokc, Option.toList_none, Option.toList_some, List.cons_append, List.nil_append, List.length_cons, List.length_nil, List.set_cons_zero, List.set_cons_succ, List.getElem?_cons_zero, List.getElem?_cons_succ, Nat.reduceAdd, Nat.reduceSub, Nat.reduceMul, Nat.reduceEqDiff, Nat.reduceLeDiff, Nat.reduceLT, Nat.reduceDiv, Bool.false_eq_true, ↓reduceIte, true_and, and_true, false_and, and_false, reduceCtorEq, if_true, Nat.zero_add, cl, lt_nI, le_nI, eq_nI, in_nI, z_nI, retok, or_true, true_or, false_or, or_false, Nat.one_ne_zero, ne_eq, not_false_eq_true, not_true_eq_false, forall_const, Option.isSome_some, false_implies, implies_true, hput_1, hnew_1, vcat1, Nat.le_refl, Nat.not_lt_zero, Nat.lt_irrefl, hput_eq, hput_ne, hput_put, DX7_run, DX7_run_0, TX7_run, FT_7, MT_7, SC_7, DX5_parse, DX7_executeAll, OI_a, AC_a, NT_a, oI_s, Nat.zero_le, e0, nt_e, xl_e, ws_throw, hd6, TX7_run]
      have hk9 := pAll_lt _ _ _ _ _ e
      have hk0 : ¬ nI k < nI 0 := by rw [lt_nI (by omega) (by omega)]; omega
      refine ⟨fun c => absurd c hk0, fun _ => ⟨fun z hz' => ?_, hm _ (by decide)⟩⟩
      have g := a2.obj (hs := x.2.2.2.2.2.1) (le := x.2.2.2.2.2.2.1) (lf := nI k)
      refine hq1 m rfl _ ((k1.g.tr f2).tr ((Fm.put (by omega) (by omega) : Fm h2 _ B (B + 228)).g.tr (Fg.sz hz'))) k e ?_
      unfold runS at g ⊢
      dsimp only at g ⊢
      rw [e] at g ⊢
      exact g.z
