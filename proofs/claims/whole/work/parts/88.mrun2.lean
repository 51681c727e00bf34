/-! ===== the model reads a program ===== -/
set_option maxRecDepth 20000 in
set_option maxHeartbeats 4000000 in
theorem l_mRead {G : GT} {M d len : Nat} {o : MO} {sg : Nat → Fin 65536} {Q : RT → Hp → Prop} (hd : 7 ≤ d) (hj : JW G) (hx : MTX G) (hM : b0 G ≤ M) (hl : len ≤ 60) : ∀ (r i t er : Nat) (cm : Nat → Cmd) (f : Nat → Int32) (h : Hp), i + r + 1 = 9 → 7 * i ≤ t → t ≤ len → Zr G h → AtC h M o len sg (rnS sg len (KP (kOf sg len t)) (false, t)) (i + 1) → h.2 (M + 8) = some (.inl (0, 240, .inl f)) → (∀ j, j < i → CmR f (4 * j) (cm j)) → ((rnS sg len (KP (kOf sg len t)) (false, t)).1 = false → f (4 * i) = wdI sg len t ∧ Rws sg len f (4 * i + 1) (KP (kOf sg len t)) (false, t)) →
    (∀ h' f' s' k', Fdm h h' M → AtC h' M o len sg s' k' → k' ≤ 9 → s'.2 ≤ len → h'.2 (M + 8) = some (.inl (0, 240, .inl f')) → (((pParse sg len kL kF (r + 1) i t er cm).1 = none ∧ (s'.1 = true ∨ s'.2 < len) ∧ (pParse sg len kL kF (r + 1) i t er cm).2.1 = s'.2) ∨ ((pParse sg len kL kF (r + 1) i t er cm).1 = some k' ∧ s'.1 = false ∧ s'.2 = len ∧ ∀ j, j < k' → CmR f' (4 * j) ((pParse sg len kL kF (r + 1) i t er cm).2.2.2 j))) → V G mX8_run d 0 0 53 [some (.ref M)] [] h' Q) → V G mX8_run d 0 0 19 [some (.ref M)] [] h Q := by
  intro r
  induction r using Nat.strongRecOn with
  | _ r ih =>
    intro i t er cm f h hi ht7 htl hz at' h8 hc hn hq
    have a0 := at'.1
    unfold mO oP at a0
    have hs := rnS_le (sg := sg) (len := len) (KP (kOf sg len t)) (false, t) htl
    have pm := pCmd_m (sg := sg) (len := len) (t := t) (c := cm i) htl
    rw [pParse] at hq
    cases e : (rnS sg len (KP (kOf sg len t)) (false, t)).1 with
    | true =>
      rw [e] at a0
      obtain ⟨m1, m2⟩ := pm.1 e
      rw [if_neg (by rw [m1]; decide)] at hq
      refine V_walk [53, 19] 60 ?_
      simp (disch := first | omega | assumption) only [↓wstep, ↓wq_s, ↓wq_0, stp, ↓WR0, ↓WR1, ↓WR2, ↓WR3, ↓WR4, ↓WR5, ↓WR6, ↓WR7, ↓WR8, ↓WR9, ↓WR10, ↓WR11, ↓WR12, WI0, WI1, WI2, WI3, fv_0, fv_1, fv_2, fv_3, lkI_0, lkI_1, kip, kin, tgp, tkp, tgn, tkn, bip, bin, sip, lget, lset1, lset2, lcat2, ↓ws_get, ↓ws_put, ws_cell, ws_cell1, ws_hcell, ws_hcell3, ws_hcell1, ↓cellOf, ↓ws_call, ↓ws_callS, ↓ws_oi, ↓ws_ac, ↓ws_mm, ↓ws_post, ↓ws_exc, popN, rok, clsAt, cnOf, catS_nil, catS_i, catS_r, catS_n, catS_l, catS_d, catS_f, nokc, Option.toList_none, Option.toList_some, List.cons_append, List.nil_append, List.length_cons, List.length_nil, List.set_cons_zero, List.set_cons_succ, List.getElem?_cons_zero, List.getElem?_cons_succ, Nat.reduceAdd, Nat.reduceSub, Nat.reduceMul, Nat.reduceEqDiff, Nat.reduceLeDiff, Nat.reduceLT, Nat.reduceDiv, Bool.false_eq_true, ↓reduceIte, true_and, and_true, false_and, and_false, reduceCtorEq, if_true, Nat.zero_add, cl, lt_nI, le_nI, eq_nI, in_nI, z_nI, retok, or_true, true_or, false_or, or_false, Nat.one_ne_zero, ne_eq, not_false_eq_true, not_true_eq_false, forall_const, Option.isSome_some, false_implies, implies_true, hput_1, hnew_1, vcat1, Nat.le_refl, Nat.not_lt_zero, Nat.lt_irrefl, hput_eq, hput_ne, hput_put, DX8_run, DX8_run_0, DX8_run_1, TX8_run, FT_8, MT_8, SC_8, DX8_readCommand, DX8_behind, DX8_fails, DX8_keep, DX8_does, DX8_ends, OI_a, AC_a, NT_a, a0, bI1_t]
      exact hq h f _ (i + 1) Fdm.rf at' (by omega) hs.2 h8 (.inl ⟨rfl, .inl e, m2⟩)
    | false =>
      rw [e] at a0
      obtain ⟨m1, m2, a, b, c, m3⟩ := pm.2 e
      have ok := cm_ok e (hn e).1 (hn e).2 a b c
      rw [← m3] at ok
      have hmin := rnS_min (sg := sg) (len := len) (KP (kOf sg len t)) t htl (KP_ok _) e
      have h6 := KP_min (kOf_lt sg len t)
      rw [if_pos m1, m2] at hq
      have hc' : ∀ j, j < i + 1 → CmR f (4 * j) (fu cm i (pCmd sg len kL kF (t, cm i)).2.2.2 j) := fun j hj => by
        by_cases q : j = i
        · rw [q, fu_eq]; exact ok
        · rw [fu_ne q]; exact hc j (by omega)
      refine V_walk [53, 19] 60 ?_
      simp (disch := first | omega | assumption) only [↓wstep, ↓wq_s, ↓wq_0, stp, ↓WR0, ↓WR1, ↓WR2, ↓WR3, ↓WR4, ↓WR5, ↓WR6, ↓WR7, ↓WR8, ↓WR9, ↓WR10, ↓WR11, ↓WR12, WI0, WI1, WI2, WI3, fv_0, fv_1, fv_2, fv_3, lkI_0, lkI_1, kip, kin, tgp, tkp, tgn, tkn, bip, bin, sip, lget, lset1, lset2, lcat2, ↓ws_get, ↓ws_put, ws_cell, ws_cell1, ws_hcell, ws_hcell3, ws_hcell1, ↓cellOf, ↓ws_call, ↓ws_callS, ↓ws_oi, ↓ws_ac, ↓ws_mm, ↓ws_post, ↓ws_exc, popN, rok, clsAt, cnOf, catS_nil, catS_i, catS_r, catS_n, catS_l, catS_d, catS_f, nokc, Option.toList_none, Option.toList_some, List.cons_append, List.nil_append, List.length_cons, List.length_nil, List.set_cons_zero, List.set_cons_succ, List.getElem?_cons_zero, List.getElem?_cons_succ, Nat.reduceAdd, Nat.reduceSub, Nat.reduceMul, Nat.reduceEqDiff, Nat.reduceLeDiff, Nat.reduceLT, Nat.reduceDiv, Bool.false_eq_true, ↓reduceIte, true_and, and_true, false_and, and_false, reduceCtorEq, if_true, Nat.zero_add, cl, lt_nI, le_nI, eq_nI, in_nI, z_nI, retok, or_true, true_or, false_or, or_false, Nat.one_ne_zero, ne_eq, not_false_eq_true, not_true_eq_false, forall_const, Option.isSome_some, false_implies, implies_true, hput_1, hnew_1, vcat1, Nat.le_refl, Nat.not_lt_zero, Nat.lt_irrefl, hput_eq, hput_ne, hput_put, DX8_run, DX8_run_0, DX8_run_1, TX8_run, FT_8, MT_8, SC_8, DX8_readCommand, DX8_behind, DX8_fails, DX8_keep, DX8_does, DX8_ends, OI_a, AC_a, NT_a, a0, bI1_f]
      refine CtE.of0 (by omega) (c_behind (far := 0) (by omega) hl hs.2 at' ?_)
      simp (disch := first | omega | assumption) only [↓wstep, ↓wq_s, ↓wq_0, stp, ↓WR0, ↓WR1, ↓WR2, ↓WR3, ↓WR4, ↓WR5, ↓WR6, ↓WR7, ↓WR8, ↓WR9, ↓WR10, ↓WR11, ↓WR12, WI0, WI1, WI2, WI3, fv_0, fv_1, fv_2, fv_3, lkI_0, lkI_1, kip, kin, tgp, tkp, tgn, tkn, bip, bin, sip, lget, lset1, lset2, lcat2, ↓ws_get, ↓ws_put, ws_cell, ws_cell1, ws_hcell, ws_hcell3, ws_hcell1, ↓cellOf, ↓ws_call, ↓ws_callS, ↓ws_oi, ↓ws_ac, ↓ws_mm, ↓ws_post, ↓ws_exc, popN, rok, clsAt, cnOf, catS_nil, catS_i, catS_r, catS_n, catS_l, catS_d, catS_f, nokc, Option.toList_none, Option.toList_some, List.cons_append, List.nil_append, List.length_cons, List.length_nil, List.set_cons_zero, List.set_cons_succ, List.getElem?_cons_zero, List.getElem?_cons_succ, Nat.reduceAdd, Nat.reduceSub, Nat.reduceMul, Nat.reduceEqDiff, Nat.reduceLeDiff, Nat.reduceLT, Nat.reduceDiv, Bool.false_eq_true, ↓reduceIte, true_and, and_true, false_and, and_false, reduceCtorEq, if_true, Nat.zero_add, cl, lt_nI, le_nI, eq_nI, in_nI, z_nI, retok, or_true, true_or, false_or, or_false, Nat.one_ne_zero, ne_eq, not_false_eq_true, not_true_eq_false, forall_const, Option.isSome_some, false_implies, implies_true, hput_1, hnew_1, vcat1, Nat.le_refl, Nat.not_lt_zero, Nat.lt_irrefl, hput_eq, hput_ne, hput_put, DX8_run, DX8_run_0, DX8_run_1, TX8_run, FT_8, MT_8, SC_8, DX8_readCommand, DX8_behind, DX8_fails, DX8_keep, DX8_does, DX8_ends, OI_a, AC_a, NT_a, a0, bI1_f, nI_add]
      refine ⟨fun q => ?_, fun q => ?_⟩
      · have q' : ¬ ((rnS sg len (KP (kOf sg len t)) (false, t)).2 < len ∧ (sg (rnS sg len (KP (kOf sg len t)) (false, t)).2).val = 59) := fun z => q ((bhd_eq (by omega)).mpr z)
        refine hq h f _ (i + 1) Fdm.rf at' (by omega) hs.2 h8 ?_
        by_cases l : len ≤ (rnS sg len (KP (kOf sg len t)) (false, t)).2
        · rw [if_pos l]
          exact .inr ⟨rfl, e, by omega, hc'⟩
        · rw [if_neg l, if_neg (fun z => q' ⟨by omega, by rw [z]; rfl⟩)]
          exact .inl ⟨rfl, .inr (by omega), rfl⟩
      · have q' := (bhd_eq (sg := sg) (len := len) (c := 59) (by omega)).mp q
        simp only [Nat.add_zero] at q'
        have q2 : sg (rnS sg len (KP (kOf sg len t)) (false, t)).2 = 59 := Fin.ext q'.2
        rw [if_neg (by omega), if_pos q2] at hq
        cases r with
        | zero => omega
        | succ r =>
          refine CtE.of0 (by omega) (c_mReadCommand (t := (rnS sg len (KP (kOf sg len t)) (false, t)).2 + 1) (o := o) (k := i + 1) (sg := sg) (len := len) (cm := f) (by omega) hj hx hM hl (by omega) (by omega) (hz.d Fdm.p0 hM) (at'.put (o' := o) (s' := (false, (rnS sg len (KP (kOf sg len t)) (false, t)).2 + 1)) (k' := i + 1)) ((hput_ne (by omega)).trans h8) (fun h1 f1 d1 a1 g8 g1 g2 => ?_))
          simp (disch := first | omega | assumption) only [↓wstep, ↓wq_s, ↓wq_0, stp, ↓WR0, ↓WR1, ↓WR2, ↓WR3, ↓WR4, ↓WR5, ↓WR6, ↓WR7, ↓WR8, ↓WR9, ↓WR10, ↓WR11, ↓WR12, WI0, WI1, WI2, WI3, fv_0, fv_1, fv_2, fv_3, lkI_0, lkI_1, kip, kin, tgp, tkp, tgn, tkn, bip, bin, sip, lget, lset1, lset2, lcat2, ↓ws_get, ↓ws_put, ws_cell, ws_cell1, ws_hcell, ws_hcell3, ws_hcell1, ↓cellOf, ↓ws_call, ↓ws_callS, ↓ws_oi, ↓ws_ac, ↓ws_mm, ↓ws_post, ↓ws_exc, popN, rok, clsAt, cnOf, catS_nil, catS_i, catS_r, catS_n, catS_l, catS_d, catS_f, nokc, Option.toList_none, Option.toList_some, List.cons_append, List.nil_append, List.length_cons, List.length_nil, List.set_cons_zero, List.set_cons_succ, List.getElem?_cons_zero, List.getElem?_cons_succ, Nat.reduceAdd, Nat.reduceSub, Nat.reduceMul, Nat.reduceEqDiff, Nat.reduceLeDiff, Nat.reduceLT, Nat.reduceDiv, Bool.false_eq_true, ↓reduceIte, true_and, and_true, false_and, and_false, reduceCtorEq, if_true, Nat.zero_add, cl, lt_nI, le_nI, eq_nI, in_nI, z_nI, retok, or_true, true_or, false_or, or_false, Nat.one_ne_zero, ne_eq, not_false_eq_true, not_true_eq_false, forall_const, Option.isSome_some, false_implies, implies_true, hput_1, hnew_1, vcat1, Nat.le_refl, Nat.not_lt_zero, Nat.lt_irrefl, hput_eq, hput_ne, hput_put, DX8_run, DX8_run_0, DX8_run_1, TX8_run, FT_8, MT_8, SC_8, DX8_readCommand, DX8_behind, DX8_fails, DX8_keep, DX8_does, DX8_ends, OI_a, AC_a, NT_a]
          refine ih r (by omega) (i + 1) _ _ _ f1 h1 (by omega) (by omega) (by omega) ((hz.d Fdm.p0 hM).d d1 hM) a1 g8 (fun j hj => (hc' j hj).cg (fun x h1 h2 => g1 x (by omega))) g2 (fun h' f' s' k' e1 e2 e3 e4 e5 e6 => hq h' f' s' k' ((Fdm.p0.tr d1).tr e1) e2 e3 e4 e5 e6)
