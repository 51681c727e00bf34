/-! ===== the model: undo, save, restore, type ===== -/
set_option maxRecDepth 20000 in
set_option maxHeartbeats 4000000 in
theorem c_m_undo {G : GT} {M n d : Nat} {th : Int32} {tx : Nat → Int32} {x : XS} {h : Hp} {Q : RT → Hp → Prop} (hd : 2 ≤ d) (hc : x.2.2.1.2.1 ≤ 8) (hH : ∀ i, i < 9 → tot (x.2.2.1.2.2 i) ≤ 24) (m : AtM h M th n tx x) (hq0 : x.2.2.1.2.1 = 0 → ∀ h' v, Fm h h' M (M + 9) → AtM h' M (nI 1) n tx x → Q (.inl (some (.int v))) h') (hq1 : ∀ c, x.2.2.1.2.1 = c + 1 → ∀ h', Fm h h' M (M + 9) → AtM h' M (nI 0) n tx (x.2.2.1.2.2 ((x.2.2.1.1 + c) % 9), x.2.1, (x.2.2.1.1, c, x.2.2.1.2.2), x.2.2.2) → Q (.inl (some (.int (nI c)))) h') : Ct G mX8_undo d 0 0 [.ref M] h Q := by
  obtain ⟨o, s, b, sv, as, pa, li, inp, cm, ⟨r0, r1, r2, r3, r4, r5, r6, r7, r8⟩, rm, -, h2, h3⟩ := m
  have rm' := rm
  obtain ⟨m1, m2, m3, m4, m5, m6, m7, m8, m9⟩ := rm
  have b0 := r0
  unfold mO at b0
  cases e : x.2.2.1.2.1 with
  | zero =>
    rw [e] at m4
    refine Ct.of rfl rfl (Nat.le_of_ble_eq_true rfl) ?_
    show V G mX8_undo _ _ _ 0 [some (.ref M)] [] h Q
    refine V_walk [] 60 ?_
    simp (disch := first | omega | assumption) only [↓wstep, ↓wq_s, ↓wq_0, stp, ↓WR0, ↓WR1, ↓WR2, ↓WR3, ↓WR4, ↓WR5, ↓WR6, ↓WR7, ↓WR8, ↓WR9, ↓WR10, ↓WR11, ↓WR12, WI0, WI1, WI2, WI3, fv_0, fv_1, fv_2, fv_3, lkI_0, lkI_1, kip, kin, tgp, tkp, tgn, tkn, bip, bin, sip, lget, lset1, lset2, lcat2, ↓ws_get, ↓ws_put, ws_cell, ws_cell1, ws_hcell, ws_hcell3, ws_hcell1, ↓cellOf, ↓ws_call, ↓ws_callS, ↓ws_oi, ↓ws_ac, ↓ws_mm, ↓ws_post, ↓ws_exc, popN, rok, clsAt, cnOf, catS_nil, catS_i, catS_r, catS_n, catS_l, catS_d, catS_f, nokc, Option.toList_none, Option.toList_some, List.cons_append, List.nil_append, List.length_cons, List.length_nil, List.set_cons_zero, List.set_cons_succ, List.getElem?_cons_zero, List.getElem?_cons_succ, Nat.reduceAdd, Nat.reduceSub, Nat.reduceMul, Nat.reduceEqDiff, Nat.reduceLeDiff, Nat.reduceLT, Nat.reduceDiv, Bool.false_eq_true, ↓reduceIte, true_and, and_true, false_and, and_false, reduceCtorEq, if_true, Nat.zero_add, cl, lt_nI, le_nI, eq_nI, in_nI, z_nI, retok, or_true, true_or, false_or, or_false, Nat.one_ne_zero, ne_eq, not_false_eq_true, not_true_eq_false, forall_const, Option.isSome_some, false_implies, implies_true, hput_1, hnew_1, vcat1, Nat.le_refl, Nat.not_lt_zero, Nat.lt_irrefl, hput_eq, hput_ne, hput_put, DX8_undo, DX8_undo_0, TX8_undo, FT_8, MT_8, SC_8, OI_a, AC_a, NT_a, b0, m4]
    have q := hq0 e (hput h M (mO M (sTh o (nI 1)))) (nI 0) (Fm.put9 (by omega) (by omega)) (show AtQ h M n tx x o s from ⟨b, sv, as, pa, li, inp, cm, ⟨r0, r1, r2, r3, r4, r5, r6, r7, r8⟩, rm', h2, h3⟩).put
    simp only [mO, sTh, m4] at q
    exact q
  | succ c =>
    rw [e] at m4
    have e1 : nI (c + 1) - nI 1 = nI c := sub_nI (by omega)
    have e2 : nI 303 * nI c = nI (303 * c) := pk_mul 303 c
    have e3 : (c + 1 = 0) = False := eq_false (by omega)
    refine Ct.of rfl rfl (Nat.le_of_ble_eq_true rfl) ?_
    show V G mX8_undo _ _ _ 0 [some (.ref M)] [] h Q
    refine V_walk [] 60 ?_
    simp (disch := first | omega | assumption) only [↓wstep, ↓wq_s, ↓wq_0, stp, ↓WR0, ↓WR1, ↓WR2, ↓WR3, ↓WR4, ↓WR5, ↓WR6, ↓WR7, ↓WR8, ↓WR9, ↓WR10, ↓WR11, ↓WR12, WI0, WI1, WI2, WI3, fv_0, fv_1, fv_2, fv_3, lkI_0, lkI_1, kip, kin, tgp, tkp, tgn, tkn, bip, bin, sip, lget, lset1, lset2, lcat2, ↓ws_get, ↓ws_put, ws_cell, ws_cell1, ws_hcell, ws_hcell3, ws_hcell1, ↓cellOf, ↓ws_call, ↓ws_callS, ↓ws_oi, ↓ws_ac, ↓ws_mm, ↓ws_post, ↓ws_exc, popN, rok, clsAt, cnOf, catS_nil, catS_i, catS_r, catS_n, catS_l, catS_d, catS_f, nokc, Option.toList_none, Option.toList_some, List.cons_append, List.nil_append, List.length_cons, List.length_nil, List.set_cons_zero, List.set_cons_succ, List.getElem?_cons_zero, List.getElem?_cons_succ, Nat.reduceAdd, Nat.reduceSub, Nat.reduceMul, Nat.reduceEqDiff, Nat.reduceLeDiff, Nat.reduceLT, Nat.reduceDiv, Bool.false_eq_true, ↓reduceIte, true_and, and_true, false_and, and_false, reduceCtorEq, if_true, Nat.zero_add, cl, lt_nI, le_nI, eq_nI, in_nI, z_nI, retok, or_true, true_or, false_or, or_false, Nat.one_ne_zero, ne_eq, not_false_eq_true, not_true_eq_false, forall_const, Option.isSome_some, false_implies, implies_true, hput_1, hnew_1, vcat1, Nat.le_refl, Nat.not_lt_zero, Nat.lt_irrefl, hput_eq, hput_ne, hput_put, DX8_undo, DX8_undo_0, TX8_undo, FT_8, MT_8, SC_8, OI_a, AC_a, NT_a, b0, m4, e1, e2, e3, r1, r5, cpfit]
    refine ⟨by omega, by omega, ?_⟩
    have ag := (m5 c (by omega)).cg (hH _ (Nat.mod_lt _ (by omega))) (f' := va_cpy pa s (303 * c) 0 303) (fun k hk => by rw [pk_cpy_in (by omega) (by omega)]; congr 1)
    have key : ∀ h' : Hp, h'.1 = h.1 → (∀ q, q ≠ M → q ≠ M + 1 → h'.2 q = h.2 q) → h'.2 M = some (mO M (o.1, nI c, nI 0, o.2.2.2)) → h'.2 (M + 1) = some (.inl (0, 303, .inl (va_cpy pa s (303 * c) 0 303))) → Q (.inl (some (.int (nI c)))) h' := fun h' k1 k2 k3 k4 => by
      refine hq1 c e h' ⟨k1, fun q hq => k2 q (by omega) (by omega)⟩ ⟨_, _, b, sv, as, pa, li, inp, cm, ⟨k3, k4, ?_, ?_, ?_, ?_, ?_, ?_, ?_⟩, ⟨ag, m2, m3, rfl, fun k hk => m5 k (by have : k < c := hk; omega), m6, m7, m8, m9⟩, rfl, h2, h3⟩
      · exact (k2 _ (by omega) (by omega)).trans r2
      · exact (k2 _ (by omega) (by omega)).trans r3
      · exact (k2 _ (by omega) (by omega)).trans r4
      · exact (k2 _ (by omega) (by omega)).trans r5
      · exact (k2 _ (by omega) (by omega)).trans r6
      · exact (k2 _ (by omega) (by omega)).trans r7
      · exact (k2 _ (by omega) (by omega)).trans r8
    first
    | exact key _ rfl (fun q h1 h4 => (hput_ne h4).trans (hput_ne h1)) ((hput_ne (by omega)).trans (hput_eq _ _ _)) (hput_eq _ _ _)
    | exact key _ rfl (fun q h1 h4 => (hput_ne h4).trans ((hput_ne h1).trans (hput_ne h1))) ((hput_ne (by omega)).trans (hput_eq _ _ _)) (hput_eq _ _ _)
set_option maxRecDepth 20000 in
set_option maxHeartbeats 4000000 in
theorem c_m_save {G : GT} {M n d : Nat} {th : Int32} {tx : Nat → Int32} {x : XS} {h : Hp} {Q : RT → Hp → Prop} (hd : 3 ≤ d) (ht : tot x.1 ≤ 24) (m : AtM h M th n tx x) (hq : ∀ h', Fm h h' M (M + 9) → AtM h' M (nI 0) n tx (x.1, x.1, x.2.2.1, x.2.2.2.1, x.2.2.2.2.1, true, x.2.2.2.2.2.2) → Q (.inl (some (.int (nI (tot x.1))))) h') : Ct G mX8_save d 0 0 [.ref M] h Q := by
  obtain ⟨o, s, b, sv, as, pa, li, inp, cm, ⟨r0, r1, r2, r3, r4, r5, r6, r7, r8⟩, rm, -, h2, h3⟩ := m
  obtain ⟨m1, m2, m3, m4, m5, m6, m7, m8, m9⟩ := rm
  have b0 := r0
  unfold mO at b0
  have ag := m1.cg ht (f' := va_cpy s sv 0 0 303) (fun k hk => by rw [pk_cpy_in (by omega) (by omega)]; congr 1; omega)
  have key : ∀ h' : Hp, h'.1 = h.1 → (∀ q, q ≠ M → q ≠ M + 3 → h'.2 q = h.2 q) → h'.2 M = some (mO M (nI 1, o.2.1, nI 0, o.2.2.2)) → h'.2 (M + 3) = some (.inl (0, 303, .inl (va_cpy s sv 0 0 303))) → Q (.inl (some (.int (nI (tot x.1))))) h' := fun h' k1 k2 k3 k4 => by
    refine hq h' ⟨k1, fun q hq => k2 q (by omega) (by omega)⟩ ⟨_, s, b, _, as, pa, li, inp, cm, ⟨k3, ?_, ?_, k4, ?_, ?_, ?_, ?_, ?_⟩, ⟨m1, rfl, fun _ => ag, m4, m5, m6, m7, m8, m9⟩, rfl, h2, h3⟩
    · exact (k2 _ (by omega) (by omega)).trans r1
    · exact (k2 _ (by omega) (by omega)).trans r2
    · exact (k2 _ (by omega) (by omega)).trans r4
    · exact (k2 _ (by omega) (by omega)).trans r5
    · exact (k2 _ (by omega) (by omega)).trans r6
    · exact (k2 _ (by omega) (by omega)).trans r7
    · exact (k2 _ (by omega) (by omega)).trans r8
  refine Ct.of rfl rfl (Nat.le_of_ble_eq_true rfl) ?_
  show V G mX8_save _ _ _ 0 [some (.ref M)] [] h Q
  refine V_walk [] 60 ?_
  simp (disch := first | omega | assumption) only [↓wstep, ↓wq_s, ↓wq_0, stp, ↓WR0, ↓WR1, ↓WR2, ↓WR3, ↓WR4, ↓WR5, ↓WR6, ↓WR7, ↓WR8, ↓WR9, ↓WR10, ↓WR11, ↓WR12, WI0, WI1, WI2, WI3, fv_0, fv_1, fv_2, fv_3, lkI_0, lkI_1, kip, kin, tgp, tkp, tgn, tkn, bip, bin, sip, lget, lset1, lset2, lcat2, ↓ws_get, ↓ws_put, ws_cell, ws_cell1, ws_hcell, ws_hcell3, ws_hcell1, ↓cellOf, ↓ws_call, ↓ws_callS, ↓ws_oi, ↓ws_ac, ↓ws_mm, ↓ws_post, ↓ws_exc, popN, rok, clsAt, cnOf, catS_nil, catS_i, catS_r, catS_n, catS_l, catS_d, catS_f, nokc, Option.toList_none, Option.toList_some, List.cons_append, List.nil_append, List.length_cons, List.length_nil, List.set_cons_zero, List.set_cons_succ, List.getElem?_cons_zero, List.getElem?_cons_succ, Nat.reduceAdd, Nat.reduceSub, Nat.reduceMul, Nat.reduceEqDiff, Nat.reduceLeDiff, Nat.reduceLT, Nat.reduceDiv, Bool.false_eq_true, ↓reduceIte, true_and, and_true, false_and, and_false, reduceCtorEq, if_true, Nat.zero_add, cl, lt_nI, le_nI, eq_nI, in_nI, z_nI, retok, or_true, true_or, false_or, or_false, Nat.one_ne_zero, ne_eq, not_false_eq_true, not_true_eq_false, forall_const, Option.isSome_some, false_implies, implies_true, hput_1, hnew_1, vcat1, Nat.le_refl, Nat.not_lt_zero, Nat.lt_irrefl, hput_eq, hput_ne, hput_put, DX8_save, DX8_save_0, TX8_save, FT_8, MT_8, SC_8, DX8_all, OI_a, AC_a, NT_a, b0, r1, r3, cpfit]
  refine Or.inl ⟨by omega, ?_⟩
  refine CtE.of0 (by omega) (c_all (o := (nI 1, o.2.1, nI 0, o.2.2.2)) (by omega) (hput_eq _ _ _) ((hput_ne (by omega)).trans ((hput_ne (by omega)).trans ((hput_ne (by omega)).trans r1))) m1.2.2.2.2.1 ?_)
  simp (disch := first | omega | assumption) only [↓wstep, ↓wq_s, ↓wq_0, stp, ↓WR0, ↓WR1, ↓WR2, ↓WR3, ↓WR4, ↓WR5, ↓WR6, ↓WR7, ↓WR8, ↓WR9, ↓WR10, ↓WR11, ↓WR12, WI0, WI1, WI2, WI3, fv_0, fv_1, fv_2, fv_3, lkI_0, lkI_1, kip, kin, tgp, tkp, tgn, tkn, bip, bin, sip, lget, lset1, lset2, lcat2, ↓ws_get, ↓ws_put, ws_cell, ws_cell1, ws_hcell, ws_hcell3, ws_hcell1, ↓cellOf, ↓ws_call, ↓ws_callS, ↓ws_oi, ↓ws_ac, ↓ws_mm, ↓ws_post, ↓ws_exc, popN, rok, clsAt, cnOf, catS_nil, catS_i, catS_r, catS_n, catS_l, catS_d, catS_f, nokc, Option.toList_none, Option.toList_some, List.cons_append, List.nil_append, List.length_cons, List.length_nil, List.set_cons_zero, List.set_cons_succ, List.getElem?_cons_zero, List.getElem?_cons_succ, Nat.reduceAdd, Nat.reduceSub, Nat.reduceMul, Nat.reduceEqDiff, Nat.reduceLeDiff, Nat.reduceLT, Nat.reduceDiv, Bool.false_eq_true, ↓reduceIte, true_and, and_true, false_and, and_false, reduceCtorEq, if_true, Nat.zero_add, cl, lt_nI, le_nI, eq_nI, in_nI, z_nI, retok, or_true, true_or, false_or, or_false, Nat.one_ne_zero, ne_eq, not_false_eq_true, not_true_eq_false, forall_const, Option.isSome_some, false_implies, implies_true, hput_1, hnew_1, vcat1, Nat.le_refl, Nat.not_lt_zero, Nat.lt_irrefl, hput_eq, hput_ne, hput_put, DX8_save, DX8_save_0, TX8_save, FT_8, MT_8, SC_8, DX8_all, OI_a, AC_a, NT_a]
  exact key _ rfl (fun q h1 h4 => (hput_ne h1).trans ((hput_ne h4).trans (hput_ne h1))) (hput_eq _ _ _) ((hput_ne (by omega)).trans (hput_eq _ _ _))
set_option maxRecDepth 20000 in
set_option maxHeartbeats 4000000 in
theorem c_m_restore {G : GT} {M n d : Nat} {th : Int32} {tx : Nat → Int32} {x : XS} {h : Hp} {Q : RT → Hp → Prop} (hd : 3 ≤ d) (ht : tot x.2.1 ≤ 24) (m : AtM h M th n tx x) (hq0 : x.2.2.2.2.2.1 = false → ∀ h' v, Fm h h' M (M + 9) → AtM h' M (nI 1) n tx x → Q (.inl (some (.int v))) h') (hq1 : x.2.2.2.2.2.1 = true → ∀ h', Fm h h' M (M + 9) → AtM h' M (nI 0) n tx (x.2.1, x.2.1, (x.2.2.1.1, 0, x.2.2.1.2.2), x.2.2.2) → Q (.inl (some (.int (nI (tot x.2.1))))) h') : Ct G mX8_restore d 0 0 [.ref M] h Q := by
  obtain ⟨o, s, b, sv, as, pa, li, inp, cm, ⟨r0, r1, r2, r3, r4, r5, r6, r7, r8⟩, rm, -, h2, h3⟩ := m
  have rm' := rm
  obtain ⟨m1, m2, m3, m4, m5, m6, m7, m8, m9⟩ := rm
  have b0 := r0
  unfold mO at b0
  cases e : x.2.2.2.2.2.1 with
  | false =>
    rw [e] at m2
    have m2' : o.1 = nI 0 := m2
    refine Ct.of rfl rfl (Nat.le_of_ble_eq_true rfl) ?_
    show V G mX8_restore _ _ _ 0 [some (.ref M)] [] h Q
    refine V_walk [] 60 ?_
    simp (disch := first | omega | assumption) only [↓wstep, ↓wq_s, ↓wq_0, stp, ↓WR0, ↓WR1, ↓WR2, ↓WR3, ↓WR4, ↓WR5, ↓WR6, ↓WR7, ↓WR8, ↓WR9, ↓WR10, ↓WR11, ↓WR12, WI0, WI1, WI2, WI3, fv_0, fv_1, fv_2, fv_3, lkI_0, lkI_1, kip, kin, tgp, tkp, tgn, tkn, bip, bin, sip, lget, lset1, lset2, lcat2, ↓ws_get, ↓ws_put, ws_cell, ws_cell1, ws_hcell, ws_hcell3, ws_hcell1, ↓cellOf, ↓ws_call, ↓ws_callS, ↓ws_oi, ↓ws_ac, ↓ws_mm, ↓ws_post, ↓ws_exc, popN, rok, clsAt, cnOf, catS_nil, catS_i, catS_r, catS_n, catS_l, catS_d, catS_f, nokc, Option.toList_none, Option.toList_some, List.cons_append, List.nil_append, List.length_cons, List.length_nil, List.set_cons_zero, List.set_cons_succ, List.getElem?_cons_zero, List.getElem?_cons_succ, Nat.reduceAdd, Nat.reduceSub, Nat.reduceMul, Nat.reduceEqDiff, Nat.reduceLeDiff, Nat.reduceLT, Nat.reduceDiv, Bool.false_eq_true, ↓reduceIte, true_and, and_true, false_and, and_false, reduceCtorEq, if_true, Nat.zero_add, cl, lt_nI, le_nI, eq_nI, in_nI, z_nI, retok, or_true, true_or, false_or, or_false, Nat.one_ne_zero, ne_eq, not_false_eq_true, not_true_eq_false, forall_const, Option.isSome_some, false_implies, implies_true, hput_1, hnew_1, vcat1, Nat.le_refl, Nat.not_lt_zero, Nat.lt_irrefl, hput_eq, hput_ne, hput_put, DX8_restore, DX8_restore_0, TX8_restore, FT_8, MT_8, SC_8, DX8_all, OI_a, AC_a, NT_a, b0, m2']
    have q := hq0 e (hput h M (mO M (sTh o (nI 1)))) (nI 0) (Fm.put9 (by omega) (by omega)) (show AtQ h M n tx x o s from ⟨b, sv, as, pa, li, inp, cm, ⟨r0, r1, r2, r3, r4, r5, r6, r7, r8⟩, rm', h2, h3⟩).put
    simp only [mO, sTh, m2'] at q
    exact q
  | true =>
    rw [e] at m2
    have m2' : o.1 = nI 1 := m2
    have ag := (m3 e).cg ht (f' := va_cpy sv s 0 0 303) (fun k hk => by rw [pk_cpy_in (by omega) (by omega)]; congr 1; omega)
    have key : ∀ h' : Hp, h'.1 = h.1 → (∀ q, q ≠ M → q ≠ M + 1 → h'.2 q = h.2 q) → h'.2 M = some (mO M (nI 1, nI 0, nI 0, o.2.2.2)) → h'.2 (M + 1) = some (.inl (0, 303, .inl (va_cpy sv s 0 0 303))) → Q (.inl (some (.int (nI (tot x.2.1))))) h' := fun h' k1 k2 k3 k4 => by
      refine hq1 e h' ⟨k1, fun q hq => k2 q (by omega) (by omega)⟩ ⟨_, _, b, sv, as, pa, li, inp, cm, ⟨k3, k4, ?_, ?_, ?_, ?_, ?_, ?_, ?_⟩, ⟨ag, by rw [e]; rfl, fun _ => m3 e, rfl, fun k hk => absurd hk (Nat.not_lt_zero _), m6, m7, m8, m9⟩, rfl, h2, h3⟩
      · exact (k2 _ (by omega) (by omega)).trans r2
      · exact (k2 _ (by omega) (by omega)).trans r3
      · exact (k2 _ (by omega) (by omega)).trans r4
      · exact (k2 _ (by omega) (by omega)).trans r5
      · exact (k2 _ (by omega) (by omega)).trans r6
      · exact (k2 _ (by omega) (by omega)).trans r7
      · exact (k2 _ (by omega) (by omega)).trans r8
    refine Ct.of rfl rfl (Nat.le_of_ble_eq_true rfl) ?_
    show V G mX8_restore _ _ _ 0 [some (.ref M)] [] h Q
    refine V_walk [] 60 ?_
    simp (disch := first | omega | assumption) only [↓wstep, ↓wq_s, ↓wq_0, stp, ↓WR0, ↓WR1, ↓WR2, ↓WR3, ↓WR4, ↓WR5, ↓WR6, ↓WR7, ↓WR8, ↓WR9, ↓WR10, ↓WR11, ↓WR12, WI0, WI1, WI2, WI3, fv_0, fv_1, fv_2, fv_3, lkI_0, lkI_1, kip, kin, tgp, tkp, tgn, tkn, bip, bin, sip, lget, lset1, lset2, lcat2, ↓ws_get, ↓ws_put, ws_cell, ws_cell1, ws_hcell, ws_hcell3, ws_hcell1, ↓cellOf, ↓ws_call, ↓ws_callS, ↓ws_oi, ↓ws_ac, ↓ws_mm, ↓ws_post, ↓ws_exc, popN, rok, clsAt, cnOf, catS_nil, catS_i, catS_r, catS_n, catS_l, catS_d, catS_f, nokc, Option.toList_none, Option.toList_some, List.cons_append, List.nil_append, List.length_cons, List.length_nil, List.set_cons_zero, List.set_cons_succ, List.getElem?_cons_zero, List.getElem?_cons_succ, Nat.reduceAdd, Nat.reduceSub, Nat.reduceMul, Nat.reduceEqDiff, Nat.reduceLeDiff, Nat.reduceLT, Nat.reduceDiv, Bool.false_eq_true, ↓reduceIte, true_and, and_true, false_and, and_false, reduceCtorEq, if_true, Nat.zero_add, cl, lt_nI, le_nI, eq_nI, in_nI, z_nI, retok, or_true, true_or, false_or, or_false, Nat.one_ne_zero, ne_eq, not_false_eq_true, not_true_eq_false, forall_const, Option.isSome_some, false_implies, implies_true, hput_1, hnew_1, vcat1, Nat.le_refl, Nat.not_lt_zero, Nat.lt_irrefl, hput_eq, hput_ne, hput_put, DX8_restore, DX8_restore_0, TX8_restore, FT_8, MT_8, SC_8, DX8_all, OI_a, AC_a, NT_a, b0, m2', r1, r3, cpfit]
    refine Or.inl ⟨by omega, ?_⟩
    refine CtE.of0 (by omega) (c_all (o := (nI 1, nI 0, nI 0, o.2.2.2)) (by omega) (hput_eq _ _ _) ((hput_ne (by omega)).trans (hput_eq _ _ _)) ag.2.2.2.2.1 ?_)
    simp (disch := first | omega | assumption) only [↓wstep, ↓wq_s, ↓wq_0, stp, ↓WR0, ↓WR1, ↓WR2, ↓WR3, ↓WR4, ↓WR5, ↓WR6, ↓WR7, ↓WR8, ↓WR9, ↓WR10, ↓WR11, ↓WR12, WI0, WI1, WI2, WI3, fv_0, fv_1, fv_2, fv_3, lkI_0, lkI_1, kip, kin, tgp, tkp, tgn, tkn, bip, bin, sip, lget, lset1, lset2, lcat2, ↓ws_get, ↓ws_put, ws_cell, ws_cell1, ws_hcell, ws_hcell3, ws_hcell1, ↓cellOf, ↓ws_call, ↓ws_callS, ↓ws_oi, ↓ws_ac, ↓ws_mm, ↓ws_post, ↓ws_exc, popN, rok, clsAt, cnOf, catS_nil, catS_i, catS_r, catS_n, catS_l, catS_d, catS_f, nokc, Option.toList_none, Option.toList_some, List.cons_append, List.nil_append, List.length_cons, List.length_nil, List.set_cons_zero, List.set_cons_succ, List.getElem?_cons_zero, List.getElem?_cons_succ, Nat.reduceAdd, Nat.reduceSub, Nat.reduceMul, Nat.reduceEqDiff, Nat.reduceLeDiff, Nat.reduceLT, Nat.reduceDiv, Bool.false_eq_true, ↓reduceIte, true_and, and_true, false_and, and_false, reduceCtorEq, if_true, Nat.zero_add, cl, lt_nI, le_nI, eq_nI, in_nI, z_nI, retok, or_true, true_or, false_or, or_false, Nat.one_ne_zero, ne_eq, not_false_eq_true, not_true_eq_false, forall_const, Option.isSome_some, false_implies, implies_true, hput_1, hnew_1, vcat1, Nat.le_refl, Nat.not_lt_zero, Nat.lt_irrefl, hput_eq, hput_ne, hput_put, DX8_restore, DX8_restore_0, TX8_restore, FT_8, MT_8, SC_8, DX8_all, OI_a, AC_a, NT_a]
    exact key _ rfl (fun q h1 h4 => (hput_ne h1).trans ((hput_ne h4).trans (hput_ne h1))) (hput_eq _ _ _) ((hput_ne (by omega)).trans (hput_eq _ _ _))
set_option maxRecDepth 20000 in
set_option maxHeartbeats 4000000 in
theorem c_m_type {G : GT} {M n d : Nat} {th : Int32} {c : Fin 65536} {tx : Nat → Int32} {x : XS} {h : Hp} {Q : RT → Hp → Prop} (hl : x.2.2.2.1.2.1 ≤ 60) (m : AtM h M th n tx x) (hq0 : x.2.2.2.1.2.1 = 60 → ∀ h' v, Fm h h' M (M + 9) → AtM h' M (nI 1) n tx x → Q (.inl (some (.int v))) h') (hq1 : x.2.2.2.1.2.1 < 60 → ∀ h', Fm h h' M (M + 9) → AtM h' M (nI 0) n tx (x.1, x.2.1, x.2.2.1, (fu x.2.2.2.1.1 x.2.2.2.1.2.1 c, x.2.2.2.1.2.1 + 1, x.2.2.2.1.2.2), x.2.2.2.2) → Q (.inl (some (.int (nI (x.2.2.2.1.2.1 + 1))))) h') : Ct G mX8_type d 0 0 [.ref M, .int (nI c.val)] h Q := by
  obtain ⟨o, s, b, sv, as, pa, li, inp, cm, ⟨r0, r1, r2, r3, r4, r5, r6, r7, r8⟩, rm, -, h2, h3⟩ := m
  have rm' := rm
  obtain ⟨m1, m2, m3, m4, m5, m6, m7, m8, m9⟩ := rm
  have b0 := r0
  unfold mO at b0
  by_cases e : x.2.2.2.1.2.1 = 60
  · rw [e] at m6
    refine Ct.of rfl rfl (Nat.le_of_ble_eq_true rfl) ?_
    show V G mX8_type _ _ _ 0 [some (.ref M), some (.int (nI c.val))] [] h Q
    refine V_walk [] 60 ?_
    simp (disch := first | omega | assumption) only [↓wstep, ↓wq_s, ↓wq_0, stp, ↓WR0, ↓WR1, ↓WR2, ↓WR3, ↓WR4, ↓WR5, ↓WR6, ↓WR7, ↓WR8, ↓WR9, ↓WR10, ↓WR11, ↓WR12, WI0, WI1, WI2, WI3, fv_0, fv_1, fv_2, fv_3, lkI_0, lkI_1, kip, kin, tgp, tkp, tgn, tkn, bip, bin, sip, lget, lset1, lset2, lcat2, ↓ws_get, ↓ws_put, ws_cell, ws_cell1, ws_hcell, ws_hcell3, ws_hcell1, ↓cellOf, ↓ws_call, ↓ws_callS, ↓ws_oi, ↓ws_ac, ↓ws_mm, ↓ws_post, ↓ws_exc, popN, rok, clsAt, cnOf, catS_nil, catS_i, catS_r, catS_n, catS_l, catS_d, catS_f, nokc, Option.toList_none, Option.toList_some, List.cons_append, List.nil_append, List.length_cons, List.length_nil, List.set_cons_zero, List.set_cons_succ, List.getElem?_cons_zero, List.getElem?_cons_succ, Nat.reduceAdd, Nat.reduceSub, Nat.reduceMul, Nat.reduceEqDiff, Nat.reduceLeDiff, Nat.reduceLT, Nat.reduceDiv, Bool.false_eq_true, ↓reduceIte, true_and, and_true, false_and, and_false, reduceCtorEq, if_true, Nat.zero_add, cl, lt_nI, le_nI, eq_nI, in_nI, z_nI, retok, or_true, true_or, false_or, or_false, Nat.one_ne_zero, ne_eq, not_false_eq_true, not_true_eq_false, forall_const, Option.isSome_some, false_implies, implies_true, hput_1, hnew_1, vcat1, Nat.le_refl, Nat.not_lt_zero, Nat.lt_irrefl, hput_eq, hput_ne, hput_put, DX8_type, DX8_type_0, TX8_type, FT_8, MT_8, SC_8, OI_a, AC_a, NT_a, b0, m6]
    have q := hq0 e (hput h M (mO M (sTh o (nI 1)))) (nI 0) (Fm.put9 (by omega) (by omega)) (show AtQ h M n tx x o s from ⟨b, sv, as, pa, li, inp, cm, ⟨r0, r1, r2, r3, r4, r5, r6, r7, r8⟩, rm', h2, h3⟩).put
    simp only [mO, sTh, m6] at q
    exact q
  · have hlt : x.2.2.2.1.2.1 < 60 := by omega
    have key : ∀ h' : Hp, h'.1 = h.1 → (∀ q, q ≠ M → q ≠ M + 7 → h'.2 q = h.2 q) → h'.2 M = some (mO M (o.1, o.2.1, nI 0, o.2.2.2.1, nI (x.2.2.2.1.2.1 + 1), o.2.2.2.2.2)) → h'.2 (M + 7) = some (.inl (1, 60, .inl (upd (chs inp) x.2.2.2.1.2.1 (vp_nar .char (nI c.val))))) → Q (.inl (some (.int (nI (x.2.2.2.1.2.1 + 1))))) h' := fun h' k1 k2 k3 k4 => by
      have ei : upd (chs inp) x.2.2.2.1.2.1 (vp_nar .char (nI c.val)) = chs (fu inp x.2.2.2.1.2.1 c) := by
        funext k
        rw [nch]
        simp only [upd, chs, fu]; split <;> rfl
      rw [ei] at k4
      refine hq1 hlt h' ⟨k1, fun q hq => k2 q (by omega) (by omega)⟩ ⟨_, s, b, sv, as, pa, li, fu inp x.2.2.2.1.2.1 c, cm, ⟨k3, ?_, ?_, ?_, ?_, ?_, ?_, k4, ?_⟩, ⟨m1, m2, m3, m4, m5, rfl, fun k hk => ?_, m8, m9⟩, rfl, h2, h3⟩
      · exact (k2 _ (by omega) (by omega)).trans r1
      · exact (k2 _ (by omega) (by omega)).trans r2
      · exact (k2 _ (by omega) (by omega)).trans r3
      · exact (k2 _ (by omega) (by omega)).trans r4
      · exact (k2 _ (by omega) (by omega)).trans r5
      · exact (k2 _ (by omega) (by omega)).trans r6
      · exact (k2 _ (by omega) (by omega)).trans r8
      · show fu inp _ c k = fu x.2.2.2.1.1 _ c k
        by_cases q : k = x.2.2.2.1.2.1
        · rw [q, fu_eq, fu_eq]
        · rw [fu_ne q, fu_ne q]
          exact m7 k (by have : k < x.2.2.2.1.2.1 + 1 := hk; omega)
    refine Ct.of rfl rfl (Nat.le_of_ble_eq_true rfl) ?_
    show V G mX8_type _ _ _ 0 [some (.ref M), some (.int (nI c.val))] [] h Q
    refine V_walk [] 60 ?_
    simp (disch := first | omega | assumption) only [↓wstep, ↓wq_s, ↓wq_0, stp, ↓WR0, ↓WR1, ↓WR2, ↓WR3, ↓WR4, ↓WR5, ↓WR6, ↓WR7, ↓WR8, ↓WR9, ↓WR10, ↓WR11, ↓WR12, WI0, WI1, WI2, WI3, fv_0, fv_1, fv_2, fv_3, lkI_0, lkI_1, kip, kin, tgp, tkp, tgn, tkn, bip, bin, sip, lget, lset1, lset2, lcat2, ↓ws_get, ↓ws_put, ws_cell, ws_cell1, ws_hcell, ws_hcell3, ws_hcell1, ↓cellOf, ↓ws_call, ↓ws_callS, ↓ws_oi, ↓ws_ac, ↓ws_mm, ↓ws_post, ↓ws_exc, popN, rok, clsAt, cnOf, catS_nil, catS_i, catS_r, catS_n, catS_l, catS_d, catS_f, nokc, Option.toList_none, Option.toList_some, List.cons_append, List.nil_append, List.length_cons, List.length_nil, List.set_cons_zero, List.set_cons_succ, List.getElem?_cons_zero, List.getElem?_cons_succ, Nat.reduceAdd, Nat.reduceSub, Nat.reduceMul, Nat.reduceEqDiff, Nat.reduceLeDiff, Nat.reduceLT, Nat.reduceDiv, Bool.false_eq_true, ↓reduceIte, true_and, and_true, false_and, and_false, reduceCtorEq, if_true, Nat.zero_add, cl, lt_nI, le_nI, eq_nI, in_nI, z_nI, retok, or_true, true_or, false_or, or_false, Nat.one_ne_zero, ne_eq, not_false_eq_true, not_true_eq_false, forall_const, Option.isSome_some, false_implies, implies_true, hput_1, hnew_1, vcat1, Nat.le_refl, Nat.not_lt_zero, Nat.lt_irrefl, hput_eq, hput_ne, hput_put, DX8_type, DX8_type_0, TX8_type, FT_8, MT_8, SC_8, OI_a, AC_a, NT_a, b0, m6, e, r7, nI_add]
    exact key _ rfl (fun q h1 h4 => (hput_ne h1).trans ((hput_ne h4).trans (hput_ne h1))) (hput_eq _ _ _) ((hput_ne (by omega)).trans (hput_eq _ _ _))
