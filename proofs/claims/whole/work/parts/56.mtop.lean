/-! ===== the model: keep, ends; the ten changes ===== -/
def AtR (h : Hp) (M : Nat) (o : MO) (s b sv as pa li : Nat → Int32) (inp : Nat → Fin 65536) (cm : Nat → Int32) : Prop :=
  h.2 M = some (mO M o) ∧ h.2 (M + 1) = some (.inl (0, 303, .inl s)) ∧ h.2 (M + 2) = some (.inl (0, 303, .inl b)) ∧ h.2 (M + 3) = some (.inl (0, 303, .inl sv)) ∧ h.2 (M + 4) = some (.inl (0, 72, .inl as)) ∧ h.2 (M + 5) = some (.inl (0, 2424, .inl pa)) ∧ h.2 (M + 6) = some (.inl (1, 260, .inl li)) ∧ h.2 (M + 7) = some (.inl (1, 60, .inl (chs inp))) ∧ h.2 (M + 8) = some (.inl (0, 240, .inl cm))
/-- the states that can come back -/
def Pst (pa : Nat → Int32) (H : HX) : Prop := ∀ k, k < H.2.1 → Ag (fun q => pa (303 * k + q)) (H.2.2 ((H.1 + k) % 9))
/-- the model's fields tell what the class's tell -/
def RM (o : MO) (s sv pa : Nat → Int32) (inp : Nat → Fin 65536) (x : XS) : Prop :=
  Ag s x.1 ∧ o.1 = bI1 x.2.2.2.2.2.1 ∧ (x.2.2.2.2.2.1 = true → Ag sv x.2.1) ∧ o.2.1 = nI x.2.2.1.2.1 ∧ Pst pa x.2.2.1 ∧ o.2.2.2.2.1 = nI x.2.2.2.1.2.1 ∧ (∀ k, k < x.2.2.2.1.2.1 → inp k = x.2.2.2.1.1 k) ∧ o.2.2.2.2.2.2.2.1 = x.2.2.2.2.2.2.1 ∧ o.2.2.2.2.2.2.2.2.1 = x.2.2.2.2.2.2.2
/-- the model at M: what was thrown, the line, the state of all -/
def AtM (h : Hp) (M : Nat) (th : Int32) (n : Nat) (tx : Nat → Int32) (x : XS) : Prop := ∃ o s b sv as pa li inp cm, AtR h M o s b sv as pa li inp cm ∧ RM o s sv pa inp x ∧ o.2.2.1 = th ∧ o.2.2.2.1 = nI n ∧ ∀ k, k < n → li k = tx k
/-- a change is under way: its start is kept -/
def Mid (h : Hp) (M : Nat) (n : Nat) (tx : Nat → Int32) (x : XS) (o : MO) (s b : Nat → Int32) : Prop := ∃ sv as pa li inp cm, AtR h M o s b sv as pa li inp cm ∧ RM o s sv pa inp x ∧ o.2.2.1 = nI 0 ∧ o.2.2.2.1 = nI n ∧ (∀ k, k < n → li k = tx k) ∧ Ag b x.1
theorem Fm.put9 {h : Hp} {M a : Nat} {e : va_E} (h1 : M ≤ a) (h2 : a < M + 9) : Fm h (hput h a e) M (M + 9) := Fm.put h1 h2
set_option maxRecDepth 20000 in
set_option maxHeartbeats 4000000 in
theorem c_keep {G : GT} {M d : Nat} {o : MO} {f b : Nat → Int32} {h : Hp} {Q : RT → Hp → Prop} (hd : 1 ≤ d) (a0 : h.2 M = some (mO M o)) (a1 : h.2 (M + 1) = some (.inl (0, 303, .inl f))) (a2 : h.2 (M + 2) = some (.inl (0, 303, .inl b))) (hq : ∀ b', (∀ k, k < 303 → b' k = f k) → Q (.inl none) (hput (hput h M (mO M (sTh o (nI 0)))) (M + 2) (.inl (0, 303, .inl b')))) : Ct G mX8_keep d 0 0 [.ref M] h Q := by
  unfold mO at a0
  refine Ct.of rfl rfl (Nat.le_of_ble_eq_true rfl) ?_
  show V G mX8_keep _ _ _ 0 [some (.ref M)] [] h Q
  refine V_walk [] 30 ?_
  simp (disch := first | omega | assumption) only [↓wstep, ↓wq_s, ↓wq_0, stp, ↓WR0, ↓WR1, ↓WR2, ↓WR3, ↓WR4, ↓WR5, ↓WR6, ↓WR7, ↓WR8, ↓WR9, ↓WR10, ↓WR11, ↓WR12, WI0, WI1, WI2, WI3, fv_0, fv_1, fv_2, fv_3, lkI_0, lkI_1, kip, kin, tgp, tkp, tgn, tkn, bip, bin, sip, lget, lset1, lset2, lcat2, ↓ws_get, ↓ws_put, ws_cell, ws_cell1, ws_hcell, ws_hcell3, ws_hcell1, ↓cellOf, ↓ws_call, ↓ws_callS, ↓ws_oi, ↓ws_ac, ↓ws_mm, ↓ws_post, ↓ws_exc, popN, rok, clsAt, cnOf, catS_nil, catS_i, catS_r, catS_n, catS_l, catS_d, catS_f, nokc, Option.toList_none, Option.toList_some, List.cons_append, List.nil_append, List.length_cons, List.length_nil, List.set_cons_zero, List.set_cons_succ, List.getElem?_cons_zero, List.getElem?_cons_succ, Nat.reduceAdd, Nat.reduceSub, Nat.reduceMul, Nat.reduceEqDiff, Nat.reduceLeDiff, Nat.reduceLT, Nat.reduceDiv, Bool.false_eq_true, ↓reduceIte, true_and, and_true, false_and, and_false, reduceCtorEq, if_true, Nat.zero_add, cl, lt_nI, le_nI, eq_nI, in_nI, z_nI, retok, or_true, true_or, false_or, or_false, Nat.one_ne_zero, ne_eq, not_false_eq_true, not_true_eq_false, forall_const, Option.isSome_some, false_implies, implies_true, hput_1, hnew_1, vcat1, Nat.le_refl, Nat.not_lt_zero, Nat.lt_irrefl, hput_eq, hput_ne, hput_put, DX8_keep, DX8_keep_0, TX8_keep, FT_8, MT_8, SC_8, OI_a, AC_a, NT_a, a0, a1, a2, cpfit]
  refine ⟨hd, hq _ (fun k hk => ?_)⟩
  rw [pk_cpy_in (by omega) (by omega)]; congr 1; omega
theorem c_keepM {G : GT} {M n d : Nat} {th : Int32} {tx : Nat → Int32} {x : XS} {h : Hp} {Q : RT → Hp → Prop} (hd : 1 ≤ d) (ht : tot x.1 ≤ 24) (m : AtM h M th n tx x) (hq : ∀ h' o s b, Fm h h' M (M + 9) → Mid h' M n tx x o s b → Q (.inl none) h') : Ct G mX8_keep d 0 0 [.ref M] h Q := by
  obtain ⟨o, s, b, sv, as, pa, li, inp, cm, ⟨r0, r1, r2, r3, r4, r5, r6, r7, r8⟩, rm, h1, h2, h3⟩ := m
  refine c_keep hd r0 r1 r2 (fun b' hb => hq _ (sTh o (nI 0)) s b' ((Fm.put9 (by omega) (by omega)).tr (Fm.put9 (by omega) (by omega))) ⟨sv, as, pa, li, inp, cm, ⟨?_, ?_, hput_eq _ _ _, ?_, ?_, ?_, ?_, ?_, ?_⟩, rm, rfl, h2, h3, rm.1.cg ht hb⟩)
  · rw [hput_ne (by omega), hput_eq]
  · rw [hput_ne (by omega), hput_ne (by omega)]; exact r1
  · rw [hput_ne (by omega), hput_ne (by omega)]; exact r3
  · rw [hput_ne (by omega), hput_ne (by omega)]; exact r4
  · rw [hput_ne (by omega), hput_ne (by omega)]; exact r5
  · rw [hput_ne (by omega), hput_ne (by omega)]; exact r6
  · rw [hput_ne (by omega), hput_ne (by omega)]; exact r7
  · rw [hput_ne (by omega), hput_ne (by omega)]; exact r8
set_option maxRecDepth 20000 in
set_option maxHeartbeats 4000000 in
theorem c_endsF {G : GT} {M t d : Nat} {o : MO} {f b : Nat → Int32} {v : Int32} {h : Hp} {Q : RT → Hp → Prop} (hd : 1 ≤ d) (ht : t < 9) (a0 : h.2 M = some (mO M (sTh o (nI (t + 1))))) (a1 : h.2 (M + 1) = some (.inl (0, 303, .inl f))) (a2 : h.2 (M + 2) = some (.inl (0, 303, .inl b))) (hq : ∀ f', (∀ k, k < 303 → f' k = b k) → Q (.inl (some (.int (nI 0)))) (hput h (M + 1) (.inl (0, 303, .inl f')))) : Ct G mX8_ends d 0 0 [.ref M, .int v] h Q := by
  unfold mO sTh at a0
  refine Ct.of rfl rfl (Nat.le_of_ble_eq_true rfl) ?_
  show V G mX8_ends _ _ _ 0 [some (.ref M), some (.int v)] [] h Q
  refine V_walk [7, 25] 6 ?_
  simp (disch := first | omega | assumption) only [↓wstep, ↓wq_s, ↓wq_0, stp, ↓WR0, ↓WR1, ↓WR2, ↓WR3, ↓WR4, ↓WR5, ↓WR6, ↓WR7, ↓WR8, ↓WR9, ↓WR10, ↓WR11, ↓WR12, WI0, WI1, WI2, WI3, fv_0, fv_1, fv_2, fv_3, lkI_0, lkI_1, kip, kin, tgp, tkp, tgn, tkn, bip, bin, sip, lget, lset1, lset2, lcat2, ↓ws_get, ↓ws_put, ws_cell, ws_cell1, ws_hcell, ws_hcell3, ws_hcell1, ↓cellOf, ↓ws_call, ↓ws_callS, ↓ws_oi, ↓ws_ac, ↓ws_mm, ↓ws_post, ↓ws_exc, popN, rok, clsAt, cnOf, catS_nil, catS_i, catS_r, catS_n, catS_l, catS_d, catS_f, nokc, Option.toList_none, Option.toList_some, List.cons_append, List.nil_append, List.length_cons, List.length_nil, List.set_cons_zero, List.set_cons_succ, List.getElem?_cons_zero, List.getElem?_cons_succ, Nat.reduceAdd, Nat.reduceSub, Nat.reduceMul, Nat.reduceEqDiff, Nat.reduceLeDiff, Nat.reduceLT, Nat.reduceDiv, Bool.false_eq_true, ↓reduceIte, true_and, and_true, false_and, and_false, reduceCtorEq, if_true, Nat.zero_add, cl, lt_nI, le_nI, eq_nI, in_nI, z_nI, retok, or_true, true_or, false_or, or_false, Nat.one_ne_zero, ne_eq, not_false_eq_true, not_true_eq_false, forall_const, Option.isSome_some, false_implies, implies_true, hput_1, hnew_1, vcat1, Nat.le_refl, Nat.not_lt_zero, Nat.lt_irrefl, hput_eq, hput_ne, hput_put, DX8_ends, DX8_ends_0, TX8_ends, FT_8, MT_8, SC_8, OI_a, AC_a, NT_a, a0]
  refine V_walk [] 30 ?_
  simp (disch := first | omega | assumption) only [↓wstep, ↓wq_s, ↓wq_0, stp, ↓WR0, ↓WR1, ↓WR2, ↓WR3, ↓WR4, ↓WR5, ↓WR6, ↓WR7, ↓WR8, ↓WR9, ↓WR10, ↓WR11, ↓WR12, WI0, WI1, WI2, WI3, fv_0, fv_1, fv_2, fv_3, lkI_0, lkI_1, kip, kin, tgp, tkp, tgn, tkn, bip, bin, sip, lget, lset1, lset2, lcat2, ↓ws_get, ↓ws_put, ws_cell, ws_cell1, ws_hcell, ws_hcell3, ws_hcell1, ↓cellOf, ↓ws_call, ↓ws_callS, ↓ws_oi, ↓ws_ac, ↓ws_mm, ↓ws_post, ↓ws_exc, popN, rok, clsAt, cnOf, catS_nil, catS_i, catS_r, catS_n, catS_l, catS_d, catS_f, nokc, Option.toList_none, Option.toList_some, List.cons_append, List.nil_append, List.length_cons, List.length_nil, List.set_cons_zero, List.set_cons_succ, List.getElem?_cons_zero, List.getElem?_cons_succ, Nat.reduceAdd, Nat.reduceSub, Nat.reduceMul, Nat.reduceEqDiff, Nat.reduceLeDiff, Nat.reduceLT, Nat.reduceDiv, Bool.false_eq_true, ↓reduceIte, true_and, and_true, false_and, and_false, reduceCtorEq, if_true, Nat.zero_add, cl, lt_nI, le_nI, eq_nI, in_nI, z_nI, retok, or_true, true_or, false_or, or_false, Nat.one_ne_zero, ne_eq, not_false_eq_true, not_true_eq_false, forall_const, Option.isSome_some, false_implies, implies_true, hput_1, hnew_1, vcat1, Nat.le_refl, Nat.not_lt_zero, Nat.lt_irrefl, hput_eq, hput_ne, hput_put, DX8_ends, DX8_ends_0, TX8_ends, FT_8, MT_8, SC_8, OI_a, AC_a, NT_a, a0, a1, a2, cpfit]
  refine ⟨hd, hq _ (fun k hk => ?_)⟩
  rw [pk_cpy_in (by omega) (by omega)]; congr 1; omega
set_option maxRecDepth 20000 in
set_option maxHeartbeats 4000000 in
theorem c_endsS {G : GT} {M c d : Nat} {o : MO} {b pa : Nat → Int32} {v : Int32} {h : Hp} {Q : RT → Hp → Prop} (hd : 1 ≤ d) (hc : c ≤ 8) (a0 : h.2 M = some (mO M o)) (ho : o.2.2.1 = nI 0) (hp : o.2.1 = nI c) (a2 : h.2 (M + 2) = some (.inl (0, 303, .inl b))) (a5 : h.2 (M + 5) = some (.inl (0, 2424, .inl pa))) (hq : ∀ h' pa', h'.1 = h.1 → (∀ q, q ≠ M → q ≠ M + 5 → h'.2 q = h.2 q) → h'.2 M = some (mO M (o.1, nI (if c < 8 then c + 1 else 8), o.2.2)) → h'.2 (M + 5) = some (.inl (0, 2424, .inl pa')) → (∀ k q, q < 303 → k < (if c < 8 then c + 1 else 8) → pa' (303 * k + q) = if k + 1 = (if c < 8 then c + 1 else 8) then b q else if c < 8 then pa (303 * k + q) else pa (303 * (k + 1) + q)) → Q (.inl (some (.int v))) h') : Ct G mX8_ends d 0 0 [.ref M, .int v] h Q := by
  unfold mO at a0
  refine Ct.of rfl rfl (Nat.le_of_ble_eq_true rfl) ?_
  show V G mX8_ends _ _ _ 0 [some (.ref M), some (.int v)] [] h Q
  refine V_walk [34, 62] 16 ?_
  simp (disch := first | omega | assumption) only [↓wstep, ↓wq_s, ↓wq_0, stp, ↓WR0, ↓WR1, ↓WR2, ↓WR3, ↓WR4, ↓WR5, ↓WR6, ↓WR7, ↓WR8, ↓WR9, ↓WR10, ↓WR11, ↓WR12, WI0, WI1, WI2, WI3, fv_0, fv_1, fv_2, fv_3, lkI_0, lkI_1, kip, kin, tgp, tkp, tgn, tkn, bip, bin, sip, lget, lset1, lset2, lcat2, ↓ws_get, ↓ws_put, ws_cell, ws_cell1, ws_hcell, ws_hcell3, ws_hcell1, ↓cellOf, ↓ws_call, ↓ws_callS, ↓ws_oi, ↓ws_ac, ↓ws_mm, ↓ws_post, ↓ws_exc, popN, rok, clsAt, cnOf, catS_nil, catS_i, catS_r, catS_n, catS_l, catS_d, catS_f, nokc, Option.toList_none, Option.toList_some, List.cons_append, List.nil_append, List.length_cons, List.length_nil, List.set_cons_zero, List.set_cons_succ, List.getElem?_cons_zero, List.getElem?_cons_succ, Nat.reduceAdd, Nat.reduceSub, Nat.reduceMul, Nat.reduceEqDiff, Nat.reduceLeDiff, Nat.reduceLT, Nat.reduceDiv, Bool.false_eq_true, ↓reduceIte, true_and, and_true, false_and, and_false, reduceCtorEq, if_true, Nat.zero_add, cl, lt_nI, le_nI, eq_nI, in_nI, z_nI, retok, or_true, true_or, false_or, or_false, Nat.one_ne_zero, ne_eq, not_false_eq_true, not_true_eq_false, forall_const, Option.isSome_some, false_implies, implies_true, hput_1, hnew_1, vcat1, Nat.le_refl, Nat.not_lt_zero, Nat.lt_irrefl, hput_eq, hput_ne, hput_put, DX8_ends, DX8_ends_0, TX8_ends, FT_8, MT_8, SC_8, OI_a, AC_a, NT_a, a0, ho, hp]
  refine ⟨fun q => ?_, fun q => ?_⟩
  · have e1 : nI 303 * nI c = nI (303 * c) := pk_mul 303 c
    rw [if_pos (show c < 8 by omega)] at hq
    refine V_walk [] 40 ?_
    simp (disch := first | omega | assumption) only [↓wstep, ↓wq_s, ↓wq_0, stp, ↓WR0, ↓WR1, ↓WR2, ↓WR3, ↓WR4, ↓WR5, ↓WR6, ↓WR7, ↓WR8, ↓WR9, ↓WR10, ↓WR11, ↓WR12, WI0, WI1, WI2, WI3, fv_0, fv_1, fv_2, fv_3, lkI_0, lkI_1, kip, kin, tgp, tkp, tgn, tkn, bip, bin, sip, lget, lset1, lset2, lcat2, ↓ws_get, ↓ws_put, ws_cell, ws_cell1, ws_hcell, ws_hcell3, ws_hcell1, ↓cellOf, ↓ws_call, ↓ws_callS, ↓ws_oi, ↓ws_ac, ↓ws_mm, ↓ws_post, ↓ws_exc, popN, rok, clsAt, cnOf, catS_nil, catS_i, catS_r, catS_n, catS_l, catS_d, catS_f, nokc, Option.toList_none, Option.toList_some, List.cons_append, List.nil_append, List.length_cons, List.length_nil, List.set_cons_zero, List.set_cons_succ, List.getElem?_cons_zero, List.getElem?_cons_succ, Nat.reduceAdd, Nat.reduceSub, Nat.reduceMul, Nat.reduceEqDiff, Nat.reduceLeDiff, Nat.reduceLT, Nat.reduceDiv, Bool.false_eq_true, ↓reduceIte, true_and, and_true, false_and, and_false, reduceCtorEq, if_true, Nat.zero_add, cl, lt_nI, le_nI, eq_nI, in_nI, z_nI, retok, or_true, true_or, false_or, or_false, Nat.one_ne_zero, ne_eq, not_false_eq_true, not_true_eq_false, forall_const, Option.isSome_some, false_implies, implies_true, hput_1, hnew_1, vcat1, Nat.le_refl, Nat.not_lt_zero, Nat.lt_irrefl, hput_eq, hput_ne, hput_put, DX8_ends, DX8_ends_0, TX8_ends, FT_8, MT_8, SC_8, OI_a, AC_a, NT_a, a0, a2, a5, cpfit, hp, e1, nI_add]
    refine ⟨by omega, hd, hq _ _ rfl (fun q h1 h2 => (hput_ne h1).trans (hput_ne h2)) (hput_eq _ _ _) ((hput_ne (by omega)).trans (hput_eq _ _ _)) (fun k q hq hk => ?_)⟩
    rw [if_pos (show c < 8 by omega)]
    by_cases e : k = c
    · subst e
      rw [if_pos rfl, pk_cpy_in (by omega) (by omega)]; congr 1; omega
    · rw [if_neg (by omega), pk_cpy_out (by omega)]
  · obtain rfl : c = 8 := by omega
    have e2 : nI 8 - nI 1 = nI 7 := by decide
    have e1 : nI 303 * nI 7 = nI 2121 := by decide
    rw [if_neg (show ¬ 8 < 8 by omega)] at hq
    refine V_walk [] 60 ?_
    simp (disch := first | omega | assumption) only [↓wstep, ↓wq_s, ↓wq_0, stp, ↓WR0, ↓WR1, ↓WR2, ↓WR3, ↓WR4, ↓WR5, ↓WR6, ↓WR7, ↓WR8, ↓WR9, ↓WR10, ↓WR11, ↓WR12, WI0, WI1, WI2, WI3, fv_0, fv_1, fv_2, fv_3, lkI_0, lkI_1, kip, kin, tgp, tkp, tgn, tkn, bip, bin, sip, lget, lset1, lset2, lcat2, ↓ws_get, ↓ws_put, ws_cell, ws_cell1, ws_hcell, ws_hcell3, ws_hcell1, ↓cellOf, ↓ws_call, ↓ws_callS, ↓ws_oi, ↓ws_ac, ↓ws_mm, ↓ws_post, ↓ws_exc, popN, rok, clsAt, cnOf, catS_nil, catS_i, catS_r, catS_n, catS_l, catS_d, catS_f, nokc, Option.toList_none, Option.toList_some, List.cons_append, List.nil_append, List.length_cons, List.length_nil, List.set_cons_zero, List.set_cons_succ, List.getElem?_cons_zero, List.getElem?_cons_succ, Nat.reduceAdd, Nat.reduceSub, Nat.reduceMul, Nat.reduceEqDiff, Nat.reduceLeDiff, Nat.reduceLT, Nat.reduceDiv, Bool.false_eq_true, ↓reduceIte, true_and, and_true, false_and, and_false, reduceCtorEq, if_true, Nat.zero_add, cl, lt_nI, le_nI, eq_nI, in_nI, z_nI, retok, or_true, true_or, false_or, or_false, Nat.one_ne_zero, ne_eq, not_false_eq_true, not_true_eq_false, forall_const, Option.isSome_some, false_implies, implies_true, hput_1, hnew_1, vcat1, Nat.le_refl, Nat.not_lt_zero, Nat.lt_irrefl, hput_eq, hput_ne, hput_put, DX8_ends, DX8_ends_0, TX8_ends, FT_8, MT_8, SC_8, OI_a, AC_a, NT_a, a0, a2, a5, cpfit, hp, e1, e2, nI_add]
    refine ⟨hd, hd, hq _ _ rfl (fun q h1 h2 => (hput_ne h1).trans ((hput_ne h2).trans ((hput_ne h1).trans (hput_ne h2)))) (hput_eq _ _ _) ((hput_ne (by omega)).trans (hput_eq _ _ _)) (fun k q hq hk => ?_)⟩
    rw [if_neg (show ¬ 8 < 8 by omega)]
    by_cases e : k = 7
    · subst e
      rw [if_pos rfl, pk_cpy_in (by omega) (by omega)]; congr 1; omega
    · rw [if_neg (by omega), pk_cpy_out (by omega), pk_cpy_in (by omega) (by omega)]; congr 1; omega
/-- a refused change ends -/
theorem mid_fail {G : GT} {M n t d : Nat} {v : Int32} {tx : Nat → Int32} {x : XS} {r : Int32 × St} {o : MO} {s b : Nat → Int32} {h : Hp} {Q : RT → Hp → Prop} (hd : 1 ≤ d) (ht : t < 9) (hT : tot x.1 ≤ 24) (hc : x.2.2.1.2.1 ≤ 8) (hr : r.1 < nI 0) (hr2 : r.2 = x.1) (m : Mid h M n tx x o s b) (hq : ∀ h', Fm h h' M (M + 9) → AtM h' M (nI (t + 1)) n tx (chg x r) → Q (.inl (some (.int (nI 0)))) h') : Ct G mX8_ends d 0 0 [.ref M, .int v] (hput h M (mO M (sTh o (nI (t + 1))))) Q := by
  obtain ⟨sv, as, pa, li, inp, cm, ⟨r0, r1, r2, r3, r4, r5, r6, r7, r8⟩, rm, h1, h2, h3, ab⟩ := m
  refine c_endsF hd ht (hput_eq _ _ _) ((hput_ne (by omega)).trans r1) ((hput_ne (by omega)).trans r2) (fun f' hf => ?_)
  refine hq _ ((Fm.put9 (by omega) (by omega)).tr (Fm.put9 (by omega) (by omega))) ?_
  have ag := ab.cg hT hf
  obtain ⟨m1, m2, m3, m4, m5, m6, m7, m8, m9⟩ := rm
  rw [chg, if_pos hr, hr2]
  refine ⟨sTh o (nI (t + 1)), f', b, sv, as, pa, li, inp, cm, ⟨?_, hput_eq _ _ _, ?_, ?_, ?_, ?_, ?_, ?_, ?_⟩, ⟨ag, m2, m3, m4, fun k hk => ?_, m6, m7, m8, m9⟩, rfl, h2, h3⟩
  · rw [hput_ne (by omega), hput_eq]
  · rw [hput_ne (by omega), hput_ne (by omega)]; exact r2
  · rw [hput_ne (by omega), hput_ne (by omega)]; exact r3
  · rw [hput_ne (by omega), hput_ne (by omega)]; exact r4
  · rw [hput_ne (by omega), hput_ne (by omega)]; exact r5
  · rw [hput_ne (by omega), hput_ne (by omega)]; exact r6
  · rw [hput_ne (by omega), hput_ne (by omega)]; exact r7
  · rw [hput_ne (by omega), hput_ne (by omega)]; exact r8
  · have hk' : k < x.2.2.1.2.1 := hk
    have := m5 k hk'
    show Ag _ (fu x.2.2.1.2.2 ((x.2.2.1.1 + x.2.2.1.2.1) % 9) x.1 ((x.2.2.1.1 + k) % 9))
    rw [fu_ne (by omega)]
    exact this
/-- a change that was done ends -/
theorem mid_ok {G : GT} {M n d : Nat} {v : Int32} {tx : Nat → Int32} {x : XS} {r : Int32 × St} {o : MO} {s b f' : Nat → Int32} {h h2 : Hp} {Q : RT → Hp → Prop} (hd : 1 ≤ d) (hT : tot x.1 ≤ 24) (hH : ∀ i, i < 9 → tot (x.2.2.1.2.2 i) ≤ 24) (ho : x.2.2.1.1 < 9) (hc : x.2.2.1.2.1 ≤ 8) (hr : ¬ r.1 < nI 0) (m : Mid h M n tx x o s b) (mv : Mv h h2 M f') (ag : Ag f' r.2) (hq : ∀ h', Fm h2 h' M (M + 9) → AtM h' M (nI 0) n tx (chg x r) → Q (.inl (some (.int v))) h') : Ct G mX8_ends d 0 0 [.ref M, .int v] h2 Q := by
  obtain ⟨sv, as, pa, li, inp, cm, ⟨r0, r1, r2, r3, r4, r5, r6, r7, r8⟩, rm, h1, h3, h4, ab⟩ := m
  obtain ⟨m1, m2, m3, m4, m5, m6, m7, m8, m9⟩ := rm
  obtain ⟨v1, v2, v3, as', v4⟩ := mv
  have u : ∀ q, q ≠ M + 1 → q ≠ M + 4 → h2.2 q = h.2 q := v2
  refine c_endsS hd hc ((u _ (by omega) (by omega)).trans r0) h1 m4 ((u _ (by omega) (by omega)).trans r2) ((u _ (by omega) (by omega)).trans r5) (fun h' pa' w1 w2 w3 w4 w5 => ?_)
  refine hq h' ⟨w1, fun q hq => w2 q (by omega) (by omega)⟩ ?_
  rw [chg, if_neg hr]
  refine ⟨_, f', b, sv, as', pa', li, inp, cm, ⟨w3, ?_, ?_, ?_, ?_, w4, ?_, ?_, ?_⟩, ⟨ag, m2, m3, ?_, fun k hk => ?_, m6, m7, m8, m9⟩, h1, h3, h4⟩
  · exact (w2 _ (by omega) (by omega)).trans v3
  · exact (w2 _ (by omega) (by omega)).trans ((u _ (by omega) (by omega)).trans r2)
  · exact (w2 _ (by omega) (by omega)).trans ((u _ (by omega) (by omega)).trans r3)
  · exact (w2 _ (by omega) (by omega)).trans v4
  · exact (w2 _ (by omega) (by omega)).trans ((u _ (by omega) (by omega)).trans r6)
  · exact (w2 _ (by omega) (by omega)).trans ((u _ (by omega) (by omega)).trans r7)
  · exact (w2 _ (by omega) (by omega)).trans ((u _ (by omega) (by omega)).trans r8)
  · show nI _ = nI (keepC x.2.2.1.1 x.2.2.1.2.1).2
    unfold keepC
    congr 1
    dsimp only
    split <;> omega
  · show Ag _ (fu x.2.2.1.2.2 ((x.2.2.1.1 + x.2.2.1.2.1) % 9) x.1 (((keepC x.2.2.1.1 x.2.2.1.2.1).1 + k) % 9))
    have hk' : k < (keepC x.2.2.1.1 x.2.2.1.2.1).2 := hk
    unfold keepC at hk' ⊢
    dsimp only at hk' ⊢
    by_cases c8 : x.2.2.1.2.1 < 8
    · rw [if_pos c8] at hk' ⊢
      by_cases e : k = x.2.2.1.2.1
      · subst e
        rw [fu_eq]
        refine ab.cg hT (fun q hq => ?_)
        have := w5 x.2.2.1.2.1 q hq (by rw [if_pos c8]; omega)
        rw [if_pos c8, if_pos rfl] at this
        exact this
      · rw [fu_ne (by omega)]
        refine (m5 k (by omega)).cg (hH _ (Nat.mod_lt _ (by omega))) (fun q hq => ?_)
        have := w5 k q hq (by rw [if_pos c8]; omega)
        rw [if_pos c8, if_neg (by omega), if_pos c8] at this
        exact this
    · have e8 : x.2.2.1.2.1 = 8 := by omega
      rw [if_neg c8] at hk' ⊢
      rw [e8] at hk' ⊢
      by_cases e : k = 7
      · subst e
        rw [show (x.2.2.1.1 + 1) % 9 = (x.2.2.1.1 + 1) % 9 from rfl, show ((x.2.2.1.1 + 1) % 9 + 7) % 9 = (x.2.2.1.1 + 8) % 9 from by omega, fu_eq]
        refine ab.cg hT (fun q hq => ?_)
        have := w5 7 q hq (by rw [if_neg c8]; omega)
        rw [if_neg c8, if_pos rfl] at this
        exact this
      · rw [show ((x.2.2.1.1 + 1) % 9 + k) % 9 = (x.2.2.1.1 + (k + 1)) % 9 from by omega, fu_ne (by omega)]
        refine (m5 (k + 1) (by omega)).cg (hH _ (Nat.mod_lt _ (by omega))) (fun q hq => ?_)
        have := w5 k q hq (by rw [if_neg c8]; omega)
        rw [if_neg c8, if_neg (by omega), if_neg c8] at this
        exact this
