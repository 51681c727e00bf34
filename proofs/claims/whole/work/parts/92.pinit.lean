/-! ===== constructors: Command, Program ===== -/
def cmd0 : Cmd := (0, nI 0, nI 0, 97, 0)
/-- the first kind, as Command sees it -/
def KCW (G : GT) (K : KT9) : Prop := svG G 1 9 = some (.ref (K.2.2.1 0))
set_option maxRecDepth 20000 in
set_option maxHeartbeats 4000000 in
theorem c_cmd_init {G : GT} {K : KT9} {h : Hp} {q d : Nat} {Q : RT → Hp → Prop} (hd : 1 ≤ d) (w : KCW G K) (a : h.2 q = some (.inr (0, [.null, .int (nI 0), .int (nI 0), .int (nI 0), .int (nI 0)]))) (hq : ∀ h', Fm h h' q (q + 1) → h'.2 q = some (cmE K cmd0) → Q (.inl none) h') : Ct G mX1_init d 0 0 [.ref q] h Q := by
  unfold KCW at w
  refine Ct.of rfl rfl (Nat.le_of_ble_eq_true rfl) ?_
  show V G mX1_init _ _ _ 0 [some (.ref q)] [] h Q
  refine V_walk [] 40 ?_
  simp (disch := first | omega | assumption) only [↓wstep, ↓wq_s, ↓wq_0, stp, ↓WR0, ↓WR1, ↓WR2, ↓WR3, ↓WR4, ↓WR5, ↓WR6, ↓WR7, ↓WR8, ↓WR9, ↓WR10, ↓WR11, ↓WR12, WI0, WI1, WI2, WI3, fv_0, fv_1, fv_2, fv_3, lkI_0, lkI_1, kip, kin, tgp, tkp, tgn, tkn, bip, bin, sip, lget, lset1, lset2, lcat2, ↓ws_get, ↓ws_put, ws_cell, ws_cell1, ws_hcell, ws_hcell3, ws_hcell1, ↓cellOf, ↓ws_call, ↓ws_callS, ↓ws_oi, ↓ws_ac, ↓ws_mm, ↓ws_post, ↓ws_exc, popN, rok, clsAt, cnOf, catS_nil, catS_i, catS_r, catS_n, catS_l, catS_d, catS_f, nokc, Option.toList_none, Option.toList_some, List.cons_append, List.nil_append, List.length_cons, List.length_nil, List.set_cons_zero, List.set_cons_succ, List.getElem?_cons_zero, List.getElem?_cons_succ, Nat.reduceAdd, Nat.reduceSub, Nat.reduceMul, Nat.reduceEqDiff, Nat.reduceLeDiff, Nat.reduceLT, Nat.reduceDiv, Bool.false_eq_true, ↓reduceIte, true_and, and_true, false_and, and_false, reduceCtorEq, if_true, Nat.zero_add, cl, lt_nI, le_nI, eq_nI, in_nI, z_nI, retok, or_true, true_or, false_or, or_false, Nat.one_ne_zero, ne_eq, not_false_eq_true, not_true_eq_false, forall_const, Option.isSome_some, false_implies, implies_true, hput_1, hnew_1, vcat1, Nat.le_refl, Nat.not_lt_zero, Nat.lt_irrefl, hput_eq, hput_ne, hput_put, DX1_init, DX1_init_0, TX1_init, FT_1, OI_a, AC_a, NT_a, a, w, OI_a]
  exact ⟨hd, ⟨97, by omega, rfl⟩, hq _ (Fm.put (by omega) (by omega)) (hput_eq _ _ _)⟩
/-- the first k of nine commands -/
def rfpk (p k : Nat) : Nat → Option Nat := fun i => if i < k then some (p + 3 + i) else none
set_option maxRecDepth 20000 in
set_option maxHeartbeats 4000000 in
theorem l_pinit {G : GT} {K : KT9} {p d : Nat} {Q : RT → Hp → Prop} (hd : 2 ≤ d) (w : KCW G K) : ∀ (r k : Nat) (h : Hp) (rc rs : Nat), k + r = 9 → r ≤ rc → 5 * r ≤ rs → h.1 = p + 3 + k → h.2 p = some (.inr (3, [.ref (p + 1), .ref (p + 2), .int (nI 0), .int (nI 0), .int (nI 0)])) → h.2 (p + 1) = some (.inl (1, 60, .inl (chs (fun _ => 0)))) → h.2 (p + 2) = some (.inl (7, 9, .inr (.inr (.inr (.inr (rfpk p k)))))) → (∀ i, i < k → h.2 (p + 3 + i) = some (cmE K cmd0)) → (∀ h', Fw h h' p (p + 12) → AtP K h' p (fun _ => 0) 0 0 0 (fun _ => cmd0) → Q (.inl none) h') → V G mX5_init d rc rs 38 [some (.ref p), some (.int (nI k))] [] h Q := by
  intro r
  induction r with
  | zero =>
    intro k h rc rs hk h1 h2 h3 h4 h5 h6 h7 hq
    obtain rfl : k = 9 := by omega
    refine V_walk [] 40 ?_
    simp (disch := first | omega | assumption) only [↓wstep, ↓wq_s, ↓wq_0, stp, ↓WR0, ↓WR1, ↓WR2, ↓WR3, ↓WR4, ↓WR5, ↓WR6, ↓WR7, ↓WR8, ↓WR9, ↓WR10, ↓WR11, ↓WR12, WI0, WI1, WI2, WI3, fv_0, fv_1, fv_2, fv_3, lkI_0, lkI_1, kip, kin, tgp, tkp, tgn, tkn, bip, bin, sip, lget, lset1, lset2, lcat2, ↓ws_get, ↓ws_put, ws_cell, ws_cell1, ws_hcell, ws_hcell3, ws_hcell1, ↓cellOf, ↓ws_call, ↓ws_callS, ↓ws_oi, ↓ws_ac, ↓ws_mm, ↓ws_post, ↓ws_exc, popN, rok, clsAt, cnOf, catS_nil, catS_i, catS_r, catS_n, catS_l, catS_d, catS_f, nokc, Option.toList_none, Option.toList_some, List.cons_append, List.nil_append, List.length_cons, List.length_nil, List.set_cons_zero, List.set_cons_succ, List.getElem?_cons_zero, List.getElem?_cons_succ, Nat.reduceAdd, Nat.reduceSub, Nat.reduceMul, Nat.reduceEqDiff, Nat.reduceLeDiff, Nat.reduceLT, Nat.reduceDiv, Bool.false_eq_true, ↓reduceIte, true_and, and_true, false_and, and_false, reduceCtorEq, if_true, Nat.zero_add, cl, lt_nI, le_nI, eq_nI, in_nI, z_nI, retok, or_true, true_or, false_or, or_false, Nat.one_ne_zero, ne_eq, not_false_eq_true, not_true_eq_false, forall_const, Option.isSome_some, false_implies, implies_true, hput_1, hnew_1, vcat1, Nat.le_refl, Nat.not_lt_zero, Nat.lt_irrefl, hput_eq, hput_ne, hput_put, DX5_init, DX5_init_0, TX5_init, FT_5, MT_5, SC_5, DX1_init, OI_a, AC_a, NT_a]
    exact hq h ⟨h3, fun _ _ => rfl⟩ ⟨h4, h5, h6, h7⟩
  | succ r ih =>
    intro k h rc rs hk h1 h2 h3 h4 h5 h6 h7 hq
    have hlt : k < 9 := by omega
    refine V_walk [38] 40 ?_
    simp (disch := first | omega | assumption) only [↓wstep, ↓wq_s, ↓wq_0, stp, ↓WR0, ↓WR1, ↓WR2, ↓WR3, ↓WR4, ↓WR5, ↓WR6, ↓WR7, ↓WR8, ↓WR9, ↓WR10, ↓WR11, ↓WR12, WI0, WI1, WI2, WI3, fv_0, fv_1, fv_2, fv_3, lkI_0, lkI_1, kip, kin, tgp, tkp, tgn, tkn, bip, bin, sip, lget, lset1, lset2, lcat2, ↓ws_get, ↓ws_put, ws_cell, ws_cell1, ws_hcell, ws_hcell3, ws_hcell1, ↓cellOf, ↓ws_call, ↓ws_callS, ↓ws_oi, ↓ws_ac, ↓ws_mm, ↓ws_post, ↓ws_exc, popN, rok, clsAt, cnOf, catS_nil, catS_i, catS_r, catS_n, catS_l, catS_d, catS_f, nokc, Option.toList_none, Option.toList_some, List.cons_append, List.nil_append, List.length_cons, List.length_nil, List.set_cons_zero, List.set_cons_succ, List.getElem?_cons_zero, List.getElem?_cons_succ, Nat.reduceAdd, Nat.reduceSub, Nat.reduceMul, Nat.reduceEqDiff, Nat.reduceLeDiff, Nat.reduceLT, Nat.reduceDiv, Bool.false_eq_true, ↓reduceIte, true_and, and_true, false_and, and_false, reduceCtorEq, if_true, Nat.zero_add, cl, lt_nI, le_nI, eq_nI, in_nI, z_nI, retok, or_true, true_or, false_or, or_false, Nat.one_ne_zero, ne_eq, not_false_eq_true, not_true_eq_false, forall_const, Option.isSome_some, false_implies, implies_true, hput_1, hnew_1, vcat1, Nat.le_refl, Nat.not_lt_zero, Nat.lt_irrefl, hput_eq, hput_ne, hput_put, DX5_init, DX5_init_0, TX5_init, FT_5, MT_5, SC_5, DX1_init, OI_a, AC_a, NT_a, h4, h6, hnew_if, hput_if, if_neg, if_pos, ini, hd, OI_a]
    refine ⟨fun c => by omega, fun _ => ⟨by omega, by omega, ?_⟩⟩
    rw [h3]
    refine CtE.of0 (by omega) (c_cmd_init (q := p + 3 + k) (by omega) w (by rw [hnew_if, h3, if_pos rfl]) (fun h1' f1 a1 => ?_))
    have g4 : h1'.2 p = some (.inr (3, [.ref (p + 1), .ref (p + 2), .int (nI 0), .int (nI 0), .int (nI 0)])) := (f1.2 _ (by omega)).trans (by rw [hnew_if, h3, if_neg (by omega), h4])
    have g6 : h1'.2 (p + 2) = some (.inl (7, 9, .inr (.inr (.inr (.inr (rfpk p k)))))) := (f1.2 _ (by omega)).trans (by rw [hnew_if, h3, if_neg (by omega), h6])
    have e : va_up (rfpk p k) k (some (p + 3 + k)) = rfpk p (k + 1) := by
      funext i
      simp only [va_up, rfpk]
      by_cases c : i = k
      · subst c; rw [if_pos rfl, if_pos (by omega)]
      · rw [if_neg c]
        by_cases c1 : i < k
        · rw [if_pos c1, if_pos (by omega)]
        · rw [if_neg c1, if_neg (by omega)]
    have a1' := a1
    unfold cmE at a1'
    simp (disch := first | omega | assumption) only [↓wstep, ↓wq_s, ↓wq_0, stp, ↓WR0, ↓WR1, ↓WR2, ↓WR3, ↓WR4, ↓WR5, ↓WR6, ↓WR7, ↓WR8, ↓WR9, ↓WR10, ↓WR11, ↓WR12, WI0, WI1, WI2, WI3, fv_0, fv_1, fv_2, fv_3, lkI_0, lkI_1, kip, kin, tgp, tkp, tgn, tkn, bip, bin, sip, lget, lset1, lset2, lcat2, ↓ws_get, ↓ws_put, ws_cell, ws_cell1, ws_hcell, ws_hcell3, ws_hcell1, ↓cellOf, ↓ws_call, ↓ws_callS, ↓ws_oi, ↓ws_ac, ↓ws_mm, ↓ws_post, ↓ws_exc, popN, rok, clsAt, cnOf, catS_nil, catS_i, catS_r, catS_n, catS_l, catS_d, catS_f, nokc, Option.toList_none, Option.toList_some, List.cons_append, List.nil_append, List.length_cons, List.length_nil, List.set_cons_zero, List.set_cons_succ, List.getElem?_cons_zero, List.getElem?_cons_succ, Nat.reduceAdd, Nat.reduceSub, Nat.reduceMul, Nat.reduceEqDiff, Nat.reduceLeDiff, Nat.reduceLT, Nat.reduceDiv, Bool.false_eq_true, ↓reduceIte, true_and, and_true, false_and, and_false, reduceCtorEq, if_true, Nat.zero_add, cl, lt_nI, le_nI, eq_nI, in_nI, z_nI, retok, or_true, true_or, false_or, or_false, Nat.one_ne_zero, ne_eq, not_false_eq_true, not_true_eq_false, forall_const, Option.isSome_some, false_implies, implies_true, hput_1, hnew_1, vcat1, Nat.le_refl, Nat.not_lt_zero, Nat.lt_irrefl, hput_eq, hput_ne, hput_put, DX5_init, DX5_init_0, TX5_init, FT_5, MT_5, SC_5, DX1_init, OI_a, AC_a, NT_a, g4, g6, a1', nI_add, e]
    have f2 : ∀ q, q < p + 3 + k → q ≠ p + 2 → (hput h1' (p + 2) (.inl (7, 9, .inr (.inr (.inr (.inr (rfpk p (k + 1)))))))).2 q = h.2 q := fun q hb hn => by
      rw [hput_ne hn, f1.2 q (by omega), hnew_if, h3, if_neg (by omega)]
    refine ih (k + 1) _ _ _ (by omega) (by omega) (by omega) ?_ ?_ ?_ (hput_eq _ _ _) ?_ ?_
    · rw [hput_1, f1.1, hnew_1]; omega
    · rw [f2 _ (by omega) (by omega), h4]
    · rw [f2 _ (by omega) (by omega), h5]
    · intro i hi
      by_cases c : i = k
      · subst c
        exact (hput_ne (by omega)).trans a1
      · rw [f2 _ (by omega) (by omega)]; exact h7 i (by omega)
    · intro h' wf a
      refine hq h' ⟨wf.1, fun q hb => (wf.2 q hb).trans ?_⟩ a
      rw [hput_ne (by omega), f1.2 q (by omega), hnew_if, h3, if_neg (by omega)]
set_option maxRecDepth 20000 in
set_option maxHeartbeats 4000000 in
theorem c_prog_init {G : GT} {K : KT9} {h : Hp} {p d : Nat} {Q : RT → Hp → Prop} (hd : 2 ≤ d) (w : KCW G K) (hn : h.1 = p + 1) (a : h.2 p = some (.inr (3, [.null, .null, .int (nI 0), .int (nI 0), .int (nI 0)]))) (hq : ∀ h', Fw h h' p (p + 12) → AtP K h' p (fun _ => 0) 0 0 0 (fun _ => cmd0) → Q (.inl none) h') : Ct G mX5_init d 11 120 [.ref p] h Q := by
  refine Ct.of rfl rfl (Nat.le_of_ble_eq_true rfl) ?_
  show V G mX5_init _ _ _ 0 [some (.ref p), none] [] h Q
  have an5 : AN 5 15 = some 7 := rfl
  refine V_walk [9] 40 ?_
  simp (disch := first | omega | assumption) only [↓wstep, ↓wq_s, ↓wq_0, stp, ↓WR0, ↓WR1, ↓WR2, ↓WR3, ↓WR4, ↓WR5, ↓WR6, ↓WR7, ↓WR8, ↓WR9, ↓WR10, ↓WR11, ↓WR12, WI0, WI1, WI2, WI3, fv_0, fv_1, fv_2, fv_3, lkI_0, lkI_1, kip, kin, tgp, tkp, tgn, tkn, bip, bin, sip, lget, lset1, lset2, lcat2, ↓ws_get, ↓ws_put, ws_cell, ws_cell1, ws_hcell, ws_hcell3, ws_hcell1, ↓cellOf, ↓ws_call, ↓ws_callS, ↓ws_oi, ↓ws_ac, ↓ws_mm, ↓ws_post, ↓ws_exc, popN, rok, clsAt, cnOf, catS_nil, catS_i, catS_r, catS_n, catS_l, catS_d, catS_f, nokc, Option.toList_none, Option.toList_some, List.cons_append, List.nil_append, List.length_cons, List.length_nil, List.set_cons_zero, List.set_cons_succ, List.getElem?_cons_zero, List.getElem?_cons_succ, Nat.reduceAdd, Nat.reduceSub, Nat.reduceMul, Nat.reduceEqDiff, Nat.reduceLeDiff, Nat.reduceLT, Nat.reduceDiv, Bool.false_eq_true, ↓reduceIte, true_and, and_true, false_and, and_false, reduceCtorEq, if_true, Nat.zero_add, cl, lt_nI, le_nI, eq_nI, in_nI, z_nI, retok, or_true, true_or, false_or, or_false, Nat.one_ne_zero, ne_eq, not_false_eq_true, not_true_eq_false, forall_const, Option.isSome_some, false_implies, implies_true, hput_1, hnew_1, vcat1, Nat.le_refl, Nat.not_lt_zero, Nat.lt_irrefl, hput_eq, hput_ne, hput_put, DX5_init, DX5_init_0, TX5_init, FT_5, MT_5, SC_5, DX1_init, OI_a, AC_a, NT_a, hd, atn, an_e, OI_a]
  refine ⟨by omega, 60, rfl, by omega, by omega, ?_⟩
  refine V_walk [18] 40 ?_
  simp (disch := first | omega | assumption) only [↓wstep, ↓wq_s, ↓wq_0, stp, ↓WR0, ↓WR1, ↓WR2, ↓WR3, ↓WR4, ↓WR5, ↓WR6, ↓WR7, ↓WR8, ↓WR9, ↓WR10, ↓WR11, ↓WR12, WI0, WI1, WI2, WI3, fv_0, fv_1, fv_2, fv_3, lkI_0, lkI_1, kip, kin, tgp, tkp, tgn, tkn, bip, bin, sip, lget, lset1, lset2, lcat2, ↓ws_get, ↓ws_put, ws_cell, ws_cell1, ws_hcell, ws_hcell3, ws_hcell1, ↓cellOf, ↓ws_call, ↓ws_callS, ↓ws_oi, ↓ws_ac, ↓ws_mm, ↓ws_post, ↓ws_exc, popN, rok, clsAt, cnOf, catS_nil, catS_i, catS_r, catS_n, catS_l, catS_d, catS_f, nokc, Option.toList_none, Option.toList_some, List.cons_append, List.nil_append, List.length_cons, List.length_nil, List.set_cons_zero, List.set_cons_succ, List.getElem?_cons_zero, List.getElem?_cons_succ, Nat.reduceAdd, Nat.reduceSub, Nat.reduceMul, Nat.reduceEqDiff, Nat.reduceLeDiff, Nat.reduceLT, Nat.reduceDiv, Bool.false_eq_true, ↓reduceIte, true_and, and_true, false_and, and_false, reduceCtorEq, if_true, Nat.zero_add, cl, lt_nI, le_nI, eq_nI, in_nI, z_nI, retok, or_true, true_or, false_or, or_false, Nat.one_ne_zero, ne_eq, not_false_eq_true, not_true_eq_false, forall_const, Option.isSome_some, false_implies, implies_true, hput_1, hnew_1, vcat1, Nat.le_refl, Nat.not_lt_zero, Nat.lt_irrefl, hput_eq, hput_ne, hput_put, DX5_init, DX5_init_0, TX5_init, FT_5, MT_5, SC_5, DX1_init, OI_a, AC_a, NT_a, hd, atn, a, hnew_if, hput_if, hn, zr0, zr1, if_neg, if_pos, ini, an5]
  refine ⟨9, rfl, by omega, by omega, ?_⟩
  refine V_walk [38] 40 ?_
  simp (disch := first | omega | assumption) only [↓wstep, ↓wq_s, ↓wq_0, stp, ↓WR0, ↓WR1, ↓WR2, ↓WR3, ↓WR4, ↓WR5, ↓WR6, ↓WR7, ↓WR8, ↓WR9, ↓WR10, ↓WR11, ↓WR12, WI0, WI1, WI2, WI3, fv_0, fv_1, fv_2, fv_3, lkI_0, lkI_1, kip, kin, tgp, tkp, tgn, tkn, bip, bin, sip, lget, lset1, lset2, lcat2, ↓ws_get, ↓ws_put, ws_cell, ws_cell1, ws_hcell, ws_hcell3, ws_hcell1, ↓cellOf, ↓ws_call, ↓ws_callS, ↓ws_oi, ↓ws_ac, ↓ws_mm, ↓ws_post, ↓ws_exc, popN, rok, clsAt, cnOf, catS_nil, catS_i, catS_r, catS_n, catS_l, catS_d, catS_f, nokc, Option.toList_none, Option.toList_some, List.cons_append, List.nil_append, List.length_cons, List.length_nil, List.set_cons_zero, List.set_cons_succ, List.getElem?_cons_zero, List.getElem?_cons_succ, Nat.reduceAdd, Nat.reduceSub, Nat.reduceMul, Nat.reduceEqDiff, Nat.reduceLeDiff, Nat.reduceLT, Nat.reduceDiv, Bool.false_eq_true, ↓reduceIte, true_and, and_true, false_and, and_false, reduceCtorEq, if_true, Nat.zero_add, cl, lt_nI, le_nI, eq_nI, in_nI, z_nI, retok, or_true, true_or, false_or, or_false, Nat.one_ne_zero, ne_eq, not_false_eq_true, not_true_eq_false, forall_const, Option.isSome_some, false_implies, implies_true, hput_1, hnew_1, vcat1, Nat.le_refl, Nat.not_lt_zero, Nat.lt_irrefl, hput_eq, hput_ne, hput_put, DX5_init, DX5_init_0, TX5_init, FT_5, MT_5, SC_5, DX1_init, OI_a, AC_a, NT_a, hd, atn, a, hnew_if, hput_if, hn, zr0, zr1, if_neg, if_pos, ini]
  have hh : ∀ h', h'.1 = p + 3 → h'.2 p = some (.inr (3, [.ref (p + 1), .ref (p + 2), .int (nI 0), .int (nI 0), .int (nI 0)])) → h'.2 (p + 1) = some (.inl (1, 60, .inl (chs (fun _ => 0)))) → h'.2 (p + 2) = some (.inl (7, 9, .inr (.inr (.inr (.inr (rfpk p 0)))))) → (∀ q, q < p ∨ p + 3 ≤ q → h'.2 q = h.2 q) → V G mX5_init d 9 51 38 [some (.ref p), some (.int (nI 0))] [] h' Q := fun h' k1 k2 k3 k4 k5 => by
    refine l_pinit hd w 9 0 h' 9 51 (by omega) (by omega) (by omega) (by omega) k2 k3 k4 (fun i hi => absurd hi (Nat.not_lt_zero _)) (fun h2 f2 a2 => hq h2 ⟨f2.1, fun q hb => (f2.2 q hb).trans (k5 q (by omega))⟩ a2)
  refine hh _ ?_ ?_ ?_ ?_ ?_
  · simp only [hput_1, hnew_1, hn]
  · simp only [hput_if, hnew_if, hput_1, hnew_1, hn, if_true]
  · simp (disch := omega) only [hput_if, hnew_if, hput_1, hnew_1, hn, if_neg, if_pos]; rfl
  · simp (disch := omega) only [hput_if, hnew_if, hput_1, hnew_1, hn, if_neg, if_pos]
    exact congrArg (fun f => some (Sum.inl (7, 9, Sum.inr (Sum.inr (Sum.inr (Sum.inr f)))))) (funext fun i => (if_neg (Nat.not_lt_zero _)).symm)
  · intro q hb
    simp only [hput_if, hnew_if, hput_1, hnew_1, hn]
    simp (disch := omega) only [if_neg]
