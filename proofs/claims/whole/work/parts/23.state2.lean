/-! ===== the class's State: the constructor ===== -/
theorem an_e : AN 6 9 = some 5 ∧ AN 2 11 = some 6 := ⟨rfl, rfl⟩
/-- the state of the start -/
def nt0 : Nt := (0, 0, pens0)
def st0 : St := (nI 0, nI 0, (fun _ => nI 0), fun _ => nt0)
theorem Fw.tr {h h1 h2 : Hp} {lo m hi : Nat} (a : Fw h h1 lo m) (b : Fw h1 h2 lo hi) (hm : m ≤ hi) : Fw h h2 lo hi := ⟨b.1, fun q hq => (b.2 q hq).trans (a.2 q (by omega))⟩
/-- the first k of four nests, side by side -/
def rfk (s k : Nat) : Nat → Option Nat := fun i => if i < k then some (s + 3 + 4 * i) else none
theorem AtN.of {h h' : Hp} {n sz ex : Nat} {p : Pens} (a : AtN h n sz ex p) (f : ∀ b, n ≤ b → b < n + 4 → h'.2 b = h.2 b) : AtN h' n sz ex p := by
  obtain ⟨h1, h2, h3, h4⟩ := a
  exact ⟨(f _ (by omega) (by omega)).trans h1, (f _ (by omega) (by omega)).trans h2, (f _ (by omega) (by omega)).trans h3, (f _ (by omega) (by omega)).trans h4⟩
set_option maxRecDepth 20000 in
set_option maxHeartbeats 4000000 in
theorem l_sinit {G : GT} {s d : Nat} {Q : RT → Hp → Prop} (hd : 3 ≤ d) : ∀ (r k : Nat) (h : Hp) (rc rs : Nat), k + r = 4 → 4 * r ≤ rc → 80 * r ≤ rs → h.1 = s + 3 + 4 * k → h.2 s = some (.inr (4, [.ref (s + 1), .ref (s + 2), .int (nI 0), .int (nI 0)])) → h.2 (s + 1) = some (.inl (5, 4, .inr (.inr (.inr (.inr (rfk s k)))))) → h.2 (s + 2) = some (.inl (0, 8, .inl (fun _ => nI 0))) → (∀ i, i < k → AtN h (s + 3 + 4 * i) 0 0 pens0) → (∀ h', Fw h h' s (s + 19) → AtS h' s st0 → Q (.inl none) h') → V G mX6_init d rc rs 32 [some (.ref s), some (.int (nI k))] [] h Q := by
  intro r
  induction r with
  | zero =>
    intro k h rc rs hk h1 h2 h3 h4 h5 h6 h7 hq
    obtain rfl : k = 4 := by omega
    refine V_walk [] 40 ?_
    simp (disch := first | omega | assumption) only [↓wstep, ↓wq_s, ↓wq_0, stp, ↓WR0, ↓WR1, ↓WR2, ↓WR3, ↓WR4, ↓WR5, ↓WR6, ↓WR7, ↓WR8, ↓WR9, ↓WR10, ↓WR11, ↓WR12, WI0, WI1, WI2, WI3, fv_0, fv_1, fv_2, fv_3, lkI_0, lkI_1, kip, kin, tgp, tkp, tgn, tkn, bip, bin, sip, lget, lset1, lset2, lcat2, ↓ws_get, ↓ws_put, ws_cell, ws_cell1, ws_hcell, ws_hcell3, ws_hcell1, ↓cellOf, ↓ws_call, ↓ws_callS, ↓ws_oi, ↓ws_ac, ↓ws_mm, ↓ws_post, ↓ws_exc, popN, rok, clsAt, cnOf, catS_nil, catS_i, catS_r, catS_n, catS_l, catS_d, catS_f, nokc, Option.toList_none, Option.toList_some, List.cons_append, List.nil_append, List.length_cons, List.length_nil, List.set_cons_zero, List.set_cons_succ, List.getElem?_cons_zero, List.getElem?_cons_succ, Nat.reduceAdd, Nat.reduceSub, Nat.reduceMul, Nat.reduceEqDiff, Nat.reduceLeDiff, Nat.reduceLT, Nat.reduceDiv, Bool.false_eq_true, ↓reduceIte, true_and, and_true, false_and, and_false, reduceCtorEq, if_true, Nat.zero_add, cl, lt_nI, le_nI, eq_nI, in_nI, z_nI, retok, or_true, true_or, false_or, or_false, Nat.one_ne_zero, ne_eq, not_false_eq_true, not_true_eq_false, forall_const, Option.isSome_some, false_implies, implies_true, hput_1, hnew_1, vcat1, Nat.le_refl, Nat.not_lt_zero, Nat.lt_irrefl, hput_eq, hput_ne, hput_put, DX6_init, DX6_init_0, TX6_init, FT_6, MT_6, SC_6, DX4_init, OI_a, AC_a, NT_a]
    exact hq h ⟨h3, fun _ _ => rfl⟩ ⟨h4, h5, h6, h7⟩
  | succ r ih =>
    intro k h rc rs hk h1 h2 h3 h4 h5 h6 h7 hq
    have hlt : k < 4 := by omega
    refine V_walk [32] 40 ?_
    simp (disch := first | omega | assumption) only [↓wstep, ↓wq_s, ↓wq_0, stp, ↓WR0, ↓WR1, ↓WR2, ↓WR3, ↓WR4, ↓WR5, ↓WR6, ↓WR7, ↓WR8, ↓WR9, ↓WR10, ↓WR11, ↓WR12, WI0, WI1, WI2, WI3, fv_0, fv_1, fv_2, fv_3, lkI_0, lkI_1, kip, kin, tgp, tkp, tgn, tkn, bip, bin, sip, lget, lset1, lset2, lcat2, ↓ws_get, ↓ws_put, ws_cell, ws_cell1, ws_hcell, ws_hcell3, ws_hcell1, ↓cellOf, ↓ws_call, ↓ws_callS, ↓ws_oi, ↓ws_ac, ↓ws_mm, ↓ws_post, ↓ws_exc, popN, rok, clsAt, cnOf, catS_nil, catS_i, catS_r, catS_n, catS_l, catS_d, catS_f, nokc, Option.toList_none, Option.toList_some, List.cons_append, List.nil_append, List.length_cons, List.length_nil, List.set_cons_zero, List.set_cons_succ, List.getElem?_cons_zero, List.getElem?_cons_succ, Nat.reduceAdd, Nat.reduceSub, Nat.reduceMul, Nat.reduceEqDiff, Nat.reduceLeDiff, Nat.reduceLT, Nat.reduceDiv, Bool.false_eq_true, ↓reduceIte, true_and, and_true, false_and, and_false, reduceCtorEq, if_true, Nat.zero_add, cl, lt_nI, le_nI, eq_nI, in_nI, z_nI, retok, or_true, true_or, false_or, or_false, Nat.one_ne_zero, ne_eq, not_false_eq_true, not_true_eq_false, forall_const, Option.isSome_some, false_implies, implies_true, hput_1, hnew_1, vcat1, Nat.le_refl, Nat.not_lt_zero, Nat.lt_irrefl, hput_eq, hput_ne, hput_put, DX6_init, DX6_init_0, TX6_init, FT_6, MT_6, SC_6, DX4_init, OI_a, AC_a, NT_a, h4, h3, hnew_if, hput_if, if_neg, if_pos, ini, hd]
    refine ⟨fun c => by omega, fun _ => ⟨by omega, by omega, ?_⟩⟩
    refine CtE.of (d - 1) 3 72 (by omega) (by omega) (by omega) (c_nest_init (by omega) (by rw [hnew_1, h3]) (by rw [hnew_if, h3, if_pos rfl]) (fun h1' f1 a1 => ?_))
    have g4 : h1'.2 s = some (.inr (4, [.ref (s + 1), .ref (s + 2), .int (nI 0), .int (nI 0)])) := (f1.2 _ (by omega)).trans (by rw [hnew_if, h3, if_neg (by omega), h4])
    have g5 : h1'.2 (s + 1) = some (.inl (5, 4, .inr (.inr (.inr (.inr (rfk s k)))))) := (f1.2 _ (by omega)).trans (by rw [hnew_if, h3, if_neg (by omega), h5])
    have g6 := a1.1
    have e : va_up (rfk s k) k (some (s + 3 + 4 * k)) = rfk s (k + 1) := by
      funext i
      simp only [va_up, rfk]
      by_cases c : i = k
      · subst c; rw [if_pos rfl, if_pos (by omega)]
      · rw [if_neg c]
        by_cases c1 : i < k
        · rw [if_pos c1, if_pos (by omega)]
        · rw [if_neg c1, if_neg (by omega)]
    simp (disch := first | omega | assumption) only [↓wstep, ↓wq_s, ↓wq_0, stp, ↓WR0, ↓WR1, ↓WR2, ↓WR3, ↓WR4, ↓WR5, ↓WR6, ↓WR7, ↓WR8, ↓WR9, ↓WR10, ↓WR11, ↓WR12, WI0, WI1, WI2, WI3, fv_0, fv_1, fv_2, fv_3, lkI_0, lkI_1, kip, kin, tgp, tkp, tgn, tkn, bip, bin, sip, lget, lset1, lset2, lcat2, ↓ws_get, ↓ws_put, ws_cell, ws_cell1, ws_hcell, ws_hcell3, ws_hcell1, ↓cellOf, ↓ws_call, ↓ws_callS, ↓ws_oi, ↓ws_ac, ↓ws_mm, ↓ws_post, ↓ws_exc, popN, rok, clsAt, cnOf, catS_nil, catS_i, catS_r, catS_n, catS_l, catS_d, catS_f, nokc, Option.toList_none, Option.toList_some, List.cons_append, List.nil_append, List.length_cons, List.length_nil, List.set_cons_zero, List.set_cons_succ, List.getElem?_cons_zero, List.getElem?_cons_succ, Nat.reduceAdd, Nat.reduceSub, Nat.reduceMul, Nat.reduceEqDiff, Nat.reduceLeDiff, Nat.reduceLT, Nat.reduceDiv, Bool.false_eq_true, ↓reduceIte, true_and, and_true, false_and, and_false, reduceCtorEq, if_true, Nat.zero_add, cl, lt_nI, le_nI, eq_nI, in_nI, z_nI, retok, or_true, true_or, false_or, or_false, Nat.one_ne_zero, ne_eq, not_false_eq_true, not_true_eq_false, forall_const, Option.isSome_some, false_implies, implies_true, hput_1, hnew_1, vcat1, Nat.le_refl, Nat.not_lt_zero, Nat.lt_irrefl, hput_eq, hput_ne, hput_put, DX6_init, DX6_init_0, TX6_init, FT_6, MT_6, SC_6, DX4_init, OI_a, AC_a, NT_a, g4, g5, g6, nI_add, e]
    have f2 : ∀ b, b < s + 3 + 4 * k → b ≠ s + 1 → (hput h1' (s + 1) (.inl (5, 4, .inr (.inr (.inr (.inr (rfk s (k + 1)))))))).2 b = h.2 b := fun b hb hn => by
      rw [hput_ne hn, f1.2 b (by omega), hnew_if, h3, if_neg (by omega)]
    refine ih (k + 1) _ _ _ (by omega) (by omega) (by omega) ?_ ?_ (hput_eq _ _ _) ?_ ?_ ?_
    · rw [hput_1, f1.1]; omega
    · rw [f2 _ (by omega) (by omega), h4]
    · rw [f2 _ (by omega) (by omega), h6]
    · intro i hi
      by_cases c : i = k
      · subst c
        exact a1.of (fun b hb1 hb2 => hput_ne (by omega))
      · exact (h7 i (by omega)).of (fun b hb1 hb2 => f2 b (by omega) (by omega))
    · intro h' w a
      refine hq h' ⟨w.1, fun b hb => (w.2 b hb).trans ?_⟩ a
      rw [hput_ne (by omega), f1.2 b (by omega), hnew_if, h3, if_neg (by omega)]
set_option maxRecDepth 20000 in
set_option maxHeartbeats 4000000 in
theorem c_state_init {G : GT} {h : Hp} {s d : Nat} {Q : RT → Hp → Prop} (hd : 3 ≤ d) (hn : h.1 = s + 1) (a : h.2 s = some (.inr (4, [.null, .null, .int (nI 0), .int (nI 0)]))) (hq : ∀ h', Fw h h' s (s + 19) → AtS h' s st0 → Q (.inl none) h') : Ct G mX6_init d 18 400 [.ref s] h Q := by
  refine Ct.of rfl rfl (Nat.le_of_ble_eq_true rfl) ?_
  show V G mX6_init _ _ _ 0 [some (.ref s), none] [] h Q
  refine V_walk [9] 40 ?_
  simp (disch := first | omega | assumption) only [↓wstep, ↓wq_s, ↓wq_0, stp, ↓WR0, ↓WR1, ↓WR2, ↓WR3, ↓WR4, ↓WR5, ↓WR6, ↓WR7, ↓WR8, ↓WR9, ↓WR10, ↓WR11, ↓WR12, WI0, WI1, WI2, WI3, fv_0, fv_1, fv_2, fv_3, lkI_0, lkI_1, kip, kin, tgp, tkp, tgn, tkn, bip, bin, sip, lget, lset1, lset2, lcat2, ↓ws_get, ↓ws_put, ws_cell, ws_cell1, ws_hcell, ws_hcell3, ws_hcell1, ↓cellOf, ↓ws_call, ↓ws_callS, ↓ws_oi, ↓ws_ac, ↓ws_mm, ↓ws_post, ↓ws_exc, popN, rok, clsAt, cnOf, catS_nil, catS_i, catS_r, catS_n, catS_l, catS_d, catS_f, nokc, Option.toList_none, Option.toList_some, List.cons_append, List.nil_append, List.length_cons, List.length_nil, List.set_cons_zero, List.set_cons_succ, List.getElem?_cons_zero, List.getElem?_cons_succ, Nat.reduceAdd, Nat.reduceSub, Nat.reduceMul, Nat.reduceEqDiff, Nat.reduceLeDiff, Nat.reduceLT, Nat.reduceDiv, Bool.false_eq_true, ↓reduceIte, true_and, and_true, false_and, and_false, reduceCtorEq, if_true, Nat.zero_add, cl, lt_nI, le_nI, eq_nI, in_nI, z_nI, retok, or_true, true_or, false_or, or_false, Nat.one_ne_zero, ne_eq, not_false_eq_true, not_true_eq_false, forall_const, Option.isSome_some, false_implies, implies_true, hput_1, hnew_1, vcat1, Nat.le_refl, Nat.not_lt_zero, Nat.lt_irrefl, hput_eq, hput_ne, hput_put, DX6_init, DX6_init_0, TX6_init, FT_6, MT_6, SC_6, DX4_init, OI_a, AC_a, NT_a, hd, atn, an_e]
  refine ⟨by omega, 4, rfl, by omega, by omega, ?_⟩
  refine V_walk [17] 40 ?_
  simp (disch := first | omega | assumption) only [↓wstep, ↓wq_s, ↓wq_0, stp, ↓WR0, ↓WR1, ↓WR2, ↓WR3, ↓WR4, ↓WR5, ↓WR6, ↓WR7, ↓WR8, ↓WR9, ↓WR10, ↓WR11, ↓WR12, WI0, WI1, WI2, WI3, fv_0, fv_1, fv_2, fv_3, lkI_0, lkI_1, kip, kin, tgp, tkp, tgn, tkn, bip, bin, sip, lget, lset1, lset2, lcat2, ↓ws_get, ↓ws_put, ws_cell, ws_cell1, ws_hcell, ws_hcell3, ws_hcell1, ↓cellOf, ↓ws_call, ↓ws_callS, ↓ws_oi, ↓ws_ac, ↓ws_mm, ↓ws_post, ↓ws_exc, popN, rok, clsAt, cnOf, catS_nil, catS_i, catS_r, catS_n, catS_l, catS_d, catS_f, nokc, Option.toList_none, Option.toList_some, List.cons_append, List.nil_append, List.length_cons, List.length_nil, List.set_cons_zero, List.set_cons_succ, List.getElem?_cons_zero, List.getElem?_cons_succ, Nat.reduceAdd, Nat.reduceSub, Nat.reduceMul, Nat.reduceEqDiff, Nat.reduceLeDiff, Nat.reduceLT, Nat.reduceDiv, Bool.false_eq_true, ↓reduceIte, true_and, and_true, false_and, and_false, reduceCtorEq, if_true, Nat.zero_add, cl, lt_nI, le_nI, eq_nI, in_nI, z_nI, retok, or_true, true_or, false_or, or_false, Nat.one_ne_zero, ne_eq, not_false_eq_true, not_true_eq_false, forall_const, Option.isSome_some, false_implies, implies_true, hput_1, hnew_1, vcat1, Nat.le_refl, Nat.not_lt_zero, Nat.lt_irrefl, hput_eq, hput_ne, hput_put, DX6_init, DX6_init_0, TX6_init, FT_6, MT_6, SC_6, DX4_init, OI_a, AC_a, NT_a, hd, atn, a, hnew_if, hput_if, hn, zr0, zr1, if_neg, if_pos, ini]
  refine ⟨8, rfl, by omega, by omega, ?_⟩
  refine V_walk [32] 40 ?_
  simp (disch := first | omega | assumption) only [↓wstep, ↓wq_s, ↓wq_0, stp, ↓WR0, ↓WR1, ↓WR2, ↓WR3, ↓WR4, ↓WR5, ↓WR6, ↓WR7, ↓WR8, ↓WR9, ↓WR10, ↓WR11, ↓WR12, WI0, WI1, WI2, WI3, fv_0, fv_1, fv_2, fv_3, lkI_0, lkI_1, kip, kin, tgp, tkp, tgn, tkn, bip, bin, sip, lget, lset1, lset2, lcat2, ↓ws_get, ↓ws_put, ws_cell, ws_cell1, ws_hcell, ws_hcell3, ws_hcell1, ↓cellOf, ↓ws_call, ↓ws_callS, ↓ws_oi, ↓ws_ac, ↓ws_mm, ↓ws_post, ↓ws_exc, popN, rok, clsAt, cnOf, catS_nil, catS_i, catS_r, catS_n, catS_l, catS_d, catS_f, nokc, Option.toList_none, Option.toList_some, List.cons_append, List.nil_append, List.length_cons, List.length_nil, List.set_cons_zero, List.set_cons_succ, List.getElem?_cons_zero, List.getElem?_cons_succ, Nat.reduceAdd, Nat.reduceSub, Nat.reduceMul, Nat.reduceEqDiff, Nat.reduceLeDiff, Nat.reduceLT, Nat.reduceDiv, Bool.false_eq_true, ↓reduceIte, true_and, and_true, false_and, and_false, reduceCtorEq, if_true, Nat.zero_add, cl, lt_nI, le_nI, eq_nI, in_nI, z_nI, retok, or_true, true_or, false_or, or_false, Nat.one_ne_zero, ne_eq, not_false_eq_true, not_true_eq_false, forall_const, Option.isSome_some, false_implies, implies_true, hput_1, hnew_1, vcat1, Nat.le_refl, Nat.not_lt_zero, Nat.lt_irrefl, hput_eq, hput_ne, hput_put, DX6_init, DX6_init_0, TX6_init, FT_6, MT_6, SC_6, DX4_init, OI_a, AC_a, NT_a, hd, atn, a, hnew_if, hput_if, hn, zr0, zr1, if_neg, if_pos, ini]
  have hh : ∀ h', h'.1 = s + 3 → h'.2 s = some (.inr (4, [.ref (s + 1), .ref (s + 2), .int (nI 0), .int (nI 0)])) → h'.2 (s + 1) = some (.inl (5, 4, .inr (.inr (.inr (.inr (rfk s 0)))))) → h'.2 (s + 2) = some (.inl (0, 8, .inl (fun _ => nI 0))) → (∀ b, b < s ∨ s + 3 ≤ b → h'.2 b = h.2 b) → V G mX6_init d 16 388 32 [some (.ref s), some (.int (nI 0))] [] h' Q := fun h' k1 k2 k3 k4 k5 => by
    refine l_sinit hd 4 0 h' 16 388 (by omega) (by omega) (by omega) (by omega) k2 k3 k4 (fun i hi => absurd hi (Nat.not_lt_zero _)) (fun h2 f2 a2 => hq h2 ⟨f2.1, fun b hb => (f2.2 b hb).trans (k5 b (by omega))⟩ a2)
  refine hh _ ?_ ?_ ?_ ?_ ?_
  · simp only [hput_1, hnew_1, hn]
  · simp only [hput_if, hnew_if, hput_1, hnew_1, hn, if_true]
  · simp (disch := omega) only [hput_if, hnew_if, hput_1, hnew_1, hn, if_neg, if_pos]
    exact congrArg (fun f => some (Sum.inl (5, 4, Sum.inr (Sum.inr (Sum.inr (Sum.inr f)))))) (funext fun i => (if_neg (Nat.not_lt_zero _)).symm)
  · simp (disch := omega) only [hput_if, hnew_if, hput_1, hnew_1, hn, if_neg, if_pos, if_true]
  · intro b hb
    simp only [hput_if, hnew_if, hput_1, hnew_1, hn]
    rw [if_neg (by omega), if_neg (by omega), if_neg (by omega), if_neg (by omega)]
