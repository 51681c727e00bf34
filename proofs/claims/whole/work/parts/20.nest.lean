/-! ===== the class's Nest: pens by index; a nest's cells; its methods ===== -/
/-- number, feather, date -/
abbrev Pen : Type := Int32 × Fin 65536 × Int32
abbrev Pens : Type := Nat → Pen
def nums (p : Pens) : Nat → Int32 := fun k => (p k).1
def feas (p : Pens) : Nat → Int32 := fun k => nI (p k).2.1.val
def dats (p : Pens) : Nat → Int32 := fun k => (p k).2.2
/-- a nest at n: its size, its exchanges, its pens -/
def AtN (h : Hp) (n sz ex : Nat) (p : Pens) : Prop :=
  h.2 n = some (.inr (2, [.ref (n + 1), .ref (n + 2), .ref (n + 3), .int (nI sz), .long (lN ex)])) ∧ h.2 (n + 1) = some (.inl (0, 24, .inl (nums p))) ∧ h.2 (n + 2) = some (.inl (1, 24, .inl (feas p))) ∧ h.2 (n + 3) = some (.inl (0, 24, .inl (dats p)))
theorem AtN.mv {h h' : Hp} {n sz ex lo hi : Nat} {p : Pens} (a : AtN h n sz ex p) (f : Fm h h' lo hi) (hd : n + 4 ≤ lo ∨ hi ≤ n) : AtN h' n sz ex p := by
  obtain ⟨h1, h2, h3, h4⟩ := a
  exact ⟨(f.2 _ (by omega)).trans h1, (f.2 _ (by omega)).trans h2, (f.2 _ (by omega)).trans h3, (f.2 _ (by omega)).trans h4⟩
def sharp (a b : Pen) : Bool := decide (a.2.2 < b.2.2) || (decide (a.2.2 = b.2.2) && decide (a.1 < b.1))
def swp (p : Pens) (i j : Nat) : Pens := fun k => if k = j then p i else if k = i then p j else p k
theorem nch (q : Fin 65536) : vp_nar .char (nI q.val) = nI q.val := by
  have h := (pk_charN q.isLt).1
  unfold vp_nar
  rw [h]
/-- a truth value on the machine -/
def bI1 (b : Bool) : Int32 := if b = true then nI 1 else nI 0
theorem bI1_t : bI1 true = nI 1 := rfl
theorem bI1_f : bI1 false = nI 0 := rfl
theorem bI1_0 (b : Bool) : (bI1 b = nI 0) = (b = false) := by cases b <;> decide
set_option maxRecDepth 20000 in
set_option maxHeartbeats 4000000 in
theorem c_isSharper {G : GT} {h : Hp} {n sz ex i j d : Nat} {p : Pens} {Q : RT → Hp → Prop} (a : AtN h n sz ex p) (hi : i < 24) (hj : j < 24) (hq : Q (.inl (some (.int (bI1 (sharp (p i) (p j)))))) h) : Ct G mX4_isSharper d 0 0 [.ref n, .int (nI i), .int (nI j)] h Q := by
  obtain ⟨h0, h1, h2, h3⟩ := a
  refine Ct.of rfl rfl (Nat.le_of_ble_eq_true rfl) ?_
  show V G mX4_isSharper _ _ _ 0 [some (.ref n), some (.int (nI i)), some (.int (nI j))] [] h Q
  refine V_walk [] 60 ?_
  simp (disch := first | omega | assumption) only [↓wstep, ↓wq_s, ↓wq_0, stp, ↓WR0, ↓WR1, ↓WR2, ↓WR3, ↓WR4, ↓WR5, ↓WR6, ↓WR7, ↓WR8, ↓WR9, ↓WR10, ↓WR11, ↓WR12, WI0, WI1, WI2, WI3, fv_0, fv_1, fv_2, fv_3, lkI_0, lkI_1, kip, kin, tgp, tkp, tgn, tkn, bip, bin, sip, lget, lset1, lset2, lcat2, ↓ws_get, ↓ws_put, ws_cell, ws_cell1, ws_hcell, ws_hcell3, ws_hcell1, ↓cellOf, ↓ws_call, ↓ws_callS, ↓ws_oi, ↓ws_ac, ↓ws_mm, ↓ws_post, ↓ws_exc, popN, rok, clsAt, cnOf, catS_nil, catS_i, catS_r, catS_n, catS_l, catS_d, catS_f, nokc, Option.toList_none, Option.toList_some, List.cons_append, List.nil_append, List.length_cons, List.length_nil, List.set_cons_zero, List.set_cons_succ, List.getElem?_cons_zero, List.getElem?_cons_succ, Nat.reduceAdd, Nat.reduceSub, Nat.reduceMul, Nat.reduceEqDiff, Nat.reduceLeDiff, Nat.reduceLT, Nat.reduceDiv, Bool.false_eq_true, ↓reduceIte, true_and, and_true, false_and, and_false, reduceCtorEq, if_true, Nat.zero_add, cl, lt_nI, le_nI, eq_nI, in_nI, z_nI, retok, or_true, true_or, false_or, or_false, Nat.one_ne_zero, ne_eq, not_false_eq_true, not_true_eq_false, forall_const, Option.isSome_some, false_implies, implies_true, hput_1, hnew_1, vcat1, Nat.le_refl, Nat.not_lt_zero, Nat.lt_irrefl, hput_eq, hput_ne, hput_put, DX4_isSharper, DX4_isSharper_0, TX4_isSharper, FT_4, MT_4, SC_4, OI_a, AC_a, NT_a, h0, h1, h2, h3]
  unfold sharp at hq
  refine ⟨fun c => ?_, fun c => ⟨fun c1 => ?_, fun c1 => ⟨fun c2 => ?_, fun c2 => ?_⟩⟩⟩ <;> dsimp only [dats, nums] at *
  · simpa [*, bI1] using hq
  · simpa [*, bI1] using hq
  · have c3 := Int32.not_lt.mpr c2
    simpa [*, bI1] using hq
  · have c3 := Int32.not_le.mp c2
    simpa [*, bI1] using hq
theorem fch (p : Pens) (i : Nat) : vp_nar .char (feas p i) = feas p i := nch _
theorem nums_swp (p : Pens) (i j : Nat) : upd (upd (nums p) i (nums p j)) j (nums p i) = nums (swp p i j) := by
  funext k; simp only [upd, nums, swp]; split <;> (try split) <;> rfl
theorem feas_swp (p : Pens) (i j : Nat) : upd (upd (feas p) i (feas p j)) j (feas p i) = feas (swp p i j) := by
  funext k; simp only [upd, feas, swp]; split <;> (try split) <;> rfl
theorem dats_swp (p : Pens) (i j : Nat) : upd (upd (dats p) i (dats p j)) j (dats p i) = dats (swp p i j) := by
  funext k; simp only [upd, dats, swp]; split <;> (try split) <;> rfl
set_option maxRecDepth 20000 in
set_option maxHeartbeats 4000000 in
theorem c_swap {G : GT} {h : Hp} {n sz ex i j d : Nat} {p : Pens} {Q : RT → Hp → Prop} (a : AtN h n sz ex p) (hi : i < 24) (hj : j < 24) (hq : ∀ h', Fm h h' n (n + 4) → AtN h' n sz ex (swp p i j) → Q (.inl none) h') : Ct G mX4_swap d 0 0 [.ref n, .int (nI i), .int (nI j)] h Q := by
  obtain ⟨h0, h1, h2, h3⟩ := a
  refine Ct.of rfl rfl (Nat.le_of_ble_eq_true rfl) ?_
  show V G mX4_swap _ _ _ 0 [some (.ref n), some (.int (nI i)), some (.int (nI j)), none, none, none] [] h Q
  refine V_walk [] 60 ?_
  simp (disch := first | omega | assumption) only [↓wstep, ↓wq_s, ↓wq_0, stp, ↓WR0, ↓WR1, ↓WR2, ↓WR3, ↓WR4, ↓WR5, ↓WR6, ↓WR7, ↓WR8, ↓WR9, ↓WR10, ↓WR11, ↓WR12, WI0, WI1, WI2, WI3, fv_0, fv_1, fv_2, fv_3, lkI_0, lkI_1, kip, kin, tgp, tkp, tgn, tkn, bip, bin, sip, lget, lset1, lset2, lcat2, ↓ws_get, ↓ws_put, ws_cell, ws_cell1, ws_hcell, ws_hcell3, ws_hcell1, ↓cellOf, ↓ws_call, ↓ws_callS, ↓ws_oi, ↓ws_ac, ↓ws_mm, ↓ws_post, ↓ws_exc, popN, rok, clsAt, cnOf, catS_nil, catS_i, catS_r, catS_n, catS_l, catS_d, catS_f, nokc, Option.toList_none, Option.toList_some, List.cons_append, List.nil_append, List.length_cons, List.length_nil, List.set_cons_zero, List.set_cons_succ, List.getElem?_cons_zero, List.getElem?_cons_succ, Nat.reduceAdd, Nat.reduceSub, Nat.reduceMul, Nat.reduceEqDiff, Nat.reduceLeDiff, Nat.reduceLT, Nat.reduceDiv, Bool.false_eq_true, ↓reduceIte, true_and, and_true, false_and, and_false, reduceCtorEq, if_true, Nat.zero_add, cl, lt_nI, le_nI, eq_nI, in_nI, z_nI, retok, or_true, true_or, false_or, or_false, Nat.one_ne_zero, ne_eq, not_false_eq_true, not_true_eq_false, forall_const, Option.isSome_some, false_implies, implies_true, hput_1, hnew_1, vcat1, Nat.le_refl, Nat.not_lt_zero, Nat.lt_irrefl, hput_eq, hput_ne, hput_put, DX4_swap, DX4_swap_0, TX4_swap, FT_4, MT_4, SC_4, OI_a, AC_a, NT_a, h0, h1, h2, h3]
  refine hq _ ⟨rfl, fun b hb => ?_⟩ ⟨?_, ?_, ?_, ?_⟩
  · simp (disch := omega) only [hput_ne]
  · simp (disch := omega) only [hput_ne, h0]
  · simp (disch := omega) only [hput_ne, hput_eq, nums_swp]
  · simp (disch := omega) only [hput_ne, hput_eq, fch, feas_swp]
  · simp (disch := omega) only [hput_ne, hput_eq, dats_swp]
