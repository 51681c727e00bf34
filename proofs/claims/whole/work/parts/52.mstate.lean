/-! ===== the model: the state in the row; finding a pen ===== -/
def exT (S : St) : Nat := (S.2.2.2 0).2.1 + (S.2.2.2 1).2.1 + (S.2.2.2 2).2.1 + (S.2.2.2 3).2.1
/-- the row tells the state -/
def Ag (f : Nat → Int32) (S : St) : Prop := f 0 = S.1 ∧ f 1 = S.2.1 ∧ f 2 = nI (exT S) ∧ (∀ k, k < 8 → f (3 + k) = S.2.2.1 k) ∧ (∀ i, i < 4 → f (11 + i) = nI (S.2.2.2 i).1) ∧ ∀ i, i < 4 → NA f i (S.2.2.2 i).1 (S.2.2.2 i).2.2
def DtS (S : St) : Prop := ∀ i, i < 4 → Dts (S.2.2.2 i).1 (S.2.2.2 i).2.2
/-- no two pens have one number -/
def Dis (S : St) : Prop := ∀ i j i' j', i < 4 → j < (S.2.2.2 i).1 → i' < 4 → j' < (S.2.2.2 i').1 → ((S.2.2.2 i).2.2 j).1 = ((S.2.2.2 i').2.2 j').1 → i = i' ∧ j = j'
/-- what the model's walk leans on -/
def OkS (S : St) : Prop := tot S ≤ 24 ∧ FeaS S ∧ DtS S ∧ Dis S ∧ ¬ S.1 < nI 0
theorem i4 {i : Nat} (h : i < 4) : i = 0 ∨ i = 1 ∨ i = 2 ∨ i = 3 := by omega
theorem exT_sN {S : St} {i : Nat} {N : Nt} (hi : i < 4) : exT (sN S i N) + (S.2.2.2 i).2.1 = exT S + N.2.1 := by
  unfold exT sN fu
  rcases i4 hi with rfl | rfl | rfl | rfl <;> simp <;> omega
theorem Ag.nt {f f' : Nat → Int32} {S : St} {i k : Nat} {N : Nt} (a : Ag f S) (ht : tot S ≤ 24) (hi : i < 4) (z : f' (11 + i) = nI N.1) (n : NA f' i N.1 N.2.2) (e : f' 2 = f 2 + nI k) (fr : FrA f f' i) (hN : N.2.1 = (S.2.2.2 i).2.1 + k) : Ag f' (sN S i N) := by
  obtain ⟨a0, a1, a2, a3, a4, a5⟩ := a
  refine ⟨(fr 0 (by omega) (by omega) (by omega)).trans a0, (fr 1 (by omega) (by omega) (by omega)).trans a1, ?_, fun k hk => (fr _ (by omega) (by omega) (by omega)).trans (a3 k hk), fun j hj => ?_, fun j hj => ?_⟩
  · rw [e, a2, nI_add]
    have := exT_sN (S := S) (N := N) hi
    congr 1; omega
  · by_cases c : j = i
    · subst c; rw [show (sN S j N).2.2.2 j = N from fu_eq _ _ _]; exact z
    · rw [show (sN S i N).2.2.2 j = S.2.2.2 j from fu_ne c]; exact (fr _ (by omega) (by omega) (by omega)).trans (a4 j hj)
  · by_cases c : j = i
    · subst c; rw [show (sN S j N).2.2.2 j = N from fu_eq _ _ _]; exact n
    · rw [show (sN S i N).2.2.2 j = S.2.2.2 j from fu_ne c]
      have hz := tot_le ht hj
      have hq : ∀ q, q < 72 → f' (15 + 72 * j + q) = f (15 + 72 * j + q) := fun q hq => fr _ (by omega) (by omega) (by omega)
      intro l hl
      have p := a5 j hj l hl
      exact ⟨(hq (3 * l) (by omega)).trans p.1, (hq (3 * l + 1) (by omega)).trans p.2.1, (hq (3 * l + 2) (by omega)).trans p.2.2⟩
theorem Ag.cg {f f' : Nat → Int32} {S : St} (a : Ag f S) (ht : tot S ≤ 24) (e : ∀ k, k < 303 → f' k = f k) : Ag f' S := by
  obtain ⟨a0, a1, a2, a3, a4, a5⟩ := a
  refine ⟨(e _ (by omega)).trans a0, (e _ (by omega)).trans a1, (e _ (by omega)).trans a2, fun k hk => (e _ (by omega)).trans (a3 k hk), fun i hi => (e _ (by omega)).trans (a4 i hi), fun i hi j hj => ?_⟩
  have hz := tot_le ht hi
  have p := a5 i hi j hj
  exact ⟨(e _ (by omega)).trans p.1, (e _ (by omega)).trans p.2.1, (e _ (by omega)).trans p.2.2⟩
theorem Ag.u0 {f : Nat → Int32} {S : St} {v : Int32} (a : Ag f S) : Ag (upd f 0 v) (v, S.2) := by
  obtain ⟨a0, a1, a2, a3, a4, a5⟩ := a
  have e : ∀ q, 0 < q → upd f 0 v q = f q := fun q h => pk_un (by omega)
  exact ⟨pk_us, (e _ (by omega)).trans a1, (e _ (by omega)).trans a2, fun k hk => (e _ (by omega)).trans (a3 k hk), fun i hi => (e _ (by omega)).trans (a4 i hi), fun i hi j hj => ⟨(e _ (by omega)).trans (a5 i hi j hj).1, (e _ (by omega)).trans (a5 i hi j hj).2.1, (e _ (by omega)).trans (a5 i hi j hj).2.2⟩⟩
theorem Ag.u1 {f : Nat → Int32} {S : St} {v : Int32} (a : Ag f S) : Ag (upd f 1 v) (S.1, v, S.2.2) := by
  obtain ⟨a0, a1, a2, a3, a4, a5⟩ := a
  have e : ∀ q, q ≠ 1 → upd f 1 v q = f q := fun q h => pk_un h
  exact ⟨(e _ (by omega)).trans a0, pk_us, (e _ (by omega)).trans a2, fun k hk => (e _ (by omega)).trans (a3 k hk), fun i hi => (e _ (by omega)).trans (a4 i hi), fun i hi j hj => ⟨(e _ (by omega)).trans (a5 i hi j hj).1, (e _ (by omega)).trans (a5 i hi j hj).2.1, (e _ (by omega)).trans (a5 i hi j hj).2.2⟩⟩
theorem Ag.ui {f : Nat → Int32} {S : St} {v : Int32} {k : Nat} (a : Ag f S) (hk : k < 8) : Ag (upd f (3 + k) v) (S.1, S.2.1, fu S.2.2.1 k v, S.2.2.2) := by
  obtain ⟨a0, a1, a2, a3, a4, a5⟩ := a
  have e : ∀ q, q ≠ 3 + k → upd f (3 + k) v q = f q := fun q h => pk_un h
  refine ⟨(e _ (by omega)).trans a0, (e _ (by omega)).trans a1, (e _ (by omega)).trans a2, fun l hl => ?_, fun i hi => (e _ (by omega)).trans (a4 i hi), fun i hi j hj => ⟨(e _ (by omega)).trans (a5 i hi j hj).1, (e _ (by omega)).trans (a5 i hi j hj).2.1, (e _ (by omega)).trans (a5 i hi j hj).2.2⟩⟩
  by_cases c : l = k
  · subst c
    rw [pk_us]
    exact (fu_eq _ _ _).symm
  · rw [e _ (by omega), a3 l hl]
    exact (fu_ne c).symm
theorem ff_some {f : Nat → Bool} : ∀ {r i j : Nat}, ff f r i = some j → f j = true
  | 0, _, _, h => by cases h
  | r + 1, i, j, h => by
    rw [ff] at h
    by_cases c : f i = true
    · rw [if_pos c] at h; cases h; exact c
    · rw [if_neg c] at h; exact ff_some h
theorem ff_none {f : Nat → Bool} : ∀ {r i j : Nat}, ff f r i = none → i ≤ j → j < i + r → ¬ f j = true
  | 0, _, _, _, h1, h2 => by omega
  | r + 1, i, j, h, h1, h2 => by
    rw [ff] at h
    by_cases c : f i = true
    · rw [if_pos c] at h; cases h
    · rw [if_neg c] at h
      by_cases e : j = i
      · subst e; exact c
      · exact ff_none h (by omega) (by omega)
theorem ixw_pen {x : Int32} {N : Nt} {j : Nat} (h : ixw x N = some j) : (N.2.2 j).1 = x := by
  have := ff_some h
  simpa using this
theorem nsw_ixn {x : Int32} {S : St} {i : Nat} (h : nsw x S = some i) : i < 4 ∧ ixn x (S.2.2.2 i) < (S.2.2.2 i).1 ∧ ((S.2.2.2 i).2.2 (ixn x (S.2.2.2 i))).1 = x := by
  obtain ⟨hi, j, hj⟩ := nsw_ex h
  have e : ixn x (S.2.2.2 i) = j := by unfold ixn; rw [hj]; rfl
  rw [e]
  exact ⟨hi, ixw_lt hj, ixw_pen hj⟩
theorem nsw_of {x : Int32} {S : St} {i j : Nat} (D : Dis S) (hi : i < 4) (hj : j < (S.2.2.2 i).1) (e : ((S.2.2.2 i).2.2 j).1 = x) : nsw x S = some i ∧ ixn x (S.2.2.2 i) = j := by
  have hx : (ixw x (S.2.2.2 i)).isSome = true := by
    cases h : ixw x (S.2.2.2 i) with
    | some _ => rfl
    | none => exact absurd (show (fun k => ((S.2.2.2 i).2.2 k).1 == x) j = true by simpa using e) (ff_none h (Nat.zero_le _) (by omega))
  have hn : ∃ i', nsw x S = some i' := by
    unfold nsw
    by_cases c0 : (ixw x (S.2.2.2 0)).isSome = true
    · exact ⟨0, if_pos c0⟩
    · rw [if_neg c0]
      by_cases c1 : (ixw x (S.2.2.2 1)).isSome = true
      · exact ⟨1, if_pos c1⟩
      · rw [if_neg c1]
        by_cases c2 : (ixw x (S.2.2.2 2)).isSome = true
        · exact ⟨2, if_pos c2⟩
        · rw [if_neg c2]
          by_cases c3 : (ixw x (S.2.2.2 3)).isSome = true
          · exact ⟨3, if_pos c3⟩
          · exfalso
            rcases i4 hi with rfl | rfl | rfl | rfl
            · exact c0 hx
            · exact c1 hx
            · exact c2 hx
            · exact c3 hx
  obtain ⟨i', hi'⟩ := hn
  obtain ⟨k1, k2, k3⟩ := nsw_ixn hi'
  obtain ⟨e1, e2⟩ := D i' _ i j k1 k2 hi hj (k3.trans e.symm)
  subst e1
  exact ⟨hi', e2⟩
/-- what has been found ahead of place (i, j) -/
def fnd (x : Int32) (S : St) (i j : Nat) : Int32 := match nsw x S with
  | none => -nI 1
  | some i0 => if i0 < i ∨ (i0 = i ∧ ixn x (S.2.2.2 i0) < j) then nI (15 + 72 * i0 + 3 * ixn x (S.2.2.2 i0)) else -nI 1
theorem fnd_yes {x : Int32} {S : St} {i j : Nat} (D : Dis S) (hi : i < 4) (hj : j < (S.2.2.2 i).1) (e : ((S.2.2.2 i).2.2 j).1 = x) : fnd x S i (j + 1) = nI (15 + 72 * i + 3 * j) := by
  obtain ⟨h1, h2⟩ := nsw_of D hi hj e
  unfold fnd
  rw [h1]
  dsimp only
  rw [h2, if_pos (by omega)]
theorem fnd_no {x : Int32} {S : St} {i j : Nat} (e : ¬ ((S.2.2.2 i).2.2 j).1 = x) : fnd x S i (j + 1) = fnd x S i j := by
  unfold fnd
  cases h : nsw x S with
  | none => rfl
  | some i0 =>
    dsimp only
    obtain ⟨k1, k2, k3⟩ := nsw_ixn h
    by_cases c : i0 < i ∨ (i0 = i ∧ ixn x (S.2.2.2 i0) < j)
    · rw [if_pos c, if_pos (by omega)]
    · rw [if_neg c, if_neg]
      intro q
      rcases q with q | ⟨q1, q2⟩
      · exact c (Or.inl q)
      · subst q1
        have : ixn x (S.2.2.2 i0) = j := by omega
        rw [this] at k3
        exact e k3
theorem fnd_row {x : Int32} {S : St} {i : Nat} : fnd x S (i + 1) 0 = fnd x S i (S.2.2.2 i).1 := by
  unfold fnd
  cases h : nsw x S with
  | none => rfl
  | some i0 =>
    dsimp only
    obtain ⟨k1, k2, k3⟩ := nsw_ixn h
    by_cases c : i0 < i + 1
    · rw [if_pos (Or.inl c), if_pos]
      by_cases e : i0 = i
      · subst e; exact Or.inr ⟨rfl, k2⟩
      · exact Or.inl (by omega)
    · rw [if_neg (by omega), if_neg (by omega)]
theorem fnd_0 {x : Int32} {S : St} : fnd x S 0 0 = -nI 1 := by
  unfold fnd
  cases h : nsw x S with
  | none => rfl
  | some i0 => dsimp only; rw [if_neg (by omega)]
theorem fnd_4 {x : Int32} {S : St} : fnd x S 4 0 = match nsw x S with
    | none => -nI 1
    | some i0 => nI (15 + 72 * i0 + 3 * ixn x (S.2.2.2 i0)) := by
  unfold fnd
  cases h : nsw x S with
  | none => rfl
  | some i0 => dsimp only; rw [if_pos (Or.inl (nsw_ixn h).1)]
set_option maxRecDepth 20000 in
set_option maxHeartbeats 4000000 in
theorem l_find1 {G : GT} {M i d : Nat} {o : MO} {x : Int32} {f : Nat → Int32} {S : St} {h : Hp} {Q : RT → Hp → Prop} (hd : 1 ≤ d) (hi : i < 4) (ht : tot S ≤ 24) (D : Dis S) (a0 : h.2 M = some (mO M o)) (a1 : h.2 (M + 1) = some (.inl (0, 303, .inl f))) (ag : Ag f S) : ∀ (r j : Nat), j + r = (S.2.2.2 i).1 → (∀ y4, V G mX8_find d 0 0 54 [some (.ref M), some (.int x), some (.int (fnd x S (i + 1) 0)), some (.int (nI i)), y4] [] h Q) → V G mX8_find d 0 0 12 [some (.ref M), some (.int x), some (.int (fnd x S i j)), some (.int (nI i)), some (.int (nI j))] [] h Q := by
  have b0 := a0
  unfold mO at b0
  have hz := tot_le ht hi
  have z := ag.2.2.2.2.1 i hi
  intro r
  induction r with
  | zero =>
    intro j hj hq
    obtain rfl : j = (S.2.2.2 i).1 := by omega
    rw [← fnd_row]
    refine V_walk [54] 20 ?_
    simp (disch := first | omega | assumption) only [↓wstep, ↓wq_s, ↓wq_0, stp, ↓WR0, ↓WR1, ↓WR2, ↓WR3, ↓WR4, ↓WR5, ↓WR6, ↓WR7, ↓WR8, ↓WR9, ↓WR10, ↓WR11, ↓WR12, WI0, WI1, WI2, WI3, fv_0, fv_1, fv_2, fv_3, lkI_0, lkI_1, kip, kin, tgp, tkp, tgn, tkn, bip, bin, sip, lget, lset1, lset2, lcat2, ↓ws_get, ↓ws_put, ws_cell, ws_cell1, ws_hcell, ws_hcell3, ws_hcell1, ↓cellOf, ↓ws_call, ↓ws_callS, ↓ws_oi, ↓ws_ac, ↓ws_mm, ↓ws_post, ↓ws_exc, popN, rok, clsAt, cnOf, catS_nil, catS_i, catS_r, catS_n, catS_l, catS_d, catS_f, nokc, Option.toList_none, Option.toList_some, List.cons_append, List.nil_append, List.length_cons, List.length_nil, List.set_cons_zero, List.set_cons_succ, List.getElem?_cons_zero, List.getElem?_cons_succ, Nat.reduceAdd, Nat.reduceSub, Nat.reduceMul, Nat.reduceEqDiff, Nat.reduceLeDiff, Nat.reduceLT, Nat.reduceDiv, Bool.false_eq_true, ↓reduceIte, true_and, and_true, false_and, and_false, reduceCtorEq, if_true, Nat.zero_add, cl, lt_nI, le_nI, eq_nI, in_nI, z_nI, retok, or_true, true_or, false_or, or_false, Nat.one_ne_zero, ne_eq, not_false_eq_true, not_true_eq_false, forall_const, Option.isSome_some, false_implies, implies_true, hput_1, hnew_1, vcat1, Nat.le_refl, Nat.not_lt_zero, Nat.lt_irrefl, hput_eq, hput_ne, hput_put, DX8_find, DX8_find_0, TX8_find, FT_8, MT_8, SC_8, DX8_many, DX8_place, OI_a, AC_a, NT_a, b0]
    refine CtE.of0 hd (c_many hi a0 a1 ?_)
    rw [z]
    simp (disch := first | omega | assumption) only [↓wstep, ↓wq_s, ↓wq_0, stp, ↓WR0, ↓WR1, ↓WR2, ↓WR3, ↓WR4, ↓WR5, ↓WR6, ↓WR7, ↓WR8, ↓WR9, ↓WR10, ↓WR11, ↓WR12, WI0, WI1, WI2, WI3, fv_0, fv_1, fv_2, fv_3, lkI_0, lkI_1, kip, kin, tgp, tkp, tgn, tkn, bip, bin, sip, lget, lset1, lset2, lcat2, ↓ws_get, ↓ws_put, ws_cell, ws_cell1, ws_hcell, ws_hcell3, ws_hcell1, ↓cellOf, ↓ws_call, ↓ws_callS, ↓ws_oi, ↓ws_ac, ↓ws_mm, ↓ws_post, ↓ws_exc, popN, rok, clsAt, cnOf, catS_nil, catS_i, catS_r, catS_n, catS_l, catS_d, catS_f, nokc, Option.toList_none, Option.toList_some, List.cons_append, List.nil_append, List.length_cons, List.length_nil, List.set_cons_zero, List.set_cons_succ, List.getElem?_cons_zero, List.getElem?_cons_succ, Nat.reduceAdd, Nat.reduceSub, Nat.reduceMul, Nat.reduceEqDiff, Nat.reduceLeDiff, Nat.reduceLT, Nat.reduceDiv, Bool.false_eq_true, ↓reduceIte, true_and, and_true, false_and, and_false, reduceCtorEq, if_true, Nat.zero_add, cl, lt_nI, le_nI, eq_nI, in_nI, z_nI, retok, or_true, true_or, false_or, or_false, Nat.one_ne_zero, ne_eq, not_false_eq_true, not_true_eq_false, forall_const, Option.isSome_some, false_implies, implies_true, hput_1, hnew_1, vcat1, Nat.le_refl, Nat.not_lt_zero, Nat.lt_irrefl, hput_eq, hput_ne, hput_put, DX8_find, DX8_find_0, TX8_find, FT_8, MT_8, SC_8, DX8_many, DX8_place, OI_a, AC_a, NT_a]
    exact hq _
  | succ r ih =>
    intro j hj hq
    have hjl : j < (S.2.2.2 i).1 := by omega
    have p := (ag.2.2.2.2.2 i hi j hjl).1
    have h1 : 15 + 72 * i + 3 * j < 303 := by omega
    refine V_walk [54, 47] 20 ?_
    simp (disch := first | omega | assumption) only [↓wstep, ↓wq_s, ↓wq_0, stp, ↓WR0, ↓WR1, ↓WR2, ↓WR3, ↓WR4, ↓WR5, ↓WR6, ↓WR7, ↓WR8, ↓WR9, ↓WR10, ↓WR11, ↓WR12, WI0, WI1, WI2, WI3, fv_0, fv_1, fv_2, fv_3, lkI_0, lkI_1, kip, kin, tgp, tkp, tgn, tkn, bip, bin, sip, lget, lset1, lset2, lcat2, ↓ws_get, ↓ws_put, ws_cell, ws_cell1, ws_hcell, ws_hcell3, ws_hcell1, ↓cellOf, ↓ws_call, ↓ws_callS, ↓ws_oi, ↓ws_ac, ↓ws_mm, ↓ws_post, ↓ws_exc, popN, rok, clsAt, cnOf, catS_nil, catS_i, catS_r, catS_n, catS_l, catS_d, catS_f, nokc, Option.toList_none, Option.toList_some, List.cons_append, List.nil_append, List.length_cons, List.length_nil, List.set_cons_zero, List.set_cons_succ, List.getElem?_cons_zero, List.getElem?_cons_succ, Nat.reduceAdd, Nat.reduceSub, Nat.reduceMul, Nat.reduceEqDiff, Nat.reduceLeDiff, Nat.reduceLT, Nat.reduceDiv, Bool.false_eq_true, ↓reduceIte, true_and, and_true, false_and, and_false, reduceCtorEq, if_true, Nat.zero_add, cl, lt_nI, le_nI, eq_nI, in_nI, z_nI, retok, or_true, true_or, false_or, or_false, Nat.one_ne_zero, ne_eq, not_false_eq_true, not_true_eq_false, forall_const, Option.isSome_some, false_implies, implies_true, hput_1, hnew_1, vcat1, Nat.le_refl, Nat.not_lt_zero, Nat.lt_irrefl, hput_eq, hput_ne, hput_put, DX8_find, DX8_find_0, TX8_find, FT_8, MT_8, SC_8, DX8_many, DX8_place, OI_a, AC_a, NT_a, b0]
    refine CtE.of0 hd (c_many hi a0 a1 ?_)
    rw [z]
    simp (disch := first | omega | assumption) only [↓wstep, ↓wq_s, ↓wq_0, stp, ↓WR0, ↓WR1, ↓WR2, ↓WR3, ↓WR4, ↓WR5, ↓WR6, ↓WR7, ↓WR8, ↓WR9, ↓WR10, ↓WR11, ↓WR12, WI0, WI1, WI2, WI3, fv_0, fv_1, fv_2, fv_3, lkI_0, lkI_1, kip, kin, tgp, tkp, tgn, tkn, bip, bin, sip, lget, lset1, lset2, lcat2, ↓ws_get, ↓ws_put, ws_cell, ws_cell1, ws_hcell, ws_hcell3, ws_hcell1, ↓cellOf, ↓ws_call, ↓ws_callS, ↓ws_oi, ↓ws_ac, ↓ws_mm, ↓ws_post, ↓ws_exc, popN, rok, clsAt, cnOf, catS_nil, catS_i, catS_r, catS_n, catS_l, catS_d, catS_f, nokc, Option.toList_none, Option.toList_some, List.cons_append, List.nil_append, List.length_cons, List.length_nil, List.set_cons_zero, List.set_cons_succ, List.getElem?_cons_zero, List.getElem?_cons_succ, Nat.reduceAdd, Nat.reduceSub, Nat.reduceMul, Nat.reduceEqDiff, Nat.reduceLeDiff, Nat.reduceLT, Nat.reduceDiv, Bool.false_eq_true, ↓reduceIte, true_and, and_true, false_and, and_false, reduceCtorEq, if_true, Nat.zero_add, cl, lt_nI, le_nI, eq_nI, in_nI, z_nI, retok, or_true, true_or, false_or, or_false, Nat.one_ne_zero, ne_eq, not_false_eq_true, not_true_eq_false, forall_const, Option.isSome_some, false_implies, implies_true, hput_1, hnew_1, vcat1, Nat.le_refl, Nat.not_lt_zero, Nat.lt_irrefl, hput_eq, hput_ne, hput_put, DX8_find, DX8_find_0, TX8_find, FT_8, MT_8, SC_8, DX8_many, DX8_place, OI_a, AC_a, NT_a, b0]
    refine ⟨fun c => by omega, fun _ => CtE.of0 hd (c_place ?_)⟩
    simp (disch := first | omega | assumption) only [↓wstep, ↓wq_s, ↓wq_0, stp, ↓WR0, ↓WR1, ↓WR2, ↓WR3, ↓WR4, ↓WR5, ↓WR6, ↓WR7, ↓WR8, ↓WR9, ↓WR10, ↓WR11, ↓WR12, WI0, WI1, WI2, WI3, fv_0, fv_1, fv_2, fv_3, lkI_0, lkI_1, kip, kin, tgp, tkp, tgn, tkn, bip, bin, sip, lget, lset1, lset2, lcat2, ↓ws_get, ↓ws_put, ws_cell, ws_cell1, ws_hcell, ws_hcell3, ws_hcell1, ↓cellOf, ↓ws_call, ↓ws_callS, ↓ws_oi, ↓ws_ac, ↓ws_mm, ↓ws_post, ↓ws_exc, popN, rok, clsAt, cnOf, catS_nil, catS_i, catS_r, catS_n, catS_l, catS_d, catS_f, nokc, Option.toList_none, Option.toList_some, List.cons_append, List.nil_append, List.length_cons, List.length_nil, List.set_cons_zero, List.set_cons_succ, List.getElem?_cons_zero, List.getElem?_cons_succ, Nat.reduceAdd, Nat.reduceSub, Nat.reduceMul, Nat.reduceEqDiff, Nat.reduceLeDiff, Nat.reduceLT, Nat.reduceDiv, Bool.false_eq_true, ↓reduceIte, true_and, and_true, false_and, and_false, reduceCtorEq, if_true, Nat.zero_add, cl, lt_nI, le_nI, eq_nI, in_nI, z_nI, retok, or_true, true_or, false_or, or_false, Nat.one_ne_zero, ne_eq, not_false_eq_true, not_true_eq_false, forall_const, Option.isSome_some, false_implies, implies_true, hput_1, hnew_1, vcat1, Nat.le_refl, Nat.not_lt_zero, Nat.lt_irrefl, hput_eq, hput_ne, hput_put, DX8_find, DX8_find_0, TX8_find, FT_8, MT_8, SC_8, DX8_many, DX8_place, OI_a, AC_a, NT_a, b0, a1, p]
    refine ⟨fun c => ?_, fun c => ?_⟩
    · rw [← fnd_no c]
      refine V_walk [12] 20 ?_
      simp (disch := first | omega | assumption) only [↓wstep, ↓wq_s, ↓wq_0, stp, ↓WR0, ↓WR1, ↓WR2, ↓WR3, ↓WR4, ↓WR5, ↓WR6, ↓WR7, ↓WR8, ↓WR9, ↓WR10, ↓WR11, ↓WR12, WI0, WI1, WI2, WI3, fv_0, fv_1, fv_2, fv_3, lkI_0, lkI_1, kip, kin, tgp, tkp, tgn, tkn, bip, bin, sip, lget, lset1, lset2, lcat2, ↓ws_get, ↓ws_put, ws_cell, ws_cell1, ws_hcell, ws_hcell3, ws_hcell1, ↓cellOf, ↓ws_call, ↓ws_callS, ↓ws_oi, ↓ws_ac, ↓ws_mm, ↓ws_post, ↓ws_exc, popN, rok, clsAt, cnOf, catS_nil, catS_i, catS_r, catS_n, catS_l, catS_d, catS_f, nokc, Option.toList_none, Option.toList_some, List.cons_append, List.nil_append, List.length_cons, List.length_nil, List.set_cons_zero, List.set_cons_succ, List.getElem?_cons_zero, List.getElem?_cons_succ, Nat.reduceAdd, Nat.reduceSub, Nat.reduceMul, Nat.reduceEqDiff, Nat.reduceLeDiff, Nat.reduceLT, Nat.reduceDiv, Bool.false_eq_true, ↓reduceIte, true_and, and_true, false_and, and_false, reduceCtorEq, if_true, Nat.zero_add, cl, lt_nI, le_nI, eq_nI, in_nI, z_nI, retok, or_true, true_or, false_or, or_false, Nat.one_ne_zero, ne_eq, not_false_eq_true, not_true_eq_false, forall_const, Option.isSome_some, false_implies, implies_true, hput_1, hnew_1, vcat1, Nat.le_refl, Nat.not_lt_zero, Nat.lt_irrefl, hput_eq, hput_ne, hput_put, DX8_find, DX8_find_0, TX8_find, FT_8, MT_8, SC_8, DX8_many, DX8_place, OI_a, AC_a, NT_a, nI_add]
      exact ih (j + 1) (by omega) hq
    · refine CtE.of0 hd (c_place ?_)
      simp (disch := first | omega | assumption) only [↓wstep, ↓wq_s, ↓wq_0, stp, ↓WR0, ↓WR1, ↓WR2, ↓WR3, ↓WR4, ↓WR5, ↓WR6, ↓WR7, ↓WR8, ↓WR9, ↓WR10, ↓WR11, ↓WR12, WI0, WI1, WI2, WI3, fv_0, fv_1, fv_2, fv_3, lkI_0, lkI_1, kip, kin, tgp, tkp, tgn, tkn, bip, bin, sip, lget, lset1, lset2, lcat2, ↓ws_get, ↓ws_put, ws_cell, ws_cell1, ws_hcell, ws_hcell3, ws_hcell1, ↓cellOf, ↓ws_call, ↓ws_callS, ↓ws_oi, ↓ws_ac, ↓ws_mm, ↓ws_post, ↓ws_exc, popN, rok, clsAt, cnOf, catS_nil, catS_i, catS_r, catS_n, catS_l, catS_d, catS_f, nokc, Option.toList_none, Option.toList_some, List.cons_append, List.nil_append, List.length_cons, List.length_nil, List.set_cons_zero, List.set_cons_succ, List.getElem?_cons_zero, List.getElem?_cons_succ, Nat.reduceAdd, Nat.reduceSub, Nat.reduceMul, Nat.reduceEqDiff, Nat.reduceLeDiff, Nat.reduceLT, Nat.reduceDiv, Bool.false_eq_true, ↓reduceIte, true_and, and_true, false_and, and_false, reduceCtorEq, if_true, Nat.zero_add, cl, lt_nI, le_nI, eq_nI, in_nI, z_nI, retok, or_true, true_or, false_or, or_false, Nat.one_ne_zero, ne_eq, not_false_eq_true, not_true_eq_false, forall_const, Option.isSome_some, false_implies, implies_true, hput_1, hnew_1, vcat1, Nat.le_refl, Nat.not_lt_zero, Nat.lt_irrefl, hput_eq, hput_ne, hput_put, DX8_find, DX8_find_0, TX8_find, FT_8, MT_8, SC_8, DX8_many, DX8_place, OI_a, AC_a, NT_a, nI_add]
      rw [← fnd_yes D hi hjl c]
      refine V_walk [12] 20 ?_
      simp (disch := first | omega | assumption) only [↓wstep, ↓wq_s, ↓wq_0, stp, ↓WR0, ↓WR1, ↓WR2, ↓WR3, ↓WR4, ↓WR5, ↓WR6, ↓WR7, ↓WR8, ↓WR9, ↓WR10, ↓WR11, ↓WR12, WI0, WI1, WI2, WI3, fv_0, fv_1, fv_2, fv_3, lkI_0, lkI_1, kip, kin, tgp, tkp, tgn, tkn, bip, bin, sip, lget, lset1, lset2, lcat2, ↓ws_get, ↓ws_put, ws_cell, ws_cell1, ws_hcell, ws_hcell3, ws_hcell1, ↓cellOf, ↓ws_call, ↓ws_callS, ↓ws_oi, ↓ws_ac, ↓ws_mm, ↓ws_post, ↓ws_exc, popN, rok, clsAt, cnOf, catS_nil, catS_i, catS_r, catS_n, catS_l, catS_d, catS_f, nokc, Option.toList_none, Option.toList_some, List.cons_append, List.nil_append, List.length_cons, List.length_nil, List.set_cons_zero, List.set_cons_succ, List.getElem?_cons_zero, List.getElem?_cons_succ, Nat.reduceAdd, Nat.reduceSub, Nat.reduceMul, Nat.reduceEqDiff, Nat.reduceLeDiff, Nat.reduceLT, Nat.reduceDiv, Bool.false_eq_true, ↓reduceIte, true_and, and_true, false_and, and_false, reduceCtorEq, if_true, Nat.zero_add, cl, lt_nI, le_nI, eq_nI, in_nI, z_nI, retok, or_true, true_or, false_or, or_false, Nat.one_ne_zero, ne_eq, not_false_eq_true, not_true_eq_false, forall_const, Option.isSome_some, false_implies, implies_true, hput_1, hnew_1, vcat1, Nat.le_refl, Nat.not_lt_zero, Nat.lt_irrefl, hput_eq, hput_ne, hput_put, DX8_find, DX8_find_0, TX8_find, FT_8, MT_8, SC_8, DX8_many, DX8_place, OI_a, AC_a, NT_a, nI_add]
      exact ih (j + 1) (by omega) hq
set_option maxRecDepth 20000 in
set_option maxHeartbeats 4000000 in
theorem l_find {G : GT} {M d : Nat} {o : MO} {x : Int32} {f : Nat → Int32} {S : St} {h : Hp} {Q : RT → Hp → Prop} (hd : 1 ≤ d) (ht : tot S ≤ 24) (D : Dis S) (a0 : h.2 M = some (mO M o)) (a1 : h.2 (M + 1) = some (.inl (0, 303, .inl f))) (ag : Ag f S) (hq : Q (.inl (some (.int (fnd x S 4 0)))) h) : ∀ (r i : Nat) (y4 : Option Value), i + r = 4 → V G mX8_find d 0 0 4 [some (.ref M), some (.int x), some (.int (fnd x S i 0)), some (.int (nI i)), y4] [] h Q := by
  intro r
  induction r with
  | zero =>
    intro i y4 hi
    obtain rfl : i = 4 := by omega
    refine V_walk [] 20 ?_
    simp (disch := first | omega | assumption) only [↓wstep, ↓wq_s, ↓wq_0, stp, ↓WR0, ↓WR1, ↓WR2, ↓WR3, ↓WR4, ↓WR5, ↓WR6, ↓WR7, ↓WR8, ↓WR9, ↓WR10, ↓WR11, ↓WR12, WI0, WI1, WI2, WI3, fv_0, fv_1, fv_2, fv_3, lkI_0, lkI_1, kip, kin, tgp, tkp, tgn, tkn, bip, bin, sip, lget, lset1, lset2, lcat2, ↓ws_get, ↓ws_put, ws_cell, ws_cell1, ws_hcell, ws_hcell3, ws_hcell1, ↓cellOf, ↓ws_call, ↓ws_callS, ↓ws_oi, ↓ws_ac, ↓ws_mm, ↓ws_post, ↓ws_exc, popN, rok, clsAt, cnOf, catS_nil, catS_i, catS_r, catS_n, catS_l, catS_d, catS_f, nokc, Option.toList_none, Option.toList_some, List.cons_append, List.nil_append, List.length_cons, List.length_nil, List.set_cons_zero, List.set_cons_succ, List.getElem?_cons_zero, List.getElem?_cons_succ, Nat.reduceAdd, Nat.reduceSub, Nat.reduceMul, Nat.reduceEqDiff, Nat.reduceLeDiff, Nat.reduceLT, Nat.reduceDiv, Bool.false_eq_true, ↓reduceIte, true_and, and_true, false_and, and_false, reduceCtorEq, if_true, Nat.zero_add, cl, lt_nI, le_nI, eq_nI, in_nI, z_nI, retok, or_true, true_or, false_or, or_false, Nat.one_ne_zero, ne_eq, not_false_eq_true, not_true_eq_false, forall_const, Option.isSome_some, false_implies, implies_true, hput_1, hnew_1, vcat1, Nat.le_refl, Nat.not_lt_zero, Nat.lt_irrefl, hput_eq, hput_ne, hput_put, DX8_find, DX8_find_0, TX8_find, FT_8, MT_8, SC_8, DX8_many, DX8_place, OI_a, AC_a, NT_a]
    exact hq
  | succ r ih =>
    intro i y4 hi
    have hi4 : i < 4 := by omega
    refine V_walk [12, 60] 20 ?_
    simp (disch := first | omega | assumption) only [↓wstep, ↓wq_s, ↓wq_0, stp, ↓WR0, ↓WR1, ↓WR2, ↓WR3, ↓WR4, ↓WR5, ↓WR6, ↓WR7, ↓WR8, ↓WR9, ↓WR10, ↓WR11, ↓WR12, WI0, WI1, WI2, WI3, fv_0, fv_1, fv_2, fv_3, lkI_0, lkI_1, kip, kin, tgp, tkp, tgn, tkn, bip, bin, sip, lget, lset1, lset2, lcat2, ↓ws_get, ↓ws_put, ws_cell, ws_cell1, ws_hcell, ws_hcell3, ws_hcell1, ↓cellOf, ↓ws_call, ↓ws_callS, ↓ws_oi, ↓ws_ac, ↓ws_mm, ↓ws_post, ↓ws_exc, popN, rok, clsAt, cnOf, catS_nil, catS_i, catS_r, catS_n, catS_l, catS_d, catS_f, nokc, Option.toList_none, Option.toList_some, List.cons_append, List.nil_append, List.length_cons, List.length_nil, List.set_cons_zero, List.set_cons_succ, List.getElem?_cons_zero, List.getElem?_cons_succ, Nat.reduceAdd, Nat.reduceSub, Nat.reduceMul, Nat.reduceEqDiff, Nat.reduceLeDiff, Nat.reduceLT, Nat.reduceDiv, Bool.false_eq_true, ↓reduceIte, true_and, and_true, false_and, and_false, reduceCtorEq, if_true, Nat.zero_add, cl, lt_nI, le_nI, eq_nI, in_nI, z_nI, retok, or_true, true_or, false_or, or_false, Nat.one_ne_zero, ne_eq, not_false_eq_true, not_true_eq_false, forall_const, Option.isSome_some, false_implies, implies_true, hput_1, hnew_1, vcat1, Nat.le_refl, Nat.not_lt_zero, Nat.lt_irrefl, hput_eq, hput_ne, hput_put, DX8_find, DX8_find_0, TX8_find, FT_8, MT_8, SC_8, DX8_many, DX8_place, OI_a, AC_a, NT_a]
    refine ⟨fun c => by omega, fun _ => l_find1 hd hi4 ht D a0 a1 ag (S.2.2.2 i).1 0 (by omega) (fun y => ?_)⟩
    refine V_walk [4] 20 ?_
    simp (disch := first | omega | assumption) only [↓wstep, ↓wq_s, ↓wq_0, stp, ↓WR0, ↓WR1, ↓WR2, ↓WR3, ↓WR4, ↓WR5, ↓WR6, ↓WR7, ↓WR8, ↓WR9, ↓WR10, ↓WR11, ↓WR12, WI0, WI1, WI2, WI3, fv_0, fv_1, fv_2, fv_3, lkI_0, lkI_1, kip, kin, tgp, tkp, tgn, tkn, bip, bin, sip, lget, lset1, lset2, lcat2, ↓ws_get, ↓ws_put, ws_cell, ws_cell1, ws_hcell, ws_hcell3, ws_hcell1, ↓cellOf, ↓ws_call, ↓ws_callS, ↓ws_oi, ↓ws_ac, ↓ws_mm, ↓ws_post, ↓ws_exc, popN, rok, clsAt, cnOf, catS_nil, catS_i, catS_r, catS_n, catS_l, catS_d, catS_f, nokc, Option.toList_none, Option.toList_some, List.cons_append, List.nil_append, List.length_cons, List.length_nil, List.set_cons_zero, List.set_cons_succ, List.getElem?_cons_zero, List.getElem?_cons_succ, Nat.reduceAdd, Nat.reduceSub, Nat.reduceMul, Nat.reduceEqDiff, Nat.reduceLeDiff, Nat.reduceLT, Nat.reduceDiv, Bool.false_eq_true, ↓reduceIte, true_and, and_true, false_and, and_false, reduceCtorEq, if_true, Nat.zero_add, cl, lt_nI, le_nI, eq_nI, in_nI, z_nI, retok, or_true, true_or, false_or, or_false, Nat.one_ne_zero, ne_eq, not_false_eq_true, not_true_eq_false, forall_const, Option.isSome_some, false_implies, implies_true, hput_1, hnew_1, vcat1, Nat.le_refl, Nat.not_lt_zero, Nat.lt_irrefl, hput_eq, hput_ne, hput_put, DX8_find, DX8_find_0, TX8_find, FT_8, MT_8, SC_8, DX8_many, DX8_place, OI_a, AC_a, NT_a, nI_add]
    exact ih (i + 1) y (by omega)
set_option maxRecDepth 20000 in
set_option maxHeartbeats 4000000 in
theorem c_find {G : GT} {M d : Nat} {o : MO} {x : Int32} {f : Nat → Int32} {S : St} {h : Hp} {Q : RT → Hp → Prop} (hd : 1 ≤ d) (ht : tot S ≤ 24) (D : Dis S) (a0 : h.2 M = some (mO M o)) (a1 : h.2 (M + 1) = some (.inl (0, 303, .inl f))) (ag : Ag f S) (hq0 : nsw x S = none → Q (.inl (some (.int (-nI 1)))) h) (hq1 : ∀ i, nsw x S = some i → Q (.inl (some (.int (nI (15 + 72 * i + 3 * ixn x (S.2.2.2 i)))))) h) : Ct G mX8_find d 0 0 [.ref M, .int x] h Q := by
  have key : Q (.inl (some (.int (fnd x S 4 0)))) h := by
    rw [fnd_4]
    cases e : nsw x S with
    | none => exact hq0 e
    | some i => exact hq1 i e
  refine Ct.of rfl rfl (Nat.le_of_ble_eq_true rfl) ?_
  show V G mX8_find _ _ _ 0 [some (.ref M), some (.int x), none, none, none] [] h Q
  refine V_walk [4] 20 ?_
  simp (disch := first | omega | assumption) only [↓wstep, ↓wq_s, ↓wq_0, stp, ↓WR0, ↓WR1, ↓WR2, ↓WR3, ↓WR4, ↓WR5, ↓WR6, ↓WR7, ↓WR8, ↓WR9, ↓WR10, ↓WR11, ↓WR12, WI0, WI1, WI2, WI3, fv_0, fv_1, fv_2, fv_3, lkI_0, lkI_1, kip, kin, tgp, tkp, tgn, tkn, bip, bin, sip, lget, lset1, lset2, lcat2, ↓ws_get, ↓ws_put, ws_cell, ws_cell1, ws_hcell, ws_hcell3, ws_hcell1, ↓cellOf, ↓ws_call, ↓ws_callS, ↓ws_oi, ↓ws_ac, ↓ws_mm, ↓ws_post, ↓ws_exc, popN, rok, clsAt, cnOf, catS_nil, catS_i, catS_r, catS_n, catS_l, catS_d, catS_f, nokc, Option.toList_none, Option.toList_some, List.cons_append, List.nil_append, List.length_cons, List.length_nil, List.set_cons_zero, List.set_cons_succ, List.getElem?_cons_zero, List.getElem?_cons_succ, Nat.reduceAdd, Nat.reduceSub, Nat.reduceMul, Nat.reduceEqDiff, Nat.reduceLeDiff, Nat.reduceLT, Nat.reduceDiv, Bool.false_eq_true, ↓reduceIte, true_and, and_true, false_and, and_false, reduceCtorEq, if_true, Nat.zero_add, cl, lt_nI, le_nI, eq_nI, in_nI, z_nI, retok, or_true, true_or, false_or, or_false, Nat.one_ne_zero, ne_eq, not_false_eq_true, not_true_eq_false, forall_const, Option.isSome_some, false_implies, implies_true, hput_1, hnew_1, vcat1, Nat.le_refl, Nat.not_lt_zero, Nat.lt_irrefl, hput_eq, hput_ne, hput_put, DX8_find, DX8_find_0, TX8_find, FT_8, MT_8, SC_8, DX8_many, DX8_place, OI_a, AC_a, NT_a]
  rw [← fnd_0 (x := x) (S := S)]
  exact l_find hd ht D a0 a1 ag key 4 0 _ rfl
set_option maxRecDepth 20000 in
set_option maxHeartbeats 4000000 in
theorem c_nestAt {G : GT} {h : Hp} {i j d : Nat} {Q : RT → Hp → Prop} (hi : i < 4) (hj : j < 24) (hq : Q (.inl (some (.int (nI i)))) h) : Ct G mX8_nestAt d 0 0 [.int (nI (15 + 72 * i + 3 * j))] h Q := by
  have e1 : nI (15 + 72 * i + 3 * j) - nI 15 = nI (72 * i + 3 * j) := by rw [sub_nI (by omega)]; congr 1; omega
  have e2 : nI (72 * i + 3 * j) / nI 72 = nI i := by rw [div_nI (by omega) (by omega) (by omega)]; congr 1; omega
  have e3 : ¬ nI 72 = 0 := by decide
  refine Ct.of rfl rfl (Nat.le_of_ble_eq_true rfl) ?_
  show V G mX8_nestAt _ _ _ 0 [some (.int (nI (15 + 72 * i + 3 * j)))] [] h Q
  refine V_walk [] 20 ?_
  simp (disch := first | omega | assumption) only [↓wstep, ↓wq_s, ↓wq_0, stp, ↓WR0, ↓WR1, ↓WR2, ↓WR3, ↓WR4, ↓WR5, ↓WR6, ↓WR7, ↓WR8, ↓WR9, ↓WR10, ↓WR11, ↓WR12, WI0, WI1, WI2, WI3, fv_0, fv_1, fv_2, fv_3, lkI_0, lkI_1, kip, kin, tgp, tkp, tgn, tkn, bip, bin, sip, lget, lset1, lset2, lcat2, ↓ws_get, ↓ws_put, ws_cell, ws_cell1, ws_hcell, ws_hcell3, ws_hcell1, ↓cellOf, ↓ws_call, ↓ws_callS, ↓ws_oi, ↓ws_ac, ↓ws_mm, ↓ws_post, ↓ws_exc, popN, rok, clsAt, cnOf, catS_nil, catS_i, catS_r, catS_n, catS_l, catS_d, catS_f, nokc, Option.toList_none, Option.toList_some, List.cons_append, List.nil_append, List.length_cons, List.length_nil, List.set_cons_zero, List.set_cons_succ, List.getElem?_cons_zero, List.getElem?_cons_succ, Nat.reduceAdd, Nat.reduceSub, Nat.reduceMul, Nat.reduceEqDiff, Nat.reduceLeDiff, Nat.reduceLT, Nat.reduceDiv, Bool.false_eq_true, ↓reduceIte, true_and, and_true, false_and, and_false, reduceCtorEq, if_true, Nat.zero_add, cl, lt_nI, le_nI, eq_nI, in_nI, z_nI, retok, or_true, true_or, false_or, or_false, Nat.one_ne_zero, ne_eq, not_false_eq_true, not_true_eq_false, forall_const, Option.isSome_some, false_implies, implies_true, hput_1, hnew_1, vcat1, Nat.le_refl, Nat.not_lt_zero, Nat.lt_irrefl, hput_eq, hput_ne, hput_put, DX8_nestAt, DX8_nestAt_0, TX8_nestAt, FT_8, MT_8, SC_8, OI_a, AC_a, NT_a, e1, e2, e3]
  exact hq
set_option maxRecDepth 20000 in
set_option maxHeartbeats 4000000 in
theorem c_indexAt {G : GT} {h : Hp} {i j d : Nat} {Q : RT → Hp → Prop} (hi : i < 4) (hj : j < 24) (hq : Q (.inl (some (.int (nI j)))) h) : Ct G mX8_indexAt d 0 0 [.int (nI (15 + 72 * i + 3 * j))] h Q := by
  have e1 : nI (15 + 72 * i + 3 * j) - nI 15 = nI (72 * i + 3 * j) := by rw [sub_nI (by omega)]; congr 1; omega
  have e2 : nI (72 * i + 3 * j) - nI (72 * i + 3 * j) / nI 72 * nI 72 = nI (3 * j) := by rw [rem_nI (by omega) (by omega) (by omega)]; congr 1; omega
  have e4 : nI (3 * j) / nI 3 = nI j := by rw [div_nI (by omega) (by omega) (by omega)]; congr 1; omega
  have e3 : ¬ nI 72 = 0 := by decide
  have e5 : ¬ nI 3 = 0 := by decide
  refine Ct.of rfl rfl (Nat.le_of_ble_eq_true rfl) ?_
  show V G mX8_indexAt _ _ _ 0 [some (.int (nI (15 + 72 * i + 3 * j)))] [] h Q
  refine V_walk [] 20 ?_
  simp (disch := first | omega | assumption) only [↓wstep, ↓wq_s, ↓wq_0, stp, ↓WR0, ↓WR1, ↓WR2, ↓WR3, ↓WR4, ↓WR5, ↓WR6, ↓WR7, ↓WR8, ↓WR9, ↓WR10, ↓WR11, ↓WR12, WI0, WI1, WI2, WI3, fv_0, fv_1, fv_2, fv_3, lkI_0, lkI_1, kip, kin, tgp, tkp, tgn, tkn, bip, bin, sip, lget, lset1, lset2, lcat2, ↓ws_get, ↓ws_put, ws_cell, ws_cell1, ws_hcell, ws_hcell3, ws_hcell1, ↓cellOf, ↓ws_call, ↓ws_callS, ↓ws_oi, ↓ws_ac, ↓ws_mm, ↓ws_post, ↓ws_exc, popN, rok, clsAt, cnOf, catS_nil, catS_i, catS_r, catS_n, catS_l, catS_d, catS_f, nokc, Option.toList_none, Option.toList_some, List.cons_append, List.nil_append, List.length_cons, List.length_nil, List.set_cons_zero, List.set_cons_succ, List.getElem?_cons_zero, List.getElem?_cons_succ, Nat.reduceAdd, Nat.reduceSub, Nat.reduceMul, Nat.reduceEqDiff, Nat.reduceLeDiff, Nat.reduceLT, Nat.reduceDiv, Bool.false_eq_true, ↓reduceIte, true_and, and_true, false_and, and_false, reduceCtorEq, if_true, Nat.zero_add, cl, lt_nI, le_nI, eq_nI, in_nI, z_nI, retok, or_true, true_or, false_or, or_false, Nat.one_ne_zero, ne_eq, not_false_eq_true, not_true_eq_false, forall_const, Option.isSome_some, false_implies, implies_true, hput_1, hnew_1, vcat1, Nat.le_refl, Nat.not_lt_zero, Nat.lt_irrefl, hput_eq, hput_ne, hput_put, DX8_indexAt, DX8_indexAt_0, TX8_indexAt, FT_8, MT_8, SC_8, OI_a, AC_a, NT_a, e1, e2, e3, e4, e5]
  exact hq
set_option maxRecDepth 20000 in
set_option maxHeartbeats 4000000 in
theorem c_fails {G : GT} {M d : Nat} {o : MO} {t : Int32} {h : Hp} {Q : RT → Hp → Prop} (a0 : h.2 M = some (mO M o)) (hq : Q (.inl (some (.int (nI 0)))) (hput h M (mO M (sTh o t)))) : Ct G mX8_fails d 0 0 [.ref M, .int t] h Q := by
  unfold mO at a0
  refine Ct.of rfl rfl (Nat.le_of_ble_eq_true rfl) ?_
  show V G mX8_fails _ _ _ 0 [some (.ref M), some (.int t)] [] h Q
  refine V_walk [] 20 ?_
  simp (disch := first | omega | assumption) only [↓wstep, ↓wq_s, ↓wq_0, stp, ↓WR0, ↓WR1, ↓WR2, ↓WR3, ↓WR4, ↓WR5, ↓WR6, ↓WR7, ↓WR8, ↓WR9, ↓WR10, ↓WR11, ↓WR12, WI0, WI1, WI2, WI3, fv_0, fv_1, fv_2, fv_3, lkI_0, lkI_1, kip, kin, tgp, tkp, tgn, tkn, bip, bin, sip, lget, lset1, lset2, lcat2, ↓ws_get, ↓ws_put, ws_cell, ws_cell1, ws_hcell, ws_hcell3, ws_hcell1, ↓cellOf, ↓ws_call, ↓ws_callS, ↓ws_oi, ↓ws_ac, ↓ws_mm, ↓ws_post, ↓ws_exc, popN, rok, clsAt, cnOf, catS_nil, catS_i, catS_r, catS_n, catS_l, catS_d, catS_f, nokc, Option.toList_none, Option.toList_some, List.cons_append, List.nil_append, List.length_cons, List.length_nil, List.set_cons_zero, List.set_cons_succ, List.getElem?_cons_zero, List.getElem?_cons_succ, Nat.reduceAdd, Nat.reduceSub, Nat.reduceMul, Nat.reduceEqDiff, Nat.reduceLeDiff, Nat.reduceLT, Nat.reduceDiv, Bool.false_eq_true, ↓reduceIte, true_and, and_true, false_and, and_false, reduceCtorEq, if_true, Nat.zero_add, cl, lt_nI, le_nI, eq_nI, in_nI, z_nI, retok, or_true, true_or, false_or, or_false, Nat.one_ne_zero, ne_eq, not_false_eq_true, not_true_eq_false, forall_const, Option.isSome_some, false_implies, implies_true, hput_1, hnew_1, vcat1, Nat.le_refl, Nat.not_lt_zero, Nat.lt_irrefl, hput_eq, hput_ne, hput_put, DX8_fails, DX8_fails_0, TX8_fails, FT_8, MT_8, SC_8, OI_a, AC_a, NT_a, a0]
  exact hq
