/-! ===== the class's own methods: run ===== -/
/-- now, history after a list of m commands -/
def runS (cm : Nat → Cmd) (m : Nat) (x : XS) : XS :=
  match (pAll cm m 0 x.1).1 with
  | none => ((pAll cm m 0 x.1).2, x.2.1, ((keepC x.2.2.1.1 x.2.2.1.2.1).1, (keepC x.2.2.1.1 x.2.2.1.2.1).2, fu x.2.2.1.2.2 ((x.2.2.1.1 + x.2.2.1.2.1) % 9) x.1), x.2.2.2)
  | some _ => (x.1, x.2.1, (x.2.2.1.1, x.2.2.1.2.1, fu x.2.2.1.2.2 ((x.2.2.1.1 + x.2.2.1.2.1) % 9) x.1), x.2.2.2)
set_option maxRecDepth 20000 in
set_option maxHeartbeats 4000000 in
theorem c_executeAll {G : GT} {K : KT9} {B d m : Nat} {n : Nat → Nat} {f : Nat → Nat → Nat} {Gd : Nat → St → Prop} {x : XS} {h : Hp} {Q : RT → Hp → Prop} (hd : 8 ≤ d) (w : KW G K n f) (ws : KSW G K) (hB : b0 G ≤ B) (hm9 : m ≤ 9) (g0 : ∀ j S, Gd j S → tot S ≤ 24 ∧ FeaS S ∧ ClS S) (g1 : ∀ j S c, Gd j S → Gd (j + 1) (pExec S c).2) (hz : Zr G h) (a : AtX K h B x) (gd : Gd 0 x.1) (ok : OkX x) (hk : ∀ j, j < 9 → (x.2.2.2.1.2.2.2.2 j).1 < 10) (hq : ∀ h', Fg h h' B (B + 228) → AtX K h' B (runS x.2.2.2.1.2.2.2.2 m x) → Q (.inl (some (.int (oI (pAll x.2.2.2.1.2.2.2.2 m 0 x.1).1)))) h') : Ct G mX7_executeAll d 0 0 [.ref B, .int (nI m)] h Q := by
  obtain ⟨ho, hc, cn, cf, ht, hf⟩ := ok
  have a0 := a.1
  unfold xE at a0
  have a3 := a.2.2.2.1.1
  refine Ct.of rfl rfl (Nat.le_of_ble_eq_true rfl) ?_
  show V G mX7_executeAll _ _ _ 0 [some (.ref B), some (.int (nI m)), none] [] h Q
  refine V_walk [13] 40 ?_
  simp (disch := first | omega | assumption) only [↓wstep, ↓wq_s, ↓wq_0, stp, ↓WR0, ↓WR1, ↓WR2, ↓WR3, ↓WR4, ↓WR5, ↓WR6, ↓WR7, ↓WR8, ↓WR9, ↓WR10, ↓WR11, ↓WR12, WI0, WI1, WI2, WI3, fv_0, fv_1, fv_2, fv_3, lkI_0, lkI_1, kip, kin, tgp, tkp, tgn, tkn, bip, bin, sip, lget, lset1, lset2, lcat2, ↓ws_get, ↓ws_put, ws_cell, ws_cell1, ws_hcell, ws_hcell3, ws_hcell1, ↓cellOf, ↓ws_call, ↓ws_callS, ↓ws_oi, ↓ws_ac, ↓ws_mm, ↓ws_post, ↓ws_exc, popN, rok, clsAt, cnOf, catS_nil, catS_i, catS_r, catS_n, catS_l, catS_d, catS_f, nokc, Option.toList_none, Option.toList_some, List.cons_append, List.nil_append, List.length_cons, List.length_nil, List.set_cons_zero, List.set_cons_succ, List.getElem?_cons_zero, List.getElem?_cons_succ, Nat.reduceAdd, Nat.reduceSub, Nat.reduceMul, Nat.reduceEqDiff, Nat.reduceLeDiff, Nat.reduceLT, Nat.reduceDiv, Bool.false_eq_true, ↓reduceIte, true_and, and_true, false_and, and_false, reduceCtorEq, if_true, Nat.zero_add, cl, lt_nI, le_nI, eq_nI, in_nI, z_nI, retok, or_true, true_or, false_or, or_false, Nat.one_ne_zero, ne_eq, not_false_eq_true, not_true_eq_false, forall_const, Option.isSome_some, false_implies, implies_true, hput_1, hnew_1, vcat1, Nat.le_refl, Nat.not_lt_zero, Nat.lt_irrefl, hput_eq, hput_ne, hput_put, DX7_executeAll, DX7_executeAll_0, TX7_executeAll, FT_7, MT_7, SC_7, DX2_prepare, DX6_execute, DX2_prepared, DX6_copyFrom, DX2_keepPrepared, OI_a, AC_a, NT_a, a0, a3]
  refine CtE.of0 (by omega) (c_prepare (by omega) ho hc (by omega) a.2.2.2.1 a.2.1 cn cf (fun h1 f1 a1 => ?_))
  have b := a.hist (f1.wide (by omega) (by omega)) a1
  have k1 : Fm h h1 B (B + 228) := f1.wide (by omega) (by omega)
  simp (disch := first | omega | assumption) only [↓wstep, ↓wq_s, ↓wq_0, stp, ↓WR0, ↓WR1, ↓WR2, ↓WR3, ↓WR4, ↓WR5, ↓WR6, ↓WR7, ↓WR8, ↓WR9, ↓WR10, ↓WR11, ↓WR12, WI0, WI1, WI2, WI3, fv_0, fv_1, fv_2, fv_3, lkI_0, lkI_1, kip, kin, tgp, tkp, tgn, tkn, bip, bin, sip, lget, lset1, lset2, lcat2, ↓ws_get, ↓ws_put, ws_cell, ws_cell1, ws_hcell, ws_hcell3, ws_hcell1, ↓cellOf, ↓ws_call, ↓ws_callS, ↓ws_oi, ↓ws_ac, ↓ws_mm, ↓ws_post, ↓ws_exc, popN, rok, clsAt, cnOf, catS_nil, catS_i, catS_r, catS_n, catS_l, catS_d, catS_f, nokc, Option.toList_none, Option.toList_some, List.cons_append, List.nil_append, List.length_cons, List.length_nil, List.set_cons_zero, List.set_cons_succ, List.getElem?_cons_zero, List.getElem?_cons_succ, Nat.reduceAdd, Nat.reduceSub, Nat.reduceMul, Nat.reduceEqDiff, Nat.reduceLeDiff, Nat.reduceLT, Nat.reduceDiv, Bool.false_eq_true, ↓reduceIte, true_and, and_true, false_and, and_false, reduceCtorEq, if_true, Nat.zero_add, cl, lt_nI, le_nI, eq_nI, in_nI, z_nI, retok, or_true, true_or, false_or, or_false, Nat.one_ne_zero, ne_eq, not_false_eq_true, not_true_eq_false, forall_const, Option.isSome_some, false_implies, implies_true, hput_1, hnew_1, vcat1, Nat.le_refl, Nat.not_lt_zero, Nat.lt_irrefl, hput_eq, hput_ne, hput_put, DX7_executeAll, DX7_executeAll_0, TX7_executeAll, FT_7, MT_7, SC_7, DX2_prepare, DX6_execute, DX2_prepared, DX6_copyFrom, DX2_keepPrepared, OI_a, AC_a, NT_a]
  refine l_execAll (T := x.1) hd w ws hB hm9 g0 g1 m 0 _ h1 (by omega) (hz.mv k1 hB) b gd ho hc (fu_eq _ _ _) cn hk (fun h' f' e a' => ?_) (fun h' k f' e hk' a' => ?_)
  · unfold runS at hq
    dsimp only at e a'
    rw [e] at hq
    exact hq h' (k1.g.tr f') a'
  · unfold runS at hq
    dsimp only at e a'
    rw [e] at hq
    exact hq h' (k1.g.tr f') a'
theorem pPart_k {sg : Nat → Fin 65536} {len : Nat} {x : Fin 65536} {q : PS} : (pPart sg len x q).2.2.1 = q.2.1 := by
  have g : ∀ (c : Cmd) (v : Int32), (gvC c v).1 = c.1 := fun c v => by unfold gvC; split <;> rfl
  unfold pPart
  split
  · exact g _ _
  · split
    · exact g _ _
    · split
      · dsimp only; split <;> rfl
      · dsimp only; split <;> rfl
theorem pForm_k {sg : Nat → Fin 65536} {len : Nat} {f : Nat → Nat} : ∀ (r k : Nat) (q : PS), (pForm sg len f r k q).2.2.1 = q.2.1
  | 0, _, _ => rfl
  | r + 1, k, q => by
    rw [pForm]; split
    · rw [pForm_k]; exact pPart_k
    · exact pPart_k
theorem pKinds_k {sg : Nat → Fin 65536} {len st : Nat} {n : Nat → Nat} {f : Nat → Nat → Nat} : ∀ (r k er : Nat) (q : PS), k + r = 10 → q.2.1 < 10 → (pKinds sg len st n f r k er q).2.2.2.1 < 10
  | 0, _, _, _, _, h => h
  | r + 1, k, er, q, hk, h => by
    have g : (pForm sg len (f k) (n k) 0 (st, (k, q.2.2.1, q.2.2.2.1, q.2.2.2.2.1, 0))).2.2.1 < 10 := by rw [pForm_k]; show k < 10; omega
    rw [pKinds]; split
    · exact g
    · exact pKinds_k r (k + 1) _ _ (by omega) g
theorem pParse_k {sg : Nat → Fin 65536} {len : Nat} {n : Nat → Nat} {f : Nat → Nat → Nat} : ∀ (r i tt er : Nat) (cm : Nat → Cmd), (∀ j, (cm j).1 < 10) → (∀ j, ((pParse sg len n f r i tt er cm).2.2.2 j).1 < 10) ∧ ∀ m, (pParse sg len n f r i tt er cm).1 = some m → i < m ∧ m ≤ i + r
  | 0, _, _, _, _, h => ⟨h, fun m hm => by cases hm⟩
  | r + 1, i, tt, er, cm, h => by
    have g : ∀ j, (fu cm i (pCmd sg len n f (tt, cm i)).2.2.2 j).1 < 10 := fun j => by
      by_cases e : j = i
      · rw [e, fu_eq]; exact pKinds_k 10 0 tt (tt, cm i) rfl (h i)
      · rw [fu_ne e]; exact h j
    rw [pParse]; split
    · split
      · exact ⟨g, fun m hm => by cases hm; omega⟩
      · split
        · have := pParse_k (sg := sg) (len := len) (n := n) (f := f) r (i + 1) ((pCmd sg len n f (tt, cm i)).2.2.1 + 1) (pCmd sg len n f (tt, cm i)).2.1 _ g
          exact ⟨this.1, fun m hm => by have := this.2 m hm; omega⟩
        · exact ⟨g, fun m hm => by cases hm⟩
    · exact ⟨g, fun m hm => by cases hm⟩
