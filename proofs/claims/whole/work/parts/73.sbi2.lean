/-! ===== the library's StringBuilder: a number more, put together; the rest ===== -/
theorem nd_le (k : Nat) : 1 ≤ nd k ∧ nd k ≤ 4 := by unfold nd; split <;> (try split) <;> (try split) <;> omega
theorem dgv_lt {k j : Nat} (hk : k < 10000) : dgv k j < 10 := by
  unfold dgv
  repeat' split
  all_goals omega
set_option maxRecDepth 20000 in
set_option maxHeartbeats 4000000 in
theorem c_getChars {G : GT} {h : Hp} {k e v cap d : Nat} {g : Nat → Int32} {Q : RT → Hp → Prop} (hj : JW2 G) (hz : Zr G h) (hk : k < 10000) (he : nd k ≤ e) (he2 : e ≤ cap) (hc : cap < 1000) (a1 : h.2 v = some (.inl (4, cap, .inl g))) (hv : b0 G ≤ v) (hq : ∀ g', (∀ j, j < nd k → g' (e - nd k + j) = nI (48 + dgv k j)) → (∀ j, (j < e - nd k ∨ e ≤ j) → g' j = g j) → ∀ x, Q (.inl (some (.int x))) (hput h v (.inl (4, cap, .inl g')))) : Ct G mJ6_getChars_ba4f3 d 0 0 [.int (nI k), .int (nI e), .ref v] h Q := by
  have c1 : (-nI 100 < -nI k) = (k < 100) := ngl (by omega) (by omega)
  have c2 : (-nI k ≤ -nI 100) = (100 ≤ k) := ngle (by omega) (by omega)
  by_cases q : k < 100
  · have d1 : (k < 100) = True := eq_true q
    have d2 : (100 ≤ k) = False := eq_false (by omega)
    have en : nd k = if k < 10 then 1 else 2 := by
      unfold nd
      by_cases q1 : k < 10
      · rw [if_pos q1, if_pos q1]
      · rw [if_neg q1, if_neg q1, if_pos q]
    refine Ct.of rfl rfl (Nat.le_of_ble_eq_true rfl) ?_
    show V G mJ6_getChars_ba4f3 _ _ _ 0 [some (.int (nI k)), some (.int (nI e)), some (.ref v), none, none, none, none] [] h Q
    refine V_walk [72] 30 ?_
    simp (disch := first | omega | assumption) only [↓wstep, ↓wq_s, ↓wq_0, stp, ↓WR0, ↓WR1, ↓WR2, ↓WR3, ↓WR4, ↓WR5, ↓WR6, ↓WR7, ↓WR8, ↓WR9, ↓WR10, ↓WR11, ↓WR12, WI0, WI1, WI2, WI3, fv_0, fv_1, fv_2, fv_3, lkI_0, lkI_1, kip, kin, tgp, tkp, tgn, tkn, bip, bin, sip, lget, lset1, lset2, lcat2, ↓ws_get, ↓ws_put, ws_cell, ws_cell1, ws_hcell, ws_hcell3, ws_hcell1, ↓cellOf, ↓ws_call, ↓ws_callS, ↓ws_oi, ↓ws_ac, ↓ws_mm, ↓ws_post, ↓ws_exc, popN, rok, clsAt, cnOf, catS_nil, catS_i, catS_r, catS_n, catS_l, catS_d, catS_f, nokc, Option.toList_none, Option.toList_some, List.cons_append, List.nil_append, List.length_cons, List.length_nil, List.set_cons_zero, List.set_cons_succ, List.getElem?_cons_zero, List.getElem?_cons_succ, Nat.reduceAdd, Nat.reduceSub, Nat.reduceMul, Nat.reduceEqDiff, Nat.reduceLeDiff, Nat.reduceLT, Nat.reduceDiv, Bool.false_eq_true, ↓reduceIte, true_and, and_true, false_and, and_false, reduceCtorEq, if_true, Nat.zero_add, cl, lt_nI, le_nI, eq_nI, in_nI, z_nI, retok, or_true, true_or, false_or, or_false, Nat.one_ne_zero, ne_eq, not_false_eq_true, not_true_eq_false, forall_const, Option.isSome_some, false_implies, implies_true, hput_1, hnew_1, vcat1, Nat.le_refl, Nat.not_lt_zero, Nat.lt_irrefl, hput_eq, hput_ne, hput_put, DJ6_getChars_ba4f3, DJ6_getChars_ba4f3_0, DJ6_getChars_ba4f3_1, TJ6_getChars_ba4f3, OI_a, AC_a, NT_a, Nat.zero_le, c1, c2, d1, d2, bin]
    refine l_getTail hj hz q (by rw [← en]; exact he) he2 hc a1 hv (fun g' hg => ?_)
    refine hq g' (fun j hjn => ?_) (fun j hjn => ?_) _
    · unfold dgv
      by_cases q1 : k < 10
      · rw [if_pos q1] at hg en
        rw [if_pos q1, en, show e - 1 + j = e - 1 from by omega]
        exact hg.1
      · rw [if_neg q1] at hg en
        rw [if_neg q1, if_pos q, en]
        by_cases q2 : j = 0
        · subst q2; rw [if_pos rfl]; exact hg.2.1
        · rw [if_neg q2, show e - 2 + j = e - 1 from by omega]; exact hg.1
    · by_cases q1 : k < 10
      · rw [if_pos q1] at hg en
        exact hg.2 j (by omega)
      · rw [if_neg q1] at hg en
        exact hg.2.2 j (by omega) (by omega)
  · have d1 : (k < 100) = False := eq_false q
    have d2 : (100 ≤ k) = True := eq_true (by omega)
    have f1 : (-nI 100 < -nI (k / 100)) = (k / 100 < 100) := ngl (by omega) (by omega)
    have f2 : (-nI (k / 100) ≤ -nI 100) = (100 ≤ k / 100) := ngle (by omega) (by omega)
    have g1 : (k / 100 < 100) = True := eq_true (by omega)
    have g2 : (100 ≤ k / 100) = False := eq_false (by omega)
    have v1 := ng_div k hk
    have v2 : -nI (k / 100) * nI 100 = -nI (k / 100 * 100) := ngm2 _ _
    have v3 : -nI (k / 100 * 100) - -nI k = nI (k % 100) := by rw [ngs (by omega)]; congr 1; omega
    have v4 : ¬ nI 100 = 0 := by decide
    obtain ⟨-, p1, p2, l1, l2, s1, s2, t1, t2⟩ := id hj
    have z1 := hz p1 l1
    have z2 := hz p2 l2
    have w1 := nb (48 + k % 100 % 10) (by omega)
    have w2 := nb (48 + k % 100 / 10) (by omega)
    have hv1 : p1 ≠ v := by omega
    have hv2 : p2 ≠ v := by omega
    have en : nd k = 2 + if k / 100 < 10 then 1 else 2 := by unfold nd; rw [if_neg (by omega), if_neg q]; split <;> split <;> omega
    have e1 : nI e - nI 1 = nI (e - 1) := sub_nI (by omega)
    have e2 : nI (e - 1) - nI 1 = nI (e - 2) := by rw [sub_nI (by split at en <;> omega)]; rfl
    have i1 : e - 1 < cap := by omega
    have i2 : e - 2 < cap := by omega
    have i3 : k % 100 < 100 := by omega
    refine Ct.of rfl rfl (Nat.le_of_ble_eq_true rfl) ?_
    show V G mJ6_getChars_ba4f3 _ _ _ 0 [some (.int (nI k)), some (.int (nI e)), some (.ref v), none, none, none, none] [] h Q
    refine V_walk [72] 60 ?_
    simp (disch := first | omega | assumption) only [↓wstep, ↓wq_s, ↓wq_0, stp, ↓WR0, ↓WR1, ↓WR2, ↓WR3, ↓WR4, ↓WR5, ↓WR6, ↓WR7, ↓WR8, ↓WR9, ↓WR10, ↓WR11, ↓WR12, WI0, WI1, WI2, WI3, fv_0, fv_1, fv_2, fv_3, lkI_0, lkI_1, kip, kin, tgp, tkp, tgn, tkn, bip, bin, sip, lget, lset1, lset2, lcat2, ↓ws_get, ↓ws_put, ws_cell, ws_cell1, ws_hcell, ws_hcell3, ws_hcell1, ↓cellOf, ↓ws_call, ↓ws_callS, ↓ws_oi, ↓ws_ac, ↓ws_mm, ↓ws_post, ↓ws_exc, popN, rok, clsAt, cnOf, catS_nil, catS_i, catS_r, catS_n, catS_l, catS_d, catS_f, nokc, Option.toList_none, Option.toList_some, List.cons_append, List.nil_append, List.length_cons, List.length_nil, List.set_cons_zero, List.set_cons_succ, List.getElem?_cons_zero, List.getElem?_cons_succ, Nat.reduceAdd, Nat.reduceSub, Nat.reduceMul, Nat.reduceEqDiff, Nat.reduceLeDiff, Nat.reduceLT, Nat.reduceDiv, Bool.false_eq_true, ↓reduceIte, true_and, and_true, false_and, and_false, reduceCtorEq, if_true, Nat.zero_add, cl, lt_nI, le_nI, eq_nI, in_nI, z_nI, retok, or_true, true_or, false_or, or_false, Nat.one_ne_zero, ne_eq, not_false_eq_true, not_true_eq_false, forall_const, Option.isSome_some, false_implies, implies_true, hput_1, hnew_1, vcat1, Nat.le_refl, Nat.not_lt_zero, Nat.lt_irrefl, hput_eq, hput_ne, hput_put, DJ6_getChars_ba4f3, DJ6_getChars_ba4f3_0, DJ6_getChars_ba4f3_1, TJ6_getChars_ba4f3, OI_a, AC_a, NT_a, Nat.zero_le, c1, c2, d1, d2, f1, f2, g1, g2, v1, v2, v3, v4, s1, s2, t1, t2, z1, z2, a1, e1, e2, w1, w2, add_neg, bin]
    refine l_getTail (k := k / 100) (e := e - 2) hj (hz.mv (Fm.put (Nat.le_refl v) (Nat.lt_succ_self v)) hv) (show k / 100 < 100 by omega) (by split at en <;> split <;> omega) (by omega) hc (hput_eq _ _ _) hv (fun g' hg => ?_)
    rw [hput_put]
    refine hq g' (fun j hjn => ?_) (fun j hjn => ?_) _
    · unfold dgv
      rw [if_neg (by omega), if_neg q]
      by_cases q1 : k / 100 < 10
      · rw [if_pos q1] at hg en
        rw [if_pos (by omega), en]
        by_cases j0 : j = 0
        · subst j0; rw [if_pos rfl]; exact hg.1
        · rw [if_neg j0]
          by_cases j1 : j = 1
          · subst j1
            rw [if_pos rfl, hg.2 _ (by omega), show e - (2 + 1) + 1 = e - 2 from by omega, pk_us]; congr 2; omega
          · rw [if_neg j1, hg.2 _ (by omega), show e - (2 + 1) + j = e - 1 from by omega, pk_un (by omega), pk_us]; congr 2; omega
      · rw [if_neg q1] at hg en
        rw [if_neg (by omega), en]
        by_cases j0 : j = 0
        · subst j0; rw [if_pos rfl, show e - (2 + 2) + 0 = e - 2 - 2 from by omega, hg.2.1]; congr 2; omega
        · rw [if_neg j0]
          by_cases j1 : j = 1
          · subst j1
            rw [if_pos rfl, show e - (2 + 2) + 1 = e - 2 - 1 from by omega, hg.1]
          · rw [if_neg j1]
            by_cases j2 : j = 2
            · subst j2
              rw [if_pos rfl, hg.2.2 _ (by omega) (by omega), show e - (2 + 2) + 2 = e - 2 from by omega, pk_us]; congr 2; omega
            · rw [if_neg j2, hg.2.2 _ (by omega) (by omega), show e - (2 + 2) + j = e - 1 from by omega, pk_un (by omega), pk_us]; congr 2; omega
    · by_cases q1 : k / 100 < 10
      · rw [if_pos q1] at hg en
        rw [hg.2 j (by omega), pk_un (by omega), pk_un (by omega)]
      · rw [if_neg q1] at hg en
        rw [hg.2.2 j (by omega) (by omega), pk_un (by omega), pk_un (by omega)]
set_option maxRecDepth 20000 in
set_option maxHeartbeats 4000000 in
theorem c_appI {G : GT} {h : Hp} {s v cap n k d : Nat} {ml : Int32} {g : Nat → Int32} {Q : RT → Hp → Prop} (hd : 5 ≤ d) (hj : JW2 G) (hz : Zr G h) (a : SB h s v cap n ml g) (hb : Fb g cap) (hs : s < h.1) (hv : v < h.1) (hvb : b0 G ≤ v) (hsb : b0 G ≤ s) (hsv : v ≠ s) (hc : cap < 490) (hc2 : 2 ≤ cap) (hn : n ≤ cap) (hk : k < 10000) (hq : ∀ h' v' g', h'.1 = h.1 + ceN (n + nd k) cap → (∀ b, b ≠ s → b ≠ v → b < h.1 → h'.2 b = h.2 b) → SB h' s v' (caN (n + nd k) cap) (n + nd k) ml g' → Fb g' (caN (n + nd k) cap) → (∀ j, j < n → g' j = g j) → (∀ j, j < nd k → g' (n + j) = nI (48 + dgv k j)) → (v' = v ∨ v' = h.1) → v' < h'.1 → v' ≠ s → Q (.inl (some (.ref s))) h') : Ct G mJ5_append_c97b9 d (ceN (n + nd k) cap) (slN (n + nd k) cap) [.ref s, .int (nI k)] h Q := by
  have a' := a
  obtain ⟨a0, a1⟩ := a
  unfold sbE at a0
  have hnd := nd_le k
  have hcap : n + nd k ≤ caN (n + nd k) cap ∧ caN (n + nd k) cap < 1000 := by unfold caN; split <;> omega
  refine Ct.of rfl rfl (Nat.le_of_ble_eq_true rfl) ?_
  show V G mJ5_append_c97b9 _ _ _ 0 [some (.ref s), some (.int (nI k)), none, none] [] h Q
  refine V_walk [] 60 ?_
  simp (disch := first | omega | assumption) only [↓wstep, ↓wq_s, ↓wq_0, stp, ↓WR0, ↓WR1, ↓WR2, ↓WR3, ↓WR4, ↓WR5, ↓WR6, ↓WR7, ↓WR8, ↓WR9, ↓WR10, ↓WR11, ↓WR12, WI0, WI1, WI2, WI3, fv_0, fv_1, fv_2, fv_3, lkI_0, lkI_1, kip, kin, tgp, tkp, tgn, tkn, bip, bin, sip, lget, lset1, lset2, lcat2, ↓ws_get, ↓ws_put, ws_cell, ws_cell1, ws_hcell, ws_hcell3, ws_hcell1, ↓cellOf, ↓ws_call, ↓ws_callS, ↓ws_oi, ↓ws_ac, ↓ws_mm, ↓ws_post, ↓ws_exc, popN, rok, clsAt, cnOf, catS_nil, catS_i, catS_r, catS_n, catS_l, catS_d, catS_f, nokc, Option.toList_none, Option.toList_some, List.cons_append, List.nil_append, List.length_cons, List.length_nil, List.set_cons_zero, List.set_cons_succ, List.getElem?_cons_zero, List.getElem?_cons_succ, Nat.reduceAdd, Nat.reduceSub, Nat.reduceMul, Nat.reduceEqDiff, Nat.reduceLeDiff, Nat.reduceLT, Nat.reduceDiv, Bool.false_eq_true, ↓reduceIte, true_and, and_true, false_and, and_false, reduceCtorEq, if_true, Nat.zero_add, cl, lt_nI, le_nI, eq_nI, in_nI, z_nI, retok, or_true, true_or, false_or, or_false, Nat.one_ne_zero, ne_eq, not_false_eq_true, not_true_eq_false, forall_const, Option.isSome_some, false_implies, implies_true, hput_1, hnew_1, vcat1, Nat.le_refl, Nat.not_lt_zero, Nat.lt_irrefl, hput_eq, hput_ne, hput_put, DJ5_append_c97b9, DJ5_append_c97b9_0, TJ5_append_c97b9, FT_15, MT_15, SC_15, DJ6_stringSize_0f7a4, DJ5_ensureCapacityInternal_d00df, DJ5_isLatin1_aae02, DJ6_getChars_ba4f3, DJ2_getChars_46870, OI_a, AC_a, NT_a, a0]
  refine CtE.of0 (by omega) (c_strSize hk ?_)
  simp (disch := first | omega | assumption) only [↓wstep, ↓wq_s, ↓wq_0, stp, ↓WR0, ↓WR1, ↓WR2, ↓WR3, ↓WR4, ↓WR5, ↓WR6, ↓WR7, ↓WR8, ↓WR9, ↓WR10, ↓WR11, ↓WR12, WI0, WI1, WI2, WI3, fv_0, fv_1, fv_2, fv_3, lkI_0, lkI_1, kip, kin, tgp, tkp, tgn, tkn, bip, bin, sip, lget, lset1, lset2, lcat2, ↓ws_get, ↓ws_put, ws_cell, ws_cell1, ws_hcell, ws_hcell3, ws_hcell1, ↓cellOf, ↓ws_call, ↓ws_callS, ↓ws_oi, ↓ws_ac, ↓ws_mm, ↓ws_post, ↓ws_exc, popN, rok, clsAt, cnOf, catS_nil, catS_i, catS_r, catS_n, catS_l, catS_d, catS_f, nokc, Option.toList_none, Option.toList_some, List.cons_append, List.nil_append, List.length_cons, List.length_nil, List.set_cons_zero, List.set_cons_succ, List.getElem?_cons_zero, List.getElem?_cons_succ, Nat.reduceAdd, Nat.reduceSub, Nat.reduceMul, Nat.reduceEqDiff, Nat.reduceLeDiff, Nat.reduceLT, Nat.reduceDiv, Bool.false_eq_true, ↓reduceIte, true_and, and_true, false_and, and_false, reduceCtorEq, if_true, Nat.zero_add, cl, lt_nI, le_nI, eq_nI, in_nI, z_nI, retok, or_true, true_or, false_or, or_false, Nat.one_ne_zero, ne_eq, not_false_eq_true, not_true_eq_false, forall_const, Option.isSome_some, false_implies, implies_true, hput_1, hnew_1, vcat1, Nat.le_refl, Nat.not_lt_zero, Nat.lt_irrefl, hput_eq, hput_ne, hput_put, DJ5_append_c97b9, DJ5_append_c97b9_0, TJ5_append_c97b9, FT_15, MT_15, SC_15, DJ6_stringSize_0f7a4, DJ5_ensureCapacityInternal_d00df, DJ5_isLatin1_aae02, DJ6_getChars_ba4f3, DJ2_getChars_46870, OI_a, AC_a, NT_a, a0, nI_add]
  refine CtE.of (d - 1) _ _ (by omega) (Nat.le_refl _) (Nat.le_refl _) (c_ensure (by omega) a' hb hs hv hsv (by omega) (by omega) (fun h1 v1 g1 k1 k2 k3 k4 k5 k6 k7 k8 => ?_))
  have b0' := k3.1
  unfold sbE at b0'
  have b1 := k3.2
  have hv1 : b0 G ≤ v1 := by rcases k6 with rfl | rfl <;> omega
  have hz1 : Zr G h1 := fun b hb9 => (k2 b (by omega) (by omega)).trans (hz b hb9)
  simp (disch := first | omega | assumption) only [↓wstep, ↓wq_s, ↓wq_0, stp, ↓WR0, ↓WR1, ↓WR2, ↓WR3, ↓WR4, ↓WR5, ↓WR6, ↓WR7, ↓WR8, ↓WR9, ↓WR10, ↓WR11, ↓WR12, WI0, WI1, WI2, WI3, fv_0, fv_1, fv_2, fv_3, lkI_0, lkI_1, kip, kin, tgp, tkp, tgn, tkn, bip, bin, sip, lget, lset1, lset2, lcat2, ↓ws_get, ↓ws_put, ws_cell, ws_cell1, ws_hcell, ws_hcell3, ws_hcell1, ↓cellOf, ↓ws_call, ↓ws_callS, ↓ws_oi, ↓ws_ac, ↓ws_mm, ↓ws_post, ↓ws_exc, popN, rok, clsAt, cnOf, catS_nil, catS_i, catS_r, catS_n, catS_l, catS_d, catS_f, nokc, Option.toList_none, Option.toList_some, List.cons_append, List.nil_append, List.length_cons, List.length_nil, List.set_cons_zero, List.set_cons_succ, List.getElem?_cons_zero, List.getElem?_cons_succ, Nat.reduceAdd, Nat.reduceSub, Nat.reduceMul, Nat.reduceEqDiff, Nat.reduceLeDiff, Nat.reduceLT, Nat.reduceDiv, Bool.false_eq_true, ↓reduceIte, true_and, and_true, false_and, and_false, reduceCtorEq, if_true, Nat.zero_add, cl, lt_nI, le_nI, eq_nI, in_nI, z_nI, retok, or_true, true_or, false_or, or_false, Nat.one_ne_zero, ne_eq, not_false_eq_true, not_true_eq_false, forall_const, Option.isSome_some, false_implies, implies_true, hput_1, hnew_1, vcat1, Nat.le_refl, Nat.not_lt_zero, Nat.lt_irrefl, hput_eq, hput_ne, hput_put, DJ5_append_c97b9, DJ5_append_c97b9_0, TJ5_append_c97b9, FT_15, MT_15, SC_15, DJ6_stringSize_0f7a4, DJ5_ensureCapacityInternal_d00df, DJ5_isLatin1_aae02, DJ6_getChars_ba4f3, DJ2_getChars_46870, OI_a, AC_a, NT_a, b0']
  refine CtE.of0 (by omega) (c_jLat hj k3.1 ?_)
  simp (disch := first | omega | assumption) only [↓wstep, ↓wq_s, ↓wq_0, stp, ↓WR0, ↓WR1, ↓WR2, ↓WR3, ↓WR4, ↓WR5, ↓WR6, ↓WR7, ↓WR8, ↓WR9, ↓WR10, ↓WR11, ↓WR12, WI0, WI1, WI2, WI3, fv_0, fv_1, fv_2, fv_3, lkI_0, lkI_1, kip, kin, tgp, tkp, tgn, tkn, bip, bin, sip, lget, lset1, lset2, lcat2, ↓ws_get, ↓ws_put, ws_cell, ws_cell1, ws_hcell, ws_hcell3, ws_hcell1, ↓cellOf, ↓ws_call, ↓ws_callS, ↓ws_oi, ↓ws_ac, ↓ws_mm, ↓ws_post, ↓ws_exc, popN, rok, clsAt, cnOf, catS_nil, catS_i, catS_r, catS_n, catS_l, catS_d, catS_f, nokc, Option.toList_none, Option.toList_some, List.cons_append, List.nil_append, List.length_cons, List.length_nil, List.set_cons_zero, List.set_cons_succ, List.getElem?_cons_zero, List.getElem?_cons_succ, Nat.reduceAdd, Nat.reduceSub, Nat.reduceMul, Nat.reduceEqDiff, Nat.reduceLeDiff, Nat.reduceLT, Nat.reduceDiv, Bool.false_eq_true, ↓reduceIte, true_and, and_true, false_and, and_false, reduceCtorEq, if_true, Nat.zero_add, cl, lt_nI, le_nI, eq_nI, in_nI, z_nI, retok, or_true, true_or, false_or, or_false, Nat.one_ne_zero, ne_eq, not_false_eq_true, not_true_eq_false, forall_const, Option.isSome_some, false_implies, implies_true, hput_1, hnew_1, vcat1, Nat.le_refl, Nat.not_lt_zero, Nat.lt_irrefl, hput_eq, hput_ne, hput_put, DJ5_append_c97b9, DJ5_append_c97b9_0, TJ5_append_c97b9, FT_15, MT_15, SC_15, DJ6_stringSize_0f7a4, DJ5_ensureCapacityInternal_d00df, DJ5_isLatin1_aae02, DJ6_getChars_ba4f3, DJ2_getChars_46870, OI_a, AC_a, NT_a, b0']
  refine CtE.of0 (by omega) (c_getChars hj hz1 hk (show nd k ≤ n + nd k by omega) hcap.1 hcap.2 b1 hv1 (fun g2 hg1 hg2 x => ?_))
  have c0 : (hput h1 v1 (.inl (4, caN (n + nd k) cap, .inl g2))).2 s = some (sbE v1 n ml) := (hput_ne (by omega)).trans k3.1
  have hsv1 : s ≠ v1 := fun q => k8 q.symm
  simp (disch := first | omega | assumption) only [↓wstep, ↓wq_s, ↓wq_0, stp, ↓WR0, ↓WR1, ↓WR2, ↓WR3, ↓WR4, ↓WR5, ↓WR6, ↓WR7, ↓WR8, ↓WR9, ↓WR10, ↓WR11, ↓WR12, WI0, WI1, WI2, WI3, fv_0, fv_1, fv_2, fv_3, lkI_0, lkI_1, kip, kin, tgp, tkp, tgn, tkn, bip, bin, sip, lget, lset1, lset2, lcat2, ↓ws_get, ↓ws_put, ws_cell, ws_cell1, ws_hcell, ws_hcell3, ws_hcell1, ↓cellOf, ↓ws_call, ↓ws_callS, ↓ws_oi, ↓ws_ac, ↓ws_mm, ↓ws_post, ↓ws_exc, popN, rok, clsAt, cnOf, catS_nil, catS_i, catS_r, catS_n, catS_l, catS_d, catS_f, nokc, Option.toList_none, Option.toList_some, List.cons_append, List.nil_append, List.length_cons, List.length_nil, List.set_cons_zero, List.set_cons_succ, List.getElem?_cons_zero, List.getElem?_cons_succ, Nat.reduceAdd, Nat.reduceSub, Nat.reduceMul, Nat.reduceEqDiff, Nat.reduceLeDiff, Nat.reduceLT, Nat.reduceDiv, Bool.false_eq_true, ↓reduceIte, true_and, and_true, false_and, and_false, reduceCtorEq, if_true, Nat.zero_add, cl, lt_nI, le_nI, eq_nI, in_nI, z_nI, retok, or_true, true_or, false_or, or_false, Nat.one_ne_zero, ne_eq, not_false_eq_true, not_true_eq_false, forall_const, Option.isSome_some, false_implies, implies_true, hput_1, hnew_1, vcat1, Nat.le_refl, Nat.not_lt_zero, Nat.lt_irrefl, hput_eq, hput_ne, hput_put, DJ5_append_c97b9, DJ5_append_c97b9_0, TJ5_append_c97b9, FT_15, MT_15, SC_15, DJ6_stringSize_0f7a4, DJ5_ensureCapacityInternal_d00df, DJ5_isLatin1_aae02, DJ6_getChars_ba4f3, DJ2_getChars_46870, OI_a, AC_a, NT_a, b0']
  refine ⟨rfl, hq _ v1 g2 k1 (fun b h1 h2 h3 => ?_) ⟨?_, ?_⟩ (fun j hjc => ?_) (fun j hjn => ?_) (fun j hjn => ?_) k6 k7 k8⟩
  · rcases k6 with rfl | rfl
    · rw [hput_ne h1, hput_ne h2]; exact k2 b h1 h3
    · rw [hput_ne h1, hput_ne (by omega)]; exact k2 b h1 h3
  · rw [hput_eq]; rfl
  · rw [hput_ne (by omega), hput_eq]
  · by_cases q1 : j < n
    · rw [hg2 j (by omega)]; exact k4 j hjc
    · by_cases q2 : j < n + nd k
      · have := hg1 (j - n) (by omega)
        rw [show n + nd k - nd k + (j - n) = j from by omega] at this
        exact ⟨_, by have := dgv_lt (j := j - n) hk; omega, this⟩
      · rw [hg2 j (by omega)]; exact k4 j hjc
  · rw [hg2 j (by omega)]; exact k5 j (by omega)
  · have := hg1 j hjn
    rw [show n + nd k - nd k + j = n + j from by omega] at this
    exact this
set_option maxRecDepth 20000 in
set_option maxHeartbeats 4000000 in
theorem c_app2 {G : GT} {h : Hp} {s v cap n k d : Nat} {ml : Int32} {g : Nat → Int32} {Q : RT → Hp → Prop} (hd : 6 ≤ d) (hj : JW2 G) (hz : Zr G h) (a : SB h s v cap n ml g) (hb : Fb g cap) (hs : s < h.1) (hv : v < h.1) (hvb : b0 G ≤ v) (hsb : b0 G ≤ s) (hsv : v ≠ s) (hc : cap < 490) (hc2 : 2 ≤ cap) (hn : n ≤ cap) (hk : k < 10000) (hq : ∀ h' v' g', h'.1 = h.1 + ceN (n + nd k) cap → (∀ b, b ≠ s → b ≠ v → b < h.1 → h'.2 b = h.2 b) → SB h' s v' (caN (n + nd k) cap) (n + nd k) ml g' → Fb g' (caN (n + nd k) cap) → (∀ j, j < n → g' j = g j) → (∀ j, j < nd k → g' (n + j) = nI (48 + dgv k j)) → (v' = v ∨ v' = h.1) → v' < h'.1 → v' ≠ s → Q (.inl (some (.ref s))) h') : Ct G mJ4_append_bf812 d (ceN (n + nd k) cap) (slN (n + nd k) cap) [.ref s, .int (nI k)] h Q := by
  have a0 := a.1
  unfold sbE at a0
  refine Ct.of rfl rfl (Nat.le_of_ble_eq_true rfl) ?_
  show V G mJ4_append_bf812 _ _ _ 0 [some (.ref s), some (.int (nI k))] [] h Q
  refine V_walk [] 60 ?_
  simp (disch := first | omega | assumption) only [↓wstep, ↓wq_s, ↓wq_0, stp, ↓WR0, ↓WR1, ↓WR2, ↓WR3, ↓WR4, ↓WR5, ↓WR6, ↓WR7, ↓WR8, ↓WR9, ↓WR10, ↓WR11, ↓WR12, WI0, WI1, WI2, WI3, fv_0, fv_1, fv_2, fv_3, lkI_0, lkI_1, kip, kin, tgp, tkp, tgn, tkn, bip, bin, sip, lget, lset1, lset2, lcat2, ↓ws_get, ↓ws_put, ws_cell, ws_cell1, ws_hcell, ws_hcell3, ws_hcell1, ↓cellOf, ↓ws_call, ↓ws_callS, ↓ws_oi, ↓ws_ac, ↓ws_mm, ↓ws_post, ↓ws_exc, popN, rok, clsAt, cnOf, catS_nil, catS_i, catS_r, catS_n, catS_l, catS_d, catS_f, nokc, Option.toList_none, Option.toList_some, List.cons_append, List.nil_append, List.length_cons, List.length_nil, List.set_cons_zero, List.set_cons_succ, List.getElem?_cons_zero, List.getElem?_cons_succ, Nat.reduceAdd, Nat.reduceSub, Nat.reduceMul, Nat.reduceEqDiff, Nat.reduceLeDiff, Nat.reduceLT, Nat.reduceDiv, Bool.false_eq_true, ↓reduceIte, true_and, and_true, false_and, and_false, reduceCtorEq, if_true, Nat.zero_add, cl, lt_nI, le_nI, eq_nI, in_nI, z_nI, retok, or_true, true_or, false_or, or_false, Nat.one_ne_zero, ne_eq, not_false_eq_true, not_true_eq_false, forall_const, Option.isSome_some, false_implies, implies_true, hput_1, hnew_1, vcat1, Nat.le_refl, Nat.not_lt_zero, Nat.lt_irrefl, hput_eq, hput_ne, hput_put, DJ4_append_bf812, DJ4_append_bf812_0, TJ4_append_bf812, MT_14, DJ5_append_c97b9, OI_a, AC_a, NT_a, a0, oi_e]
  refine CtE.of (d - 1) _ _ (by omega) (Nat.le_refl _) (Nat.le_refl _) (c_appI (by omega) hj hz a hb hs hv hvb hsb hsv hc hc2 hn hk (fun h1 v1 g1 k1 k2 k3 k4 k5 k6 k7 k8 k9 => ?_))
  simp (disch := first | omega | assumption) only [↓wstep, ↓wq_s, ↓wq_0, stp, ↓WR0, ↓WR1, ↓WR2, ↓WR3, ↓WR4, ↓WR5, ↓WR6, ↓WR7, ↓WR8, ↓WR9, ↓WR10, ↓WR11, ↓WR12, WI0, WI1, WI2, WI3, fv_0, fv_1, fv_2, fv_3, lkI_0, lkI_1, kip, kin, tgp, tkp, tgn, tkn, bip, bin, sip, lget, lset1, lset2, lcat2, ↓ws_get, ↓ws_put, ws_cell, ws_cell1, ws_hcell, ws_hcell3, ws_hcell1, ↓cellOf, ↓ws_call, ↓ws_callS, ↓ws_oi, ↓ws_ac, ↓ws_mm, ↓ws_post, ↓ws_exc, popN, rok, clsAt, cnOf, catS_nil, catS_i, catS_r, catS_n, catS_l, catS_d, catS_f, nokc, Option.toList_none, Option.toList_some, List.cons_append, List.nil_append, List.length_cons, List.length_nil, List.set_cons_zero, List.set_cons_succ, List.getElem?_cons_zero, List.getElem?_cons_succ, Nat.reduceAdd, Nat.reduceSub, Nat.reduceMul, Nat.reduceEqDiff, Nat.reduceLeDiff, Nat.reduceLT, Nat.reduceDiv, Bool.false_eq_true, ↓reduceIte, true_and, and_true, false_and, and_false, reduceCtorEq, if_true, Nat.zero_add, cl, lt_nI, le_nI, eq_nI, in_nI, z_nI, retok, or_true, true_or, false_or, or_false, Nat.one_ne_zero, ne_eq, not_false_eq_true, not_true_eq_false, forall_const, Option.isSome_some, false_implies, implies_true, hput_1, hnew_1, vcat1, Nat.le_refl, Nat.not_lt_zero, Nat.lt_irrefl, hput_eq, hput_ne, hput_put, DJ4_append_bf812, DJ4_append_bf812_0, TJ4_append_bf812, MT_14, DJ5_append_c97b9, OI_a, AC_a, NT_a]
  exact ⟨rfl, hq h1 v1 g1 k1 k2 k3 k4 k5 k6 k7 k8 k9⟩
set_option maxRecDepth 20000 in
set_option maxHeartbeats 4000000 in
/-- the text is emptied -/
theorem c_setLen5 {G : GT} {h : Hp} {s v cap n d : Nat} {ml : Int32} {g : Nat → Int32} {Q : RT → Hp → Prop} (hd : 5 ≤ d) (hj : JW2 G) (a : SB h s v cap n ml g) (hb : Fb g cap) (hs : s < h.1) (hv : v < h.1) (hsv : v ≠ s) (hc : cap < 1000) (hn : n ≤ cap) (hq : ∀ ml', Q (.inl none) (hput h s (sbE v 0 ml'))) : Ct G mJ5_setLength_d00df d 0 0 [.ref s, .int (nI 0)] h Q := by
  have a0 := a.1
  have c0 := hq ml
  unfold sbE at a0
  have key : Ct G mJ5_ensureCapacityInternal_d00df (d - 1) 0 0 [.ref s, .int (nI 0)] h (fun r h' => r = .inl none ∧ h' = h) := by
    have a1 := a.2
    have e1 := shr0 (m := cap) (by omega)
    have e2 : (nI 0 - nI cap ≤ nI 0) = True := eq_true (by rw [Int32.le_iff_toInt_le, pk_sub_toInt (by omega) (by omega), nI_toInt (by omega)]; omega)
    refine Ct.of rfl rfl (Nat.le_of_ble_eq_true rfl) ?_
    show V G mJ5_ensureCapacityInternal_d00df _ _ _ 0 [some (.ref s), some (.int (nI 0)), none] [] h _
    refine V_walk [] 40 ?_
    simp (disch := first | omega | assumption) only [↓wstep, ↓wq_s, ↓wq_0, stp, ↓WR0, ↓WR1, ↓WR2, ↓WR3, ↓WR4, ↓WR5, ↓WR6, ↓WR7, ↓WR8, ↓WR9, ↓WR10, ↓WR11, ↓WR12, WI0, WI1, WI2, WI3, fv_0, fv_1, fv_2, fv_3, lkI_0, lkI_1, kip, kin, tgp, tkp, tgn, tkn, bip, bin, sip, lget, lset1, lset2, lcat2, ↓ws_get, ↓ws_put, ws_cell, ws_cell1, ws_hcell, ws_hcell3, ws_hcell1, ↓cellOf, ↓ws_call, ↓ws_callS, ↓ws_oi, ↓ws_ac, ↓ws_mm, ↓ws_post, ↓ws_exc, popN, rok, clsAt, cnOf, catS_nil, catS_i, catS_r, catS_n, catS_l, catS_d, catS_f, nokc, Option.toList_none, Option.toList_some, List.cons_append, List.nil_append, List.length_cons, List.length_nil, List.set_cons_zero, List.set_cons_succ, List.getElem?_cons_zero, List.getElem?_cons_succ, Nat.reduceAdd, Nat.reduceSub, Nat.reduceMul, Nat.reduceEqDiff, Nat.reduceLeDiff, Nat.reduceLT, Nat.reduceDiv, Bool.false_eq_true, ↓reduceIte, true_and, and_true, false_and, and_false, reduceCtorEq, if_true, Nat.zero_add, cl, lt_nI, le_nI, eq_nI, in_nI, z_nI, retok, or_true, true_or, false_or, or_false, Nat.one_ne_zero, ne_eq, not_false_eq_true, not_true_eq_false, forall_const, Option.isSome_some, false_implies, implies_true, hput_1, hnew_1, vcat1, Nat.le_refl, Nat.not_lt_zero, Nat.lt_irrefl, hput_eq, hput_ne, hput_put, DJ5_ensureCapacityInternal_d00df, DJ5_ensureCapacityInternal_d00df_0, TJ5_ensureCapacityInternal_d00df, FT_15, MT_15, SC_15, DJ5_newCapacity_0f7a4, DJ7_copyOf_9075b, OI_a, AC_a, NT_a, a0, a1, e1, e2]
  refine Ct.of rfl rfl (Nat.le_of_ble_eq_true rfl) ?_
  show V G mJ5_setLength_d00df _ _ _ 0 [some (.ref s), some (.int (nI 0))] [] h Q
  refine V_walk [71, 76] 60 ?_
  simp (disch := first | omega | assumption) only [↓wstep, ↓wq_s, ↓wq_0, stp, ↓WR0, ↓WR1, ↓WR2, ↓WR3, ↓WR4, ↓WR5, ↓WR6, ↓WR7, ↓WR8, ↓WR9, ↓WR10, ↓WR11, ↓WR12, WI0, WI1, WI2, WI3, fv_0, fv_1, fv_2, fv_3, lkI_0, lkI_1, kip, kin, tgp, tkp, tgn, tkn, bip, bin, sip, lget, lset1, lset2, lcat2, ↓ws_get, ↓ws_put, ws_cell, ws_cell1, ws_hcell, ws_hcell3, ws_hcell1, ↓cellOf, ↓ws_call, ↓ws_callS, ↓ws_oi, ↓ws_ac, ↓ws_mm, ↓ws_post, ↓ws_exc, popN, rok, clsAt, cnOf, catS_nil, catS_i, catS_r, catS_n, catS_l, catS_d, catS_f, nokc, Option.toList_none, Option.toList_some, List.cons_append, List.nil_append, List.length_cons, List.length_nil, List.set_cons_zero, List.set_cons_succ, List.getElem?_cons_zero, List.getElem?_cons_succ, Nat.reduceAdd, Nat.reduceSub, Nat.reduceMul, Nat.reduceEqDiff, Nat.reduceLeDiff, Nat.reduceLT, Nat.reduceDiv, Bool.false_eq_true, ↓reduceIte, true_and, and_true, false_and, and_false, reduceCtorEq, if_true, Nat.zero_add, cl, lt_nI, le_nI, eq_nI, in_nI, z_nI, retok, or_true, true_or, false_or, or_false, Nat.one_ne_zero, ne_eq, not_false_eq_true, not_true_eq_false, forall_const, Option.isSome_some, false_implies, implies_true, hput_1, hnew_1, vcat1, Nat.le_refl, Nat.not_lt_zero, Nat.lt_irrefl, hput_eq, hput_ne, hput_put, DJ5_setLength_d00df, DJ5_setLength_d00df_0, TJ5_setLength_d00df, FT_15, MT_15, SC_15, DJ5_ensureCapacityInternal_d00df, DJ5_isLatin1_aae02, DJ1_fillNull_b72d1, DJ2_fillNull_b72d1, OI_a, AC_a, NT_a, a0, Nat.zero_le]
  refine CtE.of0 (by omega) (key.mono (fun r h' e => ?_))
  obtain ⟨rfl, rfl⟩ := e
  simp (disch := first | omega | assumption) only [↓wstep, ↓wq_s, ↓wq_0, stp, ↓WR0, ↓WR1, ↓WR2, ↓WR3, ↓WR4, ↓WR5, ↓WR6, ↓WR7, ↓WR8, ↓WR9, ↓WR10, ↓WR11, ↓WR12, WI0, WI1, WI2, WI3, fv_0, fv_1, fv_2, fv_3, lkI_0, lkI_1, kip, kin, tgp, tkp, tgn, tkn, bip, bin, sip, lget, lset1, lset2, lcat2, ↓ws_get, ↓ws_put, ws_cell, ws_cell1, ws_hcell, ws_hcell3, ws_hcell1, ↓cellOf, ↓ws_call, ↓ws_callS, ↓ws_oi, ↓ws_ac, ↓ws_mm, ↓ws_post, ↓ws_exc, popN, rok, clsAt, cnOf, catS_nil, catS_i, catS_r, catS_n, catS_l, catS_d, catS_f, nokc, Option.toList_none, Option.toList_some, List.cons_append, List.nil_append, List.length_cons, List.length_nil, List.set_cons_zero, List.set_cons_succ, List.getElem?_cons_zero, List.getElem?_cons_succ, Nat.reduceAdd, Nat.reduceSub, Nat.reduceMul, Nat.reduceEqDiff, Nat.reduceLeDiff, Nat.reduceLT, Nat.reduceDiv, Bool.false_eq_true, ↓reduceIte, true_and, and_true, false_and, and_false, reduceCtorEq, if_true, Nat.zero_add, cl, lt_nI, le_nI, eq_nI, in_nI, z_nI, retok, or_true, true_or, false_or, or_false, Nat.one_ne_zero, ne_eq, not_false_eq_true, not_true_eq_false, forall_const, Option.isSome_some, false_implies, implies_true, hput_1, hnew_1, vcat1, Nat.le_refl, Nat.not_lt_zero, Nat.lt_irrefl, hput_eq, hput_ne, hput_put, DJ5_setLength_d00df, DJ5_setLength_d00df_0, TJ5_setLength_d00df, FT_15, MT_15, SC_15, DJ5_ensureCapacityInternal_d00df, DJ5_isLatin1_aae02, DJ1_fillNull_b72d1, DJ2_fillNull_b72d1, OI_a, AC_a, NT_a, a0, Nat.zero_le]
  refine ⟨fun q => ?_, fun q => ?_⟩
  · refine V_walk [] 60 ?_
    simp (disch := first | omega | assumption) only [↓wstep, ↓wq_s, ↓wq_0, stp, ↓WR0, ↓WR1, ↓WR2, ↓WR3, ↓WR4, ↓WR5, ↓WR6, ↓WR7, ↓WR8, ↓WR9, ↓WR10, ↓WR11, ↓WR12, WI0, WI1, WI2, WI3, fv_0, fv_1, fv_2, fv_3, lkI_0, lkI_1, kip, kin, tgp, tkp, tgn, tkn, bip, bin, sip, lget, lset1, lset2, lcat2, ↓ws_get, ↓ws_put, ws_cell, ws_cell1, ws_hcell, ws_hcell3, ws_hcell1, ↓cellOf, ↓ws_call, ↓ws_callS, ↓ws_oi, ↓ws_ac, ↓ws_mm, ↓ws_post, ↓ws_exc, popN, rok, clsAt, cnOf, catS_nil, catS_i, catS_r, catS_n, catS_l, catS_d, catS_f, nokc, Option.toList_none, Option.toList_some, List.cons_append, List.nil_append, List.length_cons, List.length_nil, List.set_cons_zero, List.set_cons_succ, List.getElem?_cons_zero, List.getElem?_cons_succ, Nat.reduceAdd, Nat.reduceSub, Nat.reduceMul, Nat.reduceEqDiff, Nat.reduceLeDiff, Nat.reduceLT, Nat.reduceDiv, Bool.false_eq_true, ↓reduceIte, true_and, and_true, false_and, and_false, reduceCtorEq, if_true, Nat.zero_add, cl, lt_nI, le_nI, eq_nI, in_nI, z_nI, retok, or_true, true_or, false_or, or_false, Nat.one_ne_zero, ne_eq, not_false_eq_true, not_true_eq_false, forall_const, Option.isSome_some, false_implies, implies_true, hput_1, hnew_1, vcat1, Nat.le_refl, Nat.not_lt_zero, Nat.lt_irrefl, hput_eq, hput_ne, hput_put, DJ5_setLength_d00df, DJ5_setLength_d00df_0, TJ5_setLength_d00df, FT_15, MT_15, SC_15, DJ5_ensureCapacityInternal_d00df, DJ5_isLatin1_aae02, DJ1_fillNull_b72d1, DJ2_fillNull_b72d1, OI_a, AC_a, NT_a, a0]
    exact hq ml
  · refine V_walk [] 60 ?_
    simp (disch := first | omega | assumption) only [↓wstep, ↓wq_s, ↓wq_0, stp, ↓WR0, ↓WR1, ↓WR2, ↓WR3, ↓WR4, ↓WR5, ↓WR6, ↓WR7, ↓WR8, ↓WR9, ↓WR10, ↓WR11, ↓WR12, WI0, WI1, WI2, WI3, fv_0, fv_1, fv_2, fv_3, lkI_0, lkI_1, kip, kin, tgp, tkp, tgn, tkn, bip, bin, sip, lget, lset1, lset2, lcat2, ↓ws_get, ↓ws_put, ws_cell, ws_cell1, ws_hcell, ws_hcell3, ws_hcell1, ↓cellOf, ↓ws_call, ↓ws_callS, ↓ws_oi, ↓ws_ac, ↓ws_mm, ↓ws_post, ↓ws_exc, popN, rok, clsAt, cnOf, catS_nil, catS_i, catS_r, catS_n, catS_l, catS_d, catS_f, nokc, Option.toList_none, Option.toList_some, List.cons_append, List.nil_append, List.length_cons, List.length_nil, List.set_cons_zero, List.set_cons_succ, List.getElem?_cons_zero, List.getElem?_cons_succ, Nat.reduceAdd, Nat.reduceSub, Nat.reduceMul, Nat.reduceEqDiff, Nat.reduceLeDiff, Nat.reduceLT, Nat.reduceDiv, Bool.false_eq_true, ↓reduceIte, true_and, and_true, false_and, and_false, reduceCtorEq, if_true, Nat.zero_add, cl, lt_nI, le_nI, eq_nI, in_nI, z_nI, retok, or_true, true_or, false_or, or_false, Nat.one_ne_zero, ne_eq, not_false_eq_true, not_true_eq_false, forall_const, Option.isSome_some, false_implies, implies_true, hput_1, hnew_1, vcat1, Nat.le_refl, Nat.not_lt_zero, Nat.lt_irrefl, hput_eq, hput_ne, hput_put, DJ5_setLength_d00df, DJ5_setLength_d00df_0, TJ5_setLength_d00df, FT_15, MT_15, SC_15, DJ5_ensureCapacityInternal_d00df, DJ5_isLatin1_aae02, DJ1_fillNull_b72d1, DJ2_fillNull_b72d1, OI_a, AC_a, NT_a, a0]
    exact hq (nI 1)
set_option maxRecDepth 20000 in
set_option maxHeartbeats 4000000 in
theorem c_setLen0 {G : GT} {h : Hp} {s v cap n d : Nat} {ml : Int32} {g : Nat → Int32} {Q : RT → Hp → Prop} (hd : 6 ≤ d) (hj : JW2 G) (a : SB h s v cap n ml g) (hb : Fb g cap) (hs : s < h.1) (hv : v < h.1) (hsv : v ≠ s) (hc : cap < 1000) (hn : n ≤ cap) (hq : ∀ ml', Q (.inl none) (hput h s (sbE v 0 ml'))) : Ct G mJ4_setLength_d00df d 0 0 [.ref s, .int (nI 0)] h Q := by
  have a0 := a.1
  unfold sbE at a0
  refine Ct.of rfl rfl (Nat.le_of_ble_eq_true rfl) ?_
  show V G mJ4_setLength_d00df _ _ _ 0 [some (.ref s), some (.int (nI 0))] [] h Q
  refine V_walk [] 60 ?_
  simp (disch := first | omega | assumption) only [↓wstep, ↓wq_s, ↓wq_0, stp, ↓WR0, ↓WR1, ↓WR2, ↓WR3, ↓WR4, ↓WR5, ↓WR6, ↓WR7, ↓WR8, ↓WR9, ↓WR10, ↓WR11, ↓WR12, WI0, WI1, WI2, WI3, fv_0, fv_1, fv_2, fv_3, lkI_0, lkI_1, kip, kin, tgp, tkp, tgn, tkn, bip, bin, sip, lget, lset1, lset2, lcat2, ↓ws_get, ↓ws_put, ws_cell, ws_cell1, ws_hcell, ws_hcell3, ws_hcell1, ↓cellOf, ↓ws_call, ↓ws_callS, ↓ws_oi, ↓ws_ac, ↓ws_mm, ↓ws_post, ↓ws_exc, popN, rok, clsAt, cnOf, catS_nil, catS_i, catS_r, catS_n, catS_l, catS_d, catS_f, nokc, Option.toList_none, Option.toList_some, List.cons_append, List.nil_append, List.length_cons, List.length_nil, List.set_cons_zero, List.set_cons_succ, List.getElem?_cons_zero, List.getElem?_cons_succ, Nat.reduceAdd, Nat.reduceSub, Nat.reduceMul, Nat.reduceEqDiff, Nat.reduceLeDiff, Nat.reduceLT, Nat.reduceDiv, Bool.false_eq_true, ↓reduceIte, true_and, and_true, false_and, and_false, reduceCtorEq, if_true, Nat.zero_add, cl, lt_nI, le_nI, eq_nI, in_nI, z_nI, retok, or_true, true_or, false_or, or_false, Nat.one_ne_zero, ne_eq, not_false_eq_true, not_true_eq_false, forall_const, Option.isSome_some, false_implies, implies_true, hput_1, hnew_1, vcat1, Nat.le_refl, Nat.not_lt_zero, Nat.lt_irrefl, hput_eq, hput_ne, hput_put, DJ4_setLength_d00df, DJ4_setLength_d00df_0, TJ4_setLength_d00df, MT_14, DJ5_setLength_d00df, OI_a, AC_a, NT_a, a0, oi_e]
  refine CtE.of0 (by omega) (c_setLen5 (by omega) hj a hb hs hv hsv hc hn (fun ml' => ?_))
  simp (disch := first | omega | assumption) only [↓wstep, ↓wq_s, ↓wq_0, stp, ↓WR0, ↓WR1, ↓WR2, ↓WR3, ↓WR4, ↓WR5, ↓WR6, ↓WR7, ↓WR8, ↓WR9, ↓WR10, ↓WR11, ↓WR12, WI0, WI1, WI2, WI3, fv_0, fv_1, fv_2, fv_3, lkI_0, lkI_1, kip, kin, tgp, tkp, tgn, tkn, bip, bin, sip, lget, lset1, lset2, lcat2, ↓ws_get, ↓ws_put, ws_cell, ws_cell1, ws_hcell, ws_hcell3, ws_hcell1, ↓cellOf, ↓ws_call, ↓ws_callS, ↓ws_oi, ↓ws_ac, ↓ws_mm, ↓ws_post, ↓ws_exc, popN, rok, clsAt, cnOf, catS_nil, catS_i, catS_r, catS_n, catS_l, catS_d, catS_f, nokc, Option.toList_none, Option.toList_some, List.cons_append, List.nil_append, List.length_cons, List.length_nil, List.set_cons_zero, List.set_cons_succ, List.getElem?_cons_zero, List.getElem?_cons_succ, Nat.reduceAdd, Nat.reduceSub, Nat.reduceMul, Nat.reduceEqDiff, Nat.reduceLeDiff, Nat.reduceLT, Nat.reduceDiv, Bool.false_eq_true, ↓reduceIte, true_and, and_true, false_and, and_false, reduceCtorEq, if_true, Nat.zero_add, cl, lt_nI, le_nI, eq_nI, in_nI, z_nI, retok, or_true, true_or, false_or, or_false, Nat.one_ne_zero, ne_eq, not_false_eq_true, not_true_eq_false, forall_const, Option.isSome_some, false_implies, implies_true, hput_1, hnew_1, vcat1, Nat.le_refl, Nat.not_lt_zero, Nat.lt_irrefl, hput_eq, hput_ne, hput_put, DJ4_setLength_d00df, DJ4_setLength_d00df_0, TJ4_setLength_d00df, MT_14, DJ5_setLength_d00df, OI_a, AC_a, NT_a]
  exact hq ml'
set_option maxRecDepth 20000 in
set_option maxHeartbeats 4000000 in
theorem c_sbLen {G : GT} {h : Hp} {s v cap n d : Nat} {ml : Int32} {g : Nat → Int32} {Q : RT → Hp → Prop} (hd : 2 ≤ d) (a : SB h s v cap n ml g) (hq : Q (.inl (some (.int (nI n)))) h) : Ct G mJ4_length_8abf5 d 0 0 [.ref s] h Q := by
  have a0 := a.1
  unfold sbE at a0
  have key : Ct G mJ5_length_8abf5 (d - 1) 0 0 [.ref s] h (fun r h' => r = .inl (some (.int (nI n))) ∧ h' = h) := by
    refine Ct.of rfl rfl (Nat.le_of_ble_eq_true rfl) ?_
    show V G mJ5_length_8abf5 _ _ _ 0 [some (.ref s)] [] h _
    refine V_walk [] 40 ?_
    simp (disch := first | omega | assumption) only [↓wstep, ↓wq_s, ↓wq_0, stp, ↓WR0, ↓WR1, ↓WR2, ↓WR3, ↓WR4, ↓WR5, ↓WR6, ↓WR7, ↓WR8, ↓WR9, ↓WR10, ↓WR11, ↓WR12, WI0, WI1, WI2, WI3, fv_0, fv_1, fv_2, fv_3, lkI_0, lkI_1, kip, kin, tgp, tkp, tgn, tkn, bip, bin, sip, lget, lset1, lset2, lcat2, ↓ws_get, ↓ws_put, ws_cell, ws_cell1, ws_hcell, ws_hcell3, ws_hcell1, ↓cellOf, ↓ws_call, ↓ws_callS, ↓ws_oi, ↓ws_ac, ↓ws_mm, ↓ws_post, ↓ws_exc, popN, rok, clsAt, cnOf, catS_nil, catS_i, catS_r, catS_n, catS_l, catS_d, catS_f, nokc, Option.toList_none, Option.toList_some, List.cons_append, List.nil_append, List.length_cons, List.length_nil, List.set_cons_zero, List.set_cons_succ, List.getElem?_cons_zero, List.getElem?_cons_succ, Nat.reduceAdd, Nat.reduceSub, Nat.reduceMul, Nat.reduceEqDiff, Nat.reduceLeDiff, Nat.reduceLT, Nat.reduceDiv, Bool.false_eq_true, ↓reduceIte, true_and, and_true, false_and, and_false, reduceCtorEq, if_true, Nat.zero_add, cl, lt_nI, le_nI, eq_nI, in_nI, z_nI, retok, or_true, true_or, false_or, or_false, Nat.one_ne_zero, ne_eq, not_false_eq_true, not_true_eq_false, forall_const, Option.isSome_some, false_implies, implies_true, hput_1, hnew_1, vcat1, Nat.le_refl, Nat.not_lt_zero, Nat.lt_irrefl, hput_eq, hput_ne, hput_put, DJ5_length_8abf5, DJ5_length_8abf5_0, TJ5_length_8abf5, FT_15, MT_15, SC_15, OI_a, AC_a, NT_a, a0]
  refine Ct.of rfl rfl (Nat.le_of_ble_eq_true rfl) ?_
  show V G mJ4_length_8abf5 _ _ _ 0 [some (.ref s)] [] h Q
  refine V_walk [] 60 ?_
  simp (disch := first | omega | assumption) only [↓wstep, ↓wq_s, ↓wq_0, stp, ↓WR0, ↓WR1, ↓WR2, ↓WR3, ↓WR4, ↓WR5, ↓WR6, ↓WR7, ↓WR8, ↓WR9, ↓WR10, ↓WR11, ↓WR12, WI0, WI1, WI2, WI3, fv_0, fv_1, fv_2, fv_3, lkI_0, lkI_1, kip, kin, tgp, tkp, tgn, tkn, bip, bin, sip, lget, lset1, lset2, lcat2, ↓ws_get, ↓ws_put, ws_cell, ws_cell1, ws_hcell, ws_hcell3, ws_hcell1, ↓cellOf, ↓ws_call, ↓ws_callS, ↓ws_oi, ↓ws_ac, ↓ws_mm, ↓ws_post, ↓ws_exc, popN, rok, clsAt, cnOf, catS_nil, catS_i, catS_r, catS_n, catS_l, catS_d, catS_f, nokc, Option.toList_none, Option.toList_some, List.cons_append, List.nil_append, List.length_cons, List.length_nil, List.set_cons_zero, List.set_cons_succ, List.getElem?_cons_zero, List.getElem?_cons_succ, Nat.reduceAdd, Nat.reduceSub, Nat.reduceMul, Nat.reduceEqDiff, Nat.reduceLeDiff, Nat.reduceLT, Nat.reduceDiv, Bool.false_eq_true, ↓reduceIte, true_and, and_true, false_and, and_false, reduceCtorEq, if_true, Nat.zero_add, cl, lt_nI, le_nI, eq_nI, in_nI, z_nI, retok, or_true, true_or, false_or, or_false, Nat.one_ne_zero, ne_eq, not_false_eq_true, not_true_eq_false, forall_const, Option.isSome_some, false_implies, implies_true, hput_1, hnew_1, vcat1, Nat.le_refl, Nat.not_lt_zero, Nat.lt_irrefl, hput_eq, hput_ne, hput_put, DJ4_length_8abf5, DJ4_length_8abf5_0, TJ4_length_8abf5, MT_14, DJ5_length_8abf5, OI_a, AC_a, NT_a, a0, oi_e]
  refine CtE.of0 (by omega) (key.mono (fun r h' e => ?_))
  obtain ⟨rfl, rfl⟩ := e
  simp (disch := first | omega | assumption) only [↓wstep, ↓wq_s, ↓wq_0, stp, ↓WR0, ↓WR1, ↓WR2, ↓WR3, ↓WR4, ↓WR5, ↓WR6, ↓WR7, ↓WR8, ↓WR9, ↓WR10, ↓WR11, ↓WR12, WI0, WI1, WI2, WI3, fv_0, fv_1, fv_2, fv_3, lkI_0, lkI_1, kip, kin, tgp, tkp, tgn, tkn, bip, bin, sip, lget, lset1, lset2, lcat2, ↓ws_get, ↓ws_put, ws_cell, ws_cell1, ws_hcell, ws_hcell3, ws_hcell1, ↓cellOf, ↓ws_call, ↓ws_callS, ↓ws_oi, ↓ws_ac, ↓ws_mm, ↓ws_post, ↓ws_exc, popN, rok, clsAt, cnOf, catS_nil, catS_i, catS_r, catS_n, catS_l, catS_d, catS_f, nokc, Option.toList_none, Option.toList_some, List.cons_append, List.nil_append, List.length_cons, List.length_nil, List.set_cons_zero, List.set_cons_succ, List.getElem?_cons_zero, List.getElem?_cons_succ, Nat.reduceAdd, Nat.reduceSub, Nat.reduceMul, Nat.reduceEqDiff, Nat.reduceLeDiff, Nat.reduceLT, Nat.reduceDiv, Bool.false_eq_true, ↓reduceIte, true_and, and_true, false_and, and_false, reduceCtorEq, if_true, Nat.zero_add, cl, lt_nI, le_nI, eq_nI, in_nI, z_nI, retok, or_true, true_or, false_or, or_false, Nat.one_ne_zero, ne_eq, not_false_eq_true, not_true_eq_false, forall_const, Option.isSome_some, false_implies, implies_true, hput_1, hnew_1, vcat1, Nat.le_refl, Nat.not_lt_zero, Nat.lt_irrefl, hput_eq, hput_ne, hput_put, DJ4_length_8abf5, DJ4_length_8abf5_0, TJ4_length_8abf5, MT_14, DJ5_length_8abf5, OI_a, AC_a, NT_a]
  exact hq
set_option maxRecDepth 20000 in
set_option maxHeartbeats 4000000 in
theorem c_sbAt5 {G : GT} {h : Hp} {s v cap n i c d : Nat} {ml : Int32} {g : Nat → Int32} {Q : RT → Hp → Prop} (hd : 4 ≤ d) (hj : JW G) (a : SB h s v cap n ml g) (hi : i < n) (hn : n ≤ cap) (hc : cap < 1000) (hcc : c < 128) (hg : g i = nI c) (hq : Q (.inl (some (.int (nI c)))) h) : Ct G mJ5_charAt_5068e d 0 0 [.ref s, .int (nI i)] h Q := by
  have a0 := a.1
  have a1 := a.2
  unfold sbE at a0
  have e1 := shr0 (m := cap) (by omega)
  have e2 : (if nI cap < nI n then nI cap else nI n) = nI n := if_neg (by rw [lt_nI (by omega) (by omega)]; omega)
  have e2' : (if cap < n then nI cap else nI n) = nI n := if_neg (by omega)
  have e3 := (by_all c hcc).2.2
  have e4 := (sb_byte c (by omega)).2.1
  have i1 : i < cap := by omega
  refine Ct.of rfl rfl (Nat.le_of_ble_eq_true rfl) ?_
  show V G mJ5_charAt_5068e _ _ _ 0 [some (.ref s), some (.int (nI i)), none, none, none] [] h Q
  refine V_walk [] 60 ?_
  simp (disch := first | omega | assumption) only [↓wstep, ↓wq_s, ↓wq_0, stp, ↓WR0, ↓WR1, ↓WR2, ↓WR3, ↓WR4, ↓WR5, ↓WR6, ↓WR7, ↓WR8, ↓WR9, ↓WR10, ↓WR11, ↓WR12, WI0, WI1, WI2, WI3, fv_0, fv_1, fv_2, fv_3, lkI_0, lkI_1, kip, kin, tgp, tkp, tgn, tkn, bip, bin, sip, lget, lset1, lset2, lcat2, ↓ws_get, ↓ws_put, ws_cell, ws_cell1, ws_hcell, ws_hcell3, ws_hcell1, ↓cellOf, ↓ws_call, ↓ws_callS, ↓ws_oi, ↓ws_ac, ↓ws_mm, ↓ws_post, ↓ws_exc, popN, rok, clsAt, cnOf, catS_nil, catS_i, catS_r, catS_n, catS_l, catS_d, catS_f, nokc, Option.toList_none, Option.toList_some, List.cons_append, List.nil_append, List.length_cons, List.length_nil, List.set_cons_zero, List.set_cons_succ, List.getElem?_cons_zero, List.getElem?_cons_succ, Nat.reduceAdd, Nat.reduceSub, Nat.reduceMul, Nat.reduceEqDiff, Nat.reduceLeDiff, Nat.reduceLT, Nat.reduceDiv, Bool.false_eq_true, ↓reduceIte, true_and, and_true, false_and, and_false, reduceCtorEq, if_true, Nat.zero_add, cl, lt_nI, le_nI, eq_nI, in_nI, z_nI, retok, or_true, true_or, false_or, or_false, Nat.one_ne_zero, ne_eq, not_false_eq_true, not_true_eq_false, forall_const, Option.isSome_some, false_implies, implies_true, hput_1, hnew_1, vcat1, Nat.le_refl, Nat.not_lt_zero, Nat.lt_irrefl, hput_eq, hput_ne, hput_put, DJ5_charAt_5068e, DJ5_charAt_5068e_0, TJ5_charAt_5068e, FT_15, MT_15, SC_15, DJ0_checkIndex_df160, DJ2_getChar_3b067, OI_a, AC_a, NT_a, a0, a1, e1, e2, e2']
  refine ⟨by omega, ?_⟩
  refine CtE.of0 (by omega) (c_strIx (by omega) hj hi (by omega) ?_)
  simp (disch := first | omega | assumption) only [↓wstep, ↓wq_s, ↓wq_0, stp, ↓WR0, ↓WR1, ↓WR2, ↓WR3, ↓WR4, ↓WR5, ↓WR6, ↓WR7, ↓WR8, ↓WR9, ↓WR10, ↓WR11, ↓WR12, WI0, WI1, WI2, WI3, fv_0, fv_1, fv_2, fv_3, lkI_0, lkI_1, kip, kin, tgp, tkp, tgn, tkn, bip, bin, sip, lget, lset1, lset2, lcat2, ↓ws_get, ↓ws_put, ws_cell, ws_cell1, ws_hcell, ws_hcell3, ws_hcell1, ↓cellOf, ↓ws_call, ↓ws_callS, ↓ws_oi, ↓ws_ac, ↓ws_mm, ↓ws_post, ↓ws_exc, popN, rok, clsAt, cnOf, catS_nil, catS_i, catS_r, catS_n, catS_l, catS_d, catS_f, nokc, Option.toList_none, Option.toList_some, List.cons_append, List.nil_append, List.length_cons, List.length_nil, List.set_cons_zero, List.set_cons_succ, List.getElem?_cons_zero, List.getElem?_cons_succ, Nat.reduceAdd, Nat.reduceSub, Nat.reduceMul, Nat.reduceEqDiff, Nat.reduceLeDiff, Nat.reduceLT, Nat.reduceDiv, Bool.false_eq_true, ↓reduceIte, true_and, and_true, false_and, and_false, reduceCtorEq, if_true, Nat.zero_add, cl, lt_nI, le_nI, eq_nI, in_nI, z_nI, retok, or_true, true_or, false_or, or_false, Nat.one_ne_zero, ne_eq, not_false_eq_true, not_true_eq_false, forall_const, Option.isSome_some, false_implies, implies_true, hput_1, hnew_1, vcat1, Nat.le_refl, Nat.not_lt_zero, Nat.lt_irrefl, hput_eq, hput_ne, hput_put, DJ5_charAt_5068e, DJ5_charAt_5068e_0, TJ5_charAt_5068e, FT_15, MT_15, SC_15, DJ0_checkIndex_df160, DJ2_getChar_3b067, OI_a, AC_a, NT_a, a1, hg, e3, e4]
  exact ⟨⟨c, by omega, rfl⟩, hq⟩
set_option maxRecDepth 20000 in
set_option maxHeartbeats 4000000 in
theorem c_sbAt {G : GT} {h : Hp} {s v cap n i c d : Nat} {ml : Int32} {g : Nat → Int32} {Q : RT → Hp → Prop} (hd : 5 ≤ d) (hj : JW G) (a : SB h s v cap n ml g) (hi : i < n) (hn : n ≤ cap) (hc : cap < 1000) (hcc : c < 128) (hg : g i = nI c) (hq : Q (.inl (some (.int (nI c)))) h) : Ct G mJ4_charAt_5068e d 0 0 [.ref s, .int (nI i)] h Q := by
  have a0 := a.1
  unfold sbE at a0
  refine Ct.of rfl rfl (Nat.le_of_ble_eq_true rfl) ?_
  show V G mJ4_charAt_5068e _ _ _ 0 [some (.ref s), some (.int (nI i))] [] h Q
  refine V_walk [] 60 ?_
  simp (disch := first | omega | assumption) only [↓wstep, ↓wq_s, ↓wq_0, stp, ↓WR0, ↓WR1, ↓WR2, ↓WR3, ↓WR4, ↓WR5, ↓WR6, ↓WR7, ↓WR8, ↓WR9, ↓WR10, ↓WR11, ↓WR12, WI0, WI1, WI2, WI3, fv_0, fv_1, fv_2, fv_3, lkI_0, lkI_1, kip, kin, tgp, tkp, tgn, tkn, bip, bin, sip, lget, lset1, lset2, lcat2, ↓ws_get, ↓ws_put, ws_cell, ws_cell1, ws_hcell, ws_hcell3, ws_hcell1, ↓cellOf, ↓ws_call, ↓ws_callS, ↓ws_oi, ↓ws_ac, ↓ws_mm, ↓ws_post, ↓ws_exc, popN, rok, clsAt, cnOf, catS_nil, catS_i, catS_r, catS_n, catS_l, catS_d, catS_f, nokc, Option.toList_none, Option.toList_some, List.cons_append, List.nil_append, List.length_cons, List.length_nil, List.set_cons_zero, List.set_cons_succ, List.getElem?_cons_zero, List.getElem?_cons_succ, Nat.reduceAdd, Nat.reduceSub, Nat.reduceMul, Nat.reduceEqDiff, Nat.reduceLeDiff, Nat.reduceLT, Nat.reduceDiv, Bool.false_eq_true, ↓reduceIte, true_and, and_true, false_and, and_false, reduceCtorEq, if_true, Nat.zero_add, cl, lt_nI, le_nI, eq_nI, in_nI, z_nI, retok, or_true, true_or, false_or, or_false, Nat.one_ne_zero, ne_eq, not_false_eq_true, not_true_eq_false, forall_const, Option.isSome_some, false_implies, implies_true, hput_1, hnew_1, vcat1, Nat.le_refl, Nat.not_lt_zero, Nat.lt_irrefl, hput_eq, hput_ne, hput_put, DJ4_charAt_5068e, DJ4_charAt_5068e_0, TJ4_charAt_5068e, MT_14, DJ5_charAt_5068e, OI_a, AC_a, NT_a, a0, oi_e]
  refine CtE.of0 (by omega) (c_sbAt5 (by omega) hj a hi hn hc hcc hg ?_)
  simp (disch := first | omega | assumption) only [↓wstep, ↓wq_s, ↓wq_0, stp, ↓WR0, ↓WR1, ↓WR2, ↓WR3, ↓WR4, ↓WR5, ↓WR6, ↓WR7, ↓WR8, ↓WR9, ↓WR10, ↓WR11, ↓WR12, WI0, WI1, WI2, WI3, fv_0, fv_1, fv_2, fv_3, lkI_0, lkI_1, kip, kin, tgp, tkp, tgn, tkn, bip, bin, sip, lget, lset1, lset2, lcat2, ↓ws_get, ↓ws_put, ws_cell, ws_cell1, ws_hcell, ws_hcell3, ws_hcell1, ↓cellOf, ↓ws_call, ↓ws_callS, ↓ws_oi, ↓ws_ac, ↓ws_mm, ↓ws_post, ↓ws_exc, popN, rok, clsAt, cnOf, catS_nil, catS_i, catS_r, catS_n, catS_l, catS_d, catS_f, nokc, Option.toList_none, Option.toList_some, List.cons_append, List.nil_append, List.length_cons, List.length_nil, List.set_cons_zero, List.set_cons_succ, List.getElem?_cons_zero, List.getElem?_cons_succ, Nat.reduceAdd, Nat.reduceSub, Nat.reduceMul, Nat.reduceEqDiff, Nat.reduceLeDiff, Nat.reduceLT, Nat.reduceDiv, Bool.false_eq_true, ↓reduceIte, true_and, and_true, false_and, and_false, reduceCtorEq, if_true, Nat.zero_add, cl, lt_nI, le_nI, eq_nI, in_nI, z_nI, retok, or_true, true_or, false_or, or_false, Nat.one_ne_zero, ne_eq, not_false_eq_true, not_true_eq_false, forall_const, Option.isSome_some, false_implies, implies_true, hput_1, hnew_1, vcat1, Nat.le_refl, Nat.not_lt_zero, Nat.lt_irrefl, hput_eq, hput_ne, hput_put, DJ4_charAt_5068e, DJ4_charAt_5068e_0, TJ4_charAt_5068e, MT_14, DJ5_charAt_5068e, OI_a, AC_a, NT_a]
  exact ⟨⟨c, by omega, rfl⟩, hq⟩
set_option maxRecDepth 20000 in
set_option maxHeartbeats 4000000 in
theorem c_sbInit {G : GT} {h : Hp} {s d : Nat} {Q : RT → Hp → Prop} (hd : 3 ≤ d) (hj : JW2 G) (hn : h.1 = s + 1) (a : h.2 s = some (.inr (7, [.null, .int (nI 0), .int (nI 0), .int (nI 0)]))) (hq : ∀ h', Fw h h' s (s + 2) → SB h' s (s + 1) 16 0 (nI 0) (fun _ => nI 0) → Q (.inl none) h') : Ct G mJ4_init_da8c8 d 1 16 [.ref s] h Q := by
  have key : Ct G mJ5_init_d00df (d - 1) 1 16 [.ref s, .int (nI 16)] h (fun r h' => r = .inl none ∧ Fw h h' s (s + 2) ∧ SB h' s (s + 1) 16 0 (nI 0) (fun _ => nI 0)) := by
    have j1 := hj.1
    refine Ct.of rfl rfl (Nat.le_of_ble_eq_true rfl) ?_
    show V G mJ5_init_d00df _ _ _ 0 [some (.ref s), some (.int (nI 16))] [] h _
    have hd1 : 1 ≤ d - 1 := by omega
    refine V_walk [14] 40 ?_
    simp (disch := first | omega | assumption) only [↓wstep, ↓wq_s, ↓wq_0, stp, ↓WR0, ↓WR1, ↓WR2, ↓WR3, ↓WR4, ↓WR5, ↓WR6, ↓WR7, ↓WR8, ↓WR9, ↓WR10, ↓WR11, ↓WR12, WI0, WI1, WI2, WI3, fv_0, fv_1, fv_2, fv_3, lkI_0, lkI_1, kip, kin, tgp, tkp, tgn, tkn, bip, bin, sip, lget, lset1, lset2, lcat2, ↓ws_get, ↓ws_put, ws_cell, ws_cell1, ws_hcell, ws_hcell3, ws_hcell1, ↓cellOf, ↓ws_call, ↓ws_callS, ↓ws_oi, ↓ws_ac, ↓ws_mm, ↓ws_post, ↓ws_exc, popN, rok, clsAt, cnOf, catS_nil, catS_i, catS_r, catS_n, catS_l, catS_d, catS_f, nokc, Option.toList_none, Option.toList_some, List.cons_append, List.nil_append, List.length_cons, List.length_nil, List.set_cons_zero, List.set_cons_succ, List.getElem?_cons_zero, List.getElem?_cons_succ, Nat.reduceAdd, Nat.reduceSub, Nat.reduceMul, Nat.reduceEqDiff, Nat.reduceLeDiff, Nat.reduceLT, Nat.reduceDiv, Bool.false_eq_true, ↓reduceIte, true_and, and_true, false_and, and_false, reduceCtorEq, if_true, Nat.zero_add, cl, lt_nI, le_nI, eq_nI, in_nI, z_nI, retok, or_true, true_or, false_or, or_false, Nat.one_ne_zero, ne_eq, not_false_eq_true, not_true_eq_false, forall_const, Option.isSome_some, false_implies, implies_true, hput_1, hnew_1, vcat1, Nat.le_refl, Nat.not_lt_zero, Nat.lt_irrefl, hput_eq, hput_ne, hput_put, DJ5_init_d00df, DJ5_init_d00df_0, TJ5_init_d00df, FT_15, MT_15, SC_15, DJ2_newBytesFor_77867, OI_a, AC_a, NT_a, hd1, j1, atn]
    refine ⟨16, rfl, by omega, by omega, ?_⟩
    refine V_walk [] 40 ?_
    simp (disch := first | omega | assumption) only [↓wstep, ↓wq_s, ↓wq_0, stp, ↓WR0, ↓WR1, ↓WR2, ↓WR3, ↓WR4, ↓WR5, ↓WR6, ↓WR7, ↓WR8, ↓WR9, ↓WR10, ↓WR11, ↓WR12, WI0, WI1, WI2, WI3, fv_0, fv_1, fv_2, fv_3, lkI_0, lkI_1, kip, kin, tgp, tkp, tgn, tkn, bip, bin, sip, lget, lset1, lset2, lcat2, ↓ws_get, ↓ws_put, ws_cell, ws_cell1, ws_hcell, ws_hcell3, ws_hcell1, ↓cellOf, ↓ws_call, ↓ws_callS, ↓ws_oi, ↓ws_ac, ↓ws_mm, ↓ws_post, ↓ws_exc, popN, rok, clsAt, cnOf, catS_nil, catS_i, catS_r, catS_n, catS_l, catS_d, catS_f, nokc, Option.toList_none, Option.toList_some, List.cons_append, List.nil_append, List.length_cons, List.length_nil, List.set_cons_zero, List.set_cons_succ, List.getElem?_cons_zero, List.getElem?_cons_succ, Nat.reduceAdd, Nat.reduceSub, Nat.reduceMul, Nat.reduceEqDiff, Nat.reduceLeDiff, Nat.reduceLT, Nat.reduceDiv, Bool.false_eq_true, ↓reduceIte, true_and, and_true, false_and, and_false, reduceCtorEq, if_true, Nat.zero_add, cl, lt_nI, le_nI, eq_nI, in_nI, z_nI, retok, or_true, true_or, false_or, or_false, Nat.one_ne_zero, ne_eq, not_false_eq_true, not_true_eq_false, forall_const, Option.isSome_some, false_implies, implies_true, hput_1, hnew_1, vcat1, Nat.le_refl, Nat.not_lt_zero, Nat.lt_irrefl, hput_eq, hput_ne, hput_put, DJ5_init_d00df, DJ5_init_d00df_0, TJ5_init_d00df, FT_15, MT_15, SC_15, DJ2_newBytesFor_77867, OI_a, AC_a, NT_a, a, hnew_if, hput_if, hn, if_neg, if_pos, ini]
    exact ⟨⟨by decide +kernel, by decide +kernel⟩, ⟨by show h.1 + 1 = s + 2; omega, fun b hb => by rw [hput_ne (by omega), hnew_if, if_neg (by omega)]⟩, hput_eq _ _ _, by rw [hput_ne (by omega), hnew_if, hn, if_pos rfl]; rfl⟩
  refine Ct.of rfl rfl (Nat.le_of_ble_eq_true rfl) ?_
  show V G mJ4_init_da8c8 _ _ _ 0 [some (.ref s)] [] h Q
  refine V_walk [] 60 ?_
  simp (disch := first | omega | assumption) only [↓wstep, ↓wq_s, ↓wq_0, stp, ↓WR0, ↓WR1, ↓WR2, ↓WR3, ↓WR4, ↓WR5, ↓WR6, ↓WR7, ↓WR8, ↓WR9, ↓WR10, ↓WR11, ↓WR12, WI0, WI1, WI2, WI3, fv_0, fv_1, fv_2, fv_3, lkI_0, lkI_1, kip, kin, tgp, tkp, tgn, tkn, bip, bin, sip, lget, lset1, lset2, lcat2, ↓ws_get, ↓ws_put, ws_cell, ws_cell1, ws_hcell, ws_hcell3, ws_hcell1, ↓cellOf, ↓ws_call, ↓ws_callS, ↓ws_oi, ↓ws_ac, ↓ws_mm, ↓ws_post, ↓ws_exc, popN, rok, clsAt, cnOf, catS_nil, catS_i, catS_r, catS_n, catS_l, catS_d, catS_f, nokc, Option.toList_none, Option.toList_some, List.cons_append, List.nil_append, List.length_cons, List.length_nil, List.set_cons_zero, List.set_cons_succ, List.getElem?_cons_zero, List.getElem?_cons_succ, Nat.reduceAdd, Nat.reduceSub, Nat.reduceMul, Nat.reduceEqDiff, Nat.reduceLeDiff, Nat.reduceLT, Nat.reduceDiv, Bool.false_eq_true, ↓reduceIte, true_and, and_true, false_and, and_false, reduceCtorEq, if_true, Nat.zero_add, cl, lt_nI, le_nI, eq_nI, in_nI, z_nI, retok, or_true, true_or, false_or, or_false, Nat.one_ne_zero, ne_eq, not_false_eq_true, not_true_eq_false, forall_const, Option.isSome_some, false_implies, implies_true, hput_1, hnew_1, vcat1, Nat.le_refl, Nat.not_lt_zero, Nat.lt_irrefl, hput_eq, hput_ne, hput_put, DJ4_init_da8c8, DJ4_init_da8c8_0, TJ4_init_da8c8, MT_14, DJ5_init_d00df, OI_a, AC_a, NT_a, a, oi_e]
  refine CtE.of (d - 1) 1 16 (by omega) (by omega) (by omega) (key.mono (fun r h' e => ?_))
  obtain ⟨rfl, e2, e3⟩ := e
  simp (disch := first | omega | assumption) only [↓wstep, ↓wq_s, ↓wq_0, stp, ↓WR0, ↓WR1, ↓WR2, ↓WR3, ↓WR4, ↓WR5, ↓WR6, ↓WR7, ↓WR8, ↓WR9, ↓WR10, ↓WR11, ↓WR12, WI0, WI1, WI2, WI3, fv_0, fv_1, fv_2, fv_3, lkI_0, lkI_1, kip, kin, tgp, tkp, tgn, tkn, bip, bin, sip, lget, lset1, lset2, lcat2, ↓ws_get, ↓ws_put, ws_cell, ws_cell1, ws_hcell, ws_hcell3, ws_hcell1, ↓cellOf, ↓ws_call, ↓ws_callS, ↓ws_oi, ↓ws_ac, ↓ws_mm, ↓ws_post, ↓ws_exc, popN, rok, clsAt, cnOf, catS_nil, catS_i, catS_r, catS_n, catS_l, catS_d, catS_f, nokc, Option.toList_none, Option.toList_some, List.cons_append, List.nil_append, List.length_cons, List.length_nil, List.set_cons_zero, List.set_cons_succ, List.getElem?_cons_zero, List.getElem?_cons_succ, Nat.reduceAdd, Nat.reduceSub, Nat.reduceMul, Nat.reduceEqDiff, Nat.reduceLeDiff, Nat.reduceLT, Nat.reduceDiv, Bool.false_eq_true, ↓reduceIte, true_and, and_true, false_and, and_false, reduceCtorEq, if_true, Nat.zero_add, cl, lt_nI, le_nI, eq_nI, in_nI, z_nI, retok, or_true, true_or, false_or, or_false, Nat.one_ne_zero, ne_eq, not_false_eq_true, not_true_eq_false, forall_const, Option.isSome_some, false_implies, implies_true, hput_1, hnew_1, vcat1, Nat.le_refl, Nat.not_lt_zero, Nat.lt_irrefl, hput_eq, hput_ne, hput_put, DJ4_init_da8c8, DJ4_init_da8c8_0, TJ4_init_da8c8, MT_14, DJ5_init_d00df, OI_a, AC_a, NT_a]
  exact hq h' e2 e3
