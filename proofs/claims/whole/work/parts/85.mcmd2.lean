/-! ===== the model reads a command: which one ===== -/
theorem c_word' {G : GT} {M k d : Nat} {o : MO} {len : Nat} {sg : Nat → Fin 65536} {s : MS} {h : Hp} {Q : RT → Hp → Prop} (hd : 2 ≤ d) (hl : len ≤ 60) (ht : s.2 ≤ len) (at' : AtC h M o len sg s k) (hq : Q (.inl (some (.int (wdI sg len s.2)))) h) : Ct G mX8_word d 0 0 [.ref M] h Q := c_word hd hl ht at' hq
/-- the first of the parts is a text that does not stand there -/
theorem rnS_no {sg : Nat → Fin 65536} {len t c : Nat} {l : List Nat} {ps : List Pt} (h : bhd sg len t ≠ nI c) (hc : c < 65536) : rnS sg len ((0, c :: l) :: ps) (false, t) = (true, t) := by
  rw [rnS]
  have e : ptS sg len (0, c :: l) (false, t) = (true, t) := by
    show stL sg len (c :: l) (false, t) = _
    rw [stL_c, if_neg (fun q => h ((bhd_eq hc).mpr q))]
  rw [e, rnS_w]
theorem inB_not {x : Int32} {a b : Nat} (h : inB x a b = false) : x < nI a ∨ nI b < x := by
  unfold inB at h
  by_cases c : nI a ≤ x
  · rw [decide_eq_true c, Bool.true_and] at h
    exact .inr (Int32.not_le.mp (of_decide_eq_false h))
  · exact .inl (Int32.not_le.mp c)
set_option maxRecDepth 20000 in
set_option maxHeartbeats 4000000 in
theorem v_switch {G : GT} {M k d t : Nat} {o : MO} {len : Nat} {sg : Nat → Fin 65536} {cm : Nat → Int32} {h : Hp} {Q : RT → Hp → Prop} (hd : 6 ≤ d) (hj : JW G) (hx : MTX G) (hM : b0 G ≤ M) (hl : len ≤ 60) (hk : k < 59) (t0 : t ≤ len) (z0 : Zr G h) (a0 : AtC h M o len sg (false, t) (k + 1)) (c0 : h.2 (M + 8) = some (.inl (0, 240, .inl cm))) (hq : ∀ h' cm', Fdm h h' M → AtC h' M o len sg (rnS sg len (KP (kOf sg len t)) (false, t)) (k + 1) → h'.2 (M + 8) = some (.inl (0, 240, .inl cm')) → (∀ i, i < 4 * k + 1 → cm' i = cm i) → ((rnS sg len (KP (kOf sg len t)) (false, t)).1 = false → Rws sg len cm' (4 * k + 1) (KP (kOf sg len t)) (false, t)) → Q (.inl none) h') : V G mX8_readCommand d 0 0 47 [some (.ref M), some (.int (bhd sg len t)), some (.int (nI (4 * k)))] [.int (wdI sg len t)] h Q := by
  have fin : ∀ κ, kOf sg len t = κ → ∀ h' cm', Fdm h h' M → AtC h' M o len sg (rnS sg len (KP κ) (false, t)) (k + 1) → h'.2 (M + 8) = some (.inl (0, 240, .inl cm')) → (∀ i, i < 4 * k + 1 → cm' i = cm i) → Rws sg len cm' (4 * k + 1) (KP κ) (false, t) → Q (.inl none) h' := fun κ e => by
    subst e
    exact fun h' cm' q1 q2 q3 q4 q5 => hq h' cm' q1 q2 q3 q4 (fun _ => q5)
  have finW : kOf sg len t = 9 → ∀ ps, bhd sg len t ≠ nI 105 → ∀ h' cm', Fdm h h' M → AtC h' M o len sg (rnS sg len ((0, [105, 110, 107, 32]) :: ps) (false, t)) (k + 1) → h'.2 (M + 8) = some (.inl (0, 240, .inl cm')) → (∀ i, i < 4 * k + 1 → cm' i = cm i) → Rws sg len cm' (4 * k + 1) ((0, [105, 110, 107, 32]) :: ps) (false, t) → Q (.inl none) h' := fun e ps hn h' cm' q1 q2 q3 q4 _ => by
    rw [rnS_no hn (by omega)] at q2
    have e2 : rnS sg len (KP 9) (false, t) = (true, t) := rnS_no hn (by omega)
    rw [e, e2] at hq
    exact hq h' cm' q1 q2 q3 q4 (fun q => by cases q)
  have w4 := z0
  have b0 := a0.1
  unfold mO oP at b0
  obtain ⟨p1, q1, g1, x1, y1, w1⟩ := hx 221 [112, 108, 97, 110, 116, 32] (by decide)
  obtain ⟨p2, q2, g2, x2, y2, w2⟩ := hx 223 [105, 110, 107, 32] (by decide)
  obtain ⟨p3, q3, g3, x3, y3, w3⟩ := hx 253 [109, 101, 114, 103, 101, 32] (by decide)

  by_cases r1 : bhd sg len t = nI 112
  · by_cases r2 : bhd sg len (t + 1) = nI 108
    · have hW : wdI sg len t = nI 108 := if_pos ⟨r1, r2⟩
      have hK : kOf sg len t = 0 := by unfold kOf; rw [if_pos r1, if_pos r2]
      rw [hW]
      refine V_tableIn (off := 93) DX8_readCommand_0.2.2.2.2.2.2.2.2.2.2.2.2.2.2.2.2.2.2.2.2.2.2.2.2.2.2.2.2.2.1 (by decide +kernel) (by decide +kernel) (by decide +kernel) trivial ?_
      rw [tgp]
      rw [r1]
      refine V_walk [154] 60 ?_
      simp (disch := first | omega | assumption) only [↓wstep, ↓wq_s, ↓wq_0, stp, ↓WR0, ↓WR1, ↓WR2, ↓WR3, ↓WR4, ↓WR5, ↓WR6, ↓WR7, ↓WR8, ↓WR9, ↓WR10, ↓WR11, ↓WR12, WI0, WI1, WI2, WI3, fv_0, fv_1, fv_2, fv_3, lkI_0, lkI_1, kip, kin, tgp, tkp, tgn, tkn, bip, bin, sip, lget, lset1, lset2, lcat2, ↓ws_get, ↓ws_put, ws_cell, ws_cell1, ws_hcell, ws_hcell3, ws_hcell1, ↓cellOf, ↓ws_call, ↓ws_callS, ↓ws_oi, ↓ws_ac, ↓ws_mm, ↓ws_post, ↓ws_exc, popN, rok, clsAt, cnOf, catS_nil, catS_i, catS_r, catS_n, catS_l, catS_d, catS_f, nokc, Option.toList_none, Option.toList_some, List.cons_append, List.nil_append, List.length_cons, List.length_nil, List.set_cons_zero, List.set_cons_succ, List.getElem?_cons_zero, List.getElem?_cons_succ, Nat.reduceAdd, Nat.reduceSub, Nat.reduceMul, Nat.reduceEqDiff, Nat.reduceLeDiff, Nat.reduceLT, Nat.reduceDiv, Bool.false_eq_true, ↓reduceIte, true_and, and_true, false_and, and_false, reduceCtorEq, if_true, Nat.zero_add, cl, lt_nI, le_nI, eq_nI, in_nI, z_nI, retok, or_true, true_or, false_or, or_false, Nat.one_ne_zero, ne_eq, not_false_eq_true, not_true_eq_false, forall_const, Option.isSome_some, false_implies, implies_true, hput_1, hnew_1, vcat1, Nat.le_refl, Nat.not_lt_zero, Nat.lt_irrefl, hput_eq, hput_ne, hput_put, DX8_readCommand, DX8_readCommand_0, DX8_readCommand_1, DX8_readCommand_2, DX8_readCommand_3, DX8_readCommand_4, TX8_readCommand, FT_8, MT_8, SC_8, DX8_behind, DX8_word, DX8_skip, DX8_readNumber, DX8_readFeather, OI_a, AC_a, NT_a, x1, ctn]
      exact v_cmd0 hd hj hx y1 w1 hM hl hk t0 z0 a0 c0 (fin 0 hK)
    · have hW : wdI sg len t = nI 112 := by unfold wdI; rw [if_neg (fun q => r2 q.2), r1, if_neg (fun q => absurd q.1 (by decide))]
      have hK : kOf sg len t = 1 := by unfold kOf; rw [if_pos r1, if_neg r2]
      rw [hW]
      refine V_tableIn (off := 157) DX8_readCommand_0.2.2.2.2.2.2.2.2.2.2.2.2.2.2.2.2.2.2.2.2.2.2.2.2.2.2.2.2.2.1 (by decide +kernel) (by decide +kernel) (by decide +kernel) trivial ?_
      rw [tgp]
      exact v_cmd1 hd hj hx hM hl hk t0 z0 a0 c0 (fin 1 hK)
  by_cases u115 : bhd sg len t = nI 115
  · have hW : wdI sg len t = nI 115 := by unfold wdI; rw [u115, if_neg (fun q => absurd q.1 (by decide)), if_neg (fun q => absurd q.1 (by decide))]
    have hK : kOf sg len t = 2 := by unfold kOf; rw [u115]; rw [if_neg (by decide), if_pos rfl]
    rw [hW]
    refine V_tableIn (off := 179) DX8_readCommand_0.2.2.2.2.2.2.2.2.2.2.2.2.2.2.2.2.2.2.2.2.2.2.2.2.2.2.2.2.2.1 (by decide +kernel) (by decide +kernel) (by decide +kernel) trivial ?_
    rw [tgp]
    exact v_cmd2 hd hj hx hM hl hk t0 z0 a0 c0 (fin 2 hK)
  by_cases u98 : bhd sg len t = nI 98
  · have hW : wdI sg len t = nI 98 := by unfold wdI; rw [u98, if_neg (fun q => absurd q.1 (by decide)), if_neg (fun q => absurd q.1 (by decide))]
    have hK : kOf sg len t = 3 := by unfold kOf; rw [u98]; rw [if_neg (by decide), if_neg (by decide), if_pos rfl]
    rw [hW]
    refine V_tableIn (off := 220) DX8_readCommand_0.2.2.2.2.2.2.2.2.2.2.2.2.2.2.2.2.2.2.2.2.2.2.2.2.2.2.2.2.2.1 (by decide +kernel) (by decide +kernel) (by decide +kernel) trivial ?_
    rw [tgp]
    exact v_cmd3 hd hj hx hM hl hk t0 z0 a0 c0 (fin 3 hK)
  by_cases u117 : bhd sg len t = nI 117
  · have hW : wdI sg len t = nI 117 := by unfold wdI; rw [u117, if_neg (fun q => absurd q.1 (by decide)), if_neg (fun q => absurd q.1 (by decide))]
    have hK : kOf sg len t = 4 := by unfold kOf; rw [u117]; rw [if_neg (by decide), if_neg (by decide), if_neg (by decide), if_pos rfl]
    rw [hW]
    refine V_tableIn (off := 261) DX8_readCommand_0.2.2.2.2.2.2.2.2.2.2.2.2.2.2.2.2.2.2.2.2.2.2.2.2.2.2.2.2.2.1 (by decide +kernel) (by decide +kernel) (by decide +kernel) trivial ?_
    rw [tgp]
    exact v_cmd4 hd hj hx hM hl hk t0 z0 a0 c0 (fin 4 hK)
  by_cases u109 : bhd sg len t = nI 109
  · by_cases r2 : bhd sg len (t + 1) = nI 101
    · have hW : wdI sg len t = nI 101 := by unfold wdI; rw [if_neg (fun q => r1 q.1), if_pos ⟨u109, r2⟩]
      have hK : kOf sg len t = 6 := by unfold kOf; rw [if_neg r1, if_neg u115, if_neg u98, if_neg u117, if_pos u109, if_pos r2]
      rw [hW]
      refine V_tableIn (off := 324) DX8_readCommand_0.2.2.2.2.2.2.2.2.2.2.2.2.2.2.2.2.2.2.2.2.2.2.2.2.2.2.2.2.2.1 (by decide +kernel) (by decide +kernel) (by decide +kernel) trivial ?_
      rw [tgp]
      rw [u109]
      refine V_walk [385] 60 ?_
      simp (disch := first | omega | assumption) only [↓wstep, ↓wq_s, ↓wq_0, stp, ↓WR0, ↓WR1, ↓WR2, ↓WR3, ↓WR4, ↓WR5, ↓WR6, ↓WR7, ↓WR8, ↓WR9, ↓WR10, ↓WR11, ↓WR12, WI0, WI1, WI2, WI3, fv_0, fv_1, fv_2, fv_3, lkI_0, lkI_1, kip, kin, tgp, tkp, tgn, tkn, bip, bin, sip, lget, lset1, lset2, lcat2, ↓ws_get, ↓ws_put, ws_cell, ws_cell1, ws_hcell, ws_hcell3, ws_hcell1, ↓cellOf, ↓ws_call, ↓ws_callS, ↓ws_oi, ↓ws_ac, ↓ws_mm, ↓ws_post, ↓ws_exc, popN, rok, clsAt, cnOf, catS_nil, catS_i, catS_r, catS_n, catS_l, catS_d, catS_f, nokc, Option.toList_none, Option.toList_some, List.cons_append, List.nil_append, List.length_cons, List.length_nil, List.set_cons_zero, List.set_cons_succ, List.getElem?_cons_zero, List.getElem?_cons_succ, Nat.reduceAdd, Nat.reduceSub, Nat.reduceMul, Nat.reduceEqDiff, Nat.reduceLeDiff, Nat.reduceLT, Nat.reduceDiv, Bool.false_eq_true, ↓reduceIte, true_and, and_true, false_and, and_false, reduceCtorEq, if_true, Nat.zero_add, cl, lt_nI, le_nI, eq_nI, in_nI, z_nI, retok, or_true, true_or, false_or, or_false, Nat.one_ne_zero, ne_eq, not_false_eq_true, not_true_eq_false, forall_const, Option.isSome_some, false_implies, implies_true, hput_1, hnew_1, vcat1, Nat.le_refl, Nat.not_lt_zero, Nat.lt_irrefl, hput_eq, hput_ne, hput_put, DX8_readCommand, DX8_readCommand_0, DX8_readCommand_1, DX8_readCommand_2, DX8_readCommand_3, DX8_readCommand_4, TX8_readCommand, FT_8, MT_8, SC_8, DX8_behind, DX8_word, DX8_skip, DX8_readNumber, DX8_readFeather, OI_a, AC_a, NT_a, x3, ctn]
      exact v_cmd6 hd hj hx y3 w3 hM hl hk t0 z0 a0 c0 (fin 6 hK)
    · have hW : wdI sg len t = nI 109 := by unfold wdI; rw [if_neg (fun q => r1 q.1), if_neg (fun q => r2 q.2), u109]
      have hK : kOf sg len t = 5 := by unfold kOf; rw [if_neg r1, if_neg u115, if_neg u98, if_neg u117, if_pos u109, if_neg r2]
      rw [hW]
      refine V_tableIn (off := 283) DX8_readCommand_0.2.2.2.2.2.2.2.2.2.2.2.2.2.2.2.2.2.2.2.2.2.2.2.2.2.2.2.2.2.1 (by decide +kernel) (by decide +kernel) (by decide +kernel) trivial ?_
      rw [tgp]
      exact v_cmd5 hd hj hx hM hl hk t0 z0 a0 c0 (fin 5 hK)
  by_cases u111 : bhd sg len t = nI 111
  · have hW : wdI sg len t = nI 111 := by unfold wdI; rw [u111, if_neg (fun q => absurd q.1 (by decide)), if_neg (fun q => absurd q.1 (by decide))]
    have hK : kOf sg len t = 7 := by unfold kOf; rw [u111]; rw [if_neg (by decide), if_neg (by decide), if_neg (by decide), if_neg (by decide), if_neg (by decide), if_pos rfl]
    rw [hW]
    refine V_tableIn (off := 376) DX8_readCommand_0.2.2.2.2.2.2.2.2.2.2.2.2.2.2.2.2.2.2.2.2.2.2.2.2.2.2.2.2.2.1 (by decide +kernel) (by decide +kernel) (by decide +kernel) trivial ?_
    rw [tgp]
    exact v_cmd7 hd hj hx hM hl hk t0 z0 a0 c0 (fin 7 hK)
  by_cases u114 : bhd sg len t = nI 114
  · have hW : wdI sg len t = nI 114 := by unfold wdI; rw [u114, if_neg (fun q => absurd q.1 (by decide)), if_neg (fun q => absurd q.1 (by decide))]
    have hK : kOf sg len t = 8 := by unfold kOf; rw [u114]; rw [if_neg (by decide), if_neg (by decide), if_neg (by decide), if_neg (by decide), if_neg (by decide), if_neg (by decide), if_pos rfl]
    rw [hW]
    refine V_tableIn (off := 398) DX8_readCommand_0.2.2.2.2.2.2.2.2.2.2.2.2.2.2.2.2.2.2.2.2.2.2.2.2.2.2.2.2.2.1 (by decide +kernel) (by decide +kernel) (by decide +kernel) trivial ?_
    rw [tgp]
    exact v_cmd8 hd hj hx hM hl hk t0 z0 a0 c0 (fin 8 hK)
  have hK : kOf sg len t = 9 := by unfold kOf; rw [if_neg r1, if_neg u115, if_neg u98, if_neg u117, if_neg u109, if_neg u111, if_neg u114]
  have hW : wdI sg len t = bhd sg len t := by unfold wdI; rw [if_neg (fun q => r1 q.1), if_neg (fun q => u109 q.1)]
  rw [hW]
  have dfl : V G mX8_readCommand d 0 0 467 [some (.ref M), some (.int (bhd sg len t)), some (.int (nI (4 * k)))] [] h Q := v_cmd9 hd hj hx hM hl hk t0 z0 a0 c0 (fin 9 hK)
  cases hb : inB (bhd sg len t) 98 117 with
  | false =>
    have hb2 : (bhd sg len t).toInt < 98 ∨ 117 < (bhd sg len t).toInt := by
      rcases inB_not hb with e | e
      · exact .inl (Int32.lt_iff_toInt_lt.mp e)
      · exact .inr (Int32.lt_iff_toInt_lt.mp e)
    refine V_tableOut DX8_readCommand_0.2.2.2.2.2.2.2.2.2.2.2.2.2.2.2.2.2.2.2.2.2.2.2.2.2.2.2.2.2.1 hb2 trivial ?_
    rw [tgp]
    exact dfl
  | true =>
    obtain ⟨c, h1, h2, e⟩ := inB_ex (by omega) (by omega) hb
    have hc : c = 98 ∨ c = 99 ∨ c = 100 ∨ c = 101 ∨ c = 102 ∨ c = 103 ∨ c = 104 ∨ c = 105 ∨ c = 106 ∨ c = 107 ∨ c = 108 ∨ c = 109 ∨ c = 110 ∨ c = 111 ∨ c = 112 ∨ c = 113 ∨ c = 114 ∨ c = 115 ∨ c = 116 ∨ c = 117 := by omega
    rcases hc with rfl | rfl | rfl | rfl | rfl | rfl | rfl | rfl | rfl | rfl | rfl | rfl | rfl | rfl | rfl | rfl | rfl | rfl | rfl | rfl
    · exact absurd e u98
    · rw [e] at dfl ⊢
      refine V_tableIn (off := 420) DX8_readCommand_0.2.2.2.2.2.2.2.2.2.2.2.2.2.2.2.2.2.2.2.2.2.2.2.2.2.2.2.2.2.1 (by decide +kernel) (by decide +kernel) (by decide +kernel) trivial ?_
      rw [tgp]
      exact dfl
    · rw [e] at dfl ⊢
      refine V_tableIn (off := 420) DX8_readCommand_0.2.2.2.2.2.2.2.2.2.2.2.2.2.2.2.2.2.2.2.2.2.2.2.2.2.2.2.2.2.1 (by decide +kernel) (by decide +kernel) (by decide +kernel) trivial ?_
      rw [tgp]
      exact dfl
    · rw [e]
      refine V_tableIn (off := 324) DX8_readCommand_0.2.2.2.2.2.2.2.2.2.2.2.2.2.2.2.2.2.2.2.2.2.2.2.2.2.2.2.2.2.1 (by decide +kernel) (by decide +kernel) (by decide +kernel) trivial ?_
      rw [tgp]
      refine V_walk [385] 60 ?_
      simp (disch := first | omega | assumption) only [↓wstep, ↓wq_s, ↓wq_0, stp, ↓WR0, ↓WR1, ↓WR2, ↓WR3, ↓WR4, ↓WR5, ↓WR6, ↓WR7, ↓WR8, ↓WR9, ↓WR10, ↓WR11, ↓WR12, WI0, WI1, WI2, WI3, fv_0, fv_1, fv_2, fv_3, lkI_0, lkI_1, kip, kin, tgp, tkp, tgn, tkn, bip, bin, sip, lget, lset1, lset2, lcat2, ↓ws_get, ↓ws_put, ws_cell, ws_cell1, ws_hcell, ws_hcell3, ws_hcell1, ↓cellOf, ↓ws_call, ↓ws_callS, ↓ws_oi, ↓ws_ac, ↓ws_mm, ↓ws_post, ↓ws_exc, popN, rok, clsAt, cnOf, catS_nil, catS_i, catS_r, catS_n, catS_l, catS_d, catS_f, nokc, Option.toList_none, Option.toList_some, List.cons_append, List.nil_append, List.length_cons, List.length_nil, List.set_cons_zero, List.set_cons_succ, List.getElem?_cons_zero, List.getElem?_cons_succ, Nat.reduceAdd, Nat.reduceSub, Nat.reduceMul, Nat.reduceEqDiff, Nat.reduceLeDiff, Nat.reduceLT, Nat.reduceDiv, Bool.false_eq_true, ↓reduceIte, true_and, and_true, false_and, and_false, reduceCtorEq, if_true, Nat.zero_add, cl, lt_nI, le_nI, eq_nI, in_nI, z_nI, retok, or_true, true_or, false_or, or_false, Nat.one_ne_zero, ne_eq, not_false_eq_true, not_true_eq_false, forall_const, Option.isSome_some, false_implies, implies_true, hput_1, hnew_1, vcat1, Nat.le_refl, Nat.not_lt_zero, Nat.lt_irrefl, hput_eq, hput_ne, hput_put, DX8_readCommand, DX8_readCommand_0, DX8_readCommand_1, DX8_readCommand_2, DX8_readCommand_3, DX8_readCommand_4, TX8_readCommand, FT_8, MT_8, SC_8, DX8_behind, DX8_word, DX8_skip, DX8_readNumber, DX8_readFeather, OI_a, AC_a, NT_a, x2, ctn]
      exact v_cmd6 hd hj hx y2 w2 hM hl hk t0 z0 a0 c0 (finW hK _ (by rw [e]; decide))
    · rw [e] at dfl ⊢
      refine V_tableIn (off := 420) DX8_readCommand_0.2.2.2.2.2.2.2.2.2.2.2.2.2.2.2.2.2.2.2.2.2.2.2.2.2.2.2.2.2.1 (by decide +kernel) (by decide +kernel) (by decide +kernel) trivial ?_
      rw [tgp]
      exact dfl
    · rw [e] at dfl ⊢
      refine V_tableIn (off := 420) DX8_readCommand_0.2.2.2.2.2.2.2.2.2.2.2.2.2.2.2.2.2.2.2.2.2.2.2.2.2.2.2.2.2.1 (by decide +kernel) (by decide +kernel) (by decide +kernel) trivial ?_
      rw [tgp]
      exact dfl
    · rw [e] at dfl ⊢
      refine V_tableIn (off := 420) DX8_readCommand_0.2.2.2.2.2.2.2.2.2.2.2.2.2.2.2.2.2.2.2.2.2.2.2.2.2.2.2.2.2.1 (by decide +kernel) (by decide +kernel) (by decide +kernel) trivial ?_
      rw [tgp]
      exact dfl
    · rw [e] at dfl ⊢
      refine V_tableIn (off := 420) DX8_readCommand_0.2.2.2.2.2.2.2.2.2.2.2.2.2.2.2.2.2.2.2.2.2.2.2.2.2.2.2.2.2.1 (by decide +kernel) (by decide +kernel) (by decide +kernel) trivial ?_
      rw [tgp]
      exact dfl
    · rw [e] at dfl ⊢
      refine V_tableIn (off := 420) DX8_readCommand_0.2.2.2.2.2.2.2.2.2.2.2.2.2.2.2.2.2.2.2.2.2.2.2.2.2.2.2.2.2.1 (by decide +kernel) (by decide +kernel) (by decide +kernel) trivial ?_
      rw [tgp]
      exact dfl
    · rw [e] at dfl ⊢
      refine V_tableIn (off := 420) DX8_readCommand_0.2.2.2.2.2.2.2.2.2.2.2.2.2.2.2.2.2.2.2.2.2.2.2.2.2.2.2.2.2.1 (by decide +kernel) (by decide +kernel) (by decide +kernel) trivial ?_
      rw [tgp]
      exact dfl
    · rw [e]
      refine V_tableIn (off := 93) DX8_readCommand_0.2.2.2.2.2.2.2.2.2.2.2.2.2.2.2.2.2.2.2.2.2.2.2.2.2.2.2.2.2.1 (by decide +kernel) (by decide +kernel) (by decide +kernel) trivial ?_
      rw [tgp]
      refine V_walk [154] 60 ?_
      simp (disch := first | omega | assumption) only [↓wstep, ↓wq_s, ↓wq_0, stp, ↓WR0, ↓WR1, ↓WR2, ↓WR3, ↓WR4, ↓WR5, ↓WR6, ↓WR7, ↓WR8, ↓WR9, ↓WR10, ↓WR11, ↓WR12, WI0, WI1, WI2, WI3, fv_0, fv_1, fv_2, fv_3, lkI_0, lkI_1, kip, kin, tgp, tkp, tgn, tkn, bip, bin, sip, lget, lset1, lset2, lcat2, ↓ws_get, ↓ws_put, ws_cell, ws_cell1, ws_hcell, ws_hcell3, ws_hcell1, ↓cellOf, ↓ws_call, ↓ws_callS, ↓ws_oi, ↓ws_ac, ↓ws_mm, ↓ws_post, ↓ws_exc, popN, rok, clsAt, cnOf, catS_nil, catS_i, catS_r, catS_n, catS_l, catS_d, catS_f, nokc, Option.toList_none, Option.toList_some, List.cons_append, List.nil_append, List.length_cons, List.length_nil, List.set_cons_zero, List.set_cons_succ, List.getElem?_cons_zero, List.getElem?_cons_succ, Nat.reduceAdd, Nat.reduceSub, Nat.reduceMul, Nat.reduceEqDiff, Nat.reduceLeDiff, Nat.reduceLT, Nat.reduceDiv, Bool.false_eq_true, ↓reduceIte, true_and, and_true, false_and, and_false, reduceCtorEq, if_true, Nat.zero_add, cl, lt_nI, le_nI, eq_nI, in_nI, z_nI, retok, or_true, true_or, false_or, or_false, Nat.one_ne_zero, ne_eq, not_false_eq_true, not_true_eq_false, forall_const, Option.isSome_some, false_implies, implies_true, hput_1, hnew_1, vcat1, Nat.le_refl, Nat.not_lt_zero, Nat.lt_irrefl, hput_eq, hput_ne, hput_put, DX8_readCommand, DX8_readCommand_0, DX8_readCommand_1, DX8_readCommand_2, DX8_readCommand_3, DX8_readCommand_4, TX8_readCommand, FT_8, MT_8, SC_8, DX8_behind, DX8_word, DX8_skip, DX8_readNumber, DX8_readFeather, OI_a, AC_a, NT_a, x2, ctn]
      exact v_cmd0 hd hj hx y2 w2 hM hl hk t0 z0 a0 c0 (finW hK _ (by rw [e]; decide))
    · exact absurd e u109
    · rw [e] at dfl ⊢
      refine V_tableIn (off := 420) DX8_readCommand_0.2.2.2.2.2.2.2.2.2.2.2.2.2.2.2.2.2.2.2.2.2.2.2.2.2.2.2.2.2.1 (by decide +kernel) (by decide +kernel) (by decide +kernel) trivial ?_
      rw [tgp]
      exact dfl
    · exact absurd e u111
    · exact absurd e r1
    · rw [e] at dfl ⊢
      refine V_tableIn (off := 420) DX8_readCommand_0.2.2.2.2.2.2.2.2.2.2.2.2.2.2.2.2.2.2.2.2.2.2.2.2.2.2.2.2.2.1 (by decide +kernel) (by decide +kernel) (by decide +kernel) trivial ?_
      rw [tgp]
      exact dfl
    · exact absurd e u114
    · exact absurd e u115
    · rw [e] at dfl ⊢
      refine V_tableIn (off := 420) DX8_readCommand_0.2.2.2.2.2.2.2.2.2.2.2.2.2.2.2.2.2.2.2.2.2.2.2.2.2.2.2.2.2.1 (by decide +kernel) (by decide +kernel) (by decide +kernel) trivial ?_
      rw [tgp]
      exact dfl
    · exact absurd e u117
set_option maxRecDepth 20000 in
set_option maxHeartbeats 4000000 in
theorem c_mReadCommand {G : GT} {M k d t : Nat} {o : MO} {len : Nat} {sg : Nat → Fin 65536} {cm : Nat → Int32} {h : Hp} {Q : RT → Hp → Prop} (hd : 6 ≤ d) (hj : JW G) (hx : MTX G) (hM : b0 G ≤ M) (hl : len ≤ 60) (hk : k < 59) (t0 : t ≤ len) (z0 : Zr G h) (a0 : AtC h M o len sg (false, t) k) (c0 : h.2 (M + 8) = some (.inl (0, 240, .inl cm))) (hq : ∀ h' cm', Fdm h h' M → AtC h' M o len sg (rnS sg len (KP (kOf sg len t)) (false, t)) (k + 1) → h'.2 (M + 8) = some (.inl (0, 240, .inl cm')) → (∀ i, i < 4 * k → cm' i = cm i) → ((rnS sg len (KP (kOf sg len t)) (false, t)).1 = false → cm' (4 * k) = wdI sg len t ∧ Rws sg len cm' (4 * k + 1) (KP (kOf sg len t)) (false, t)) → Q (.inl none) h') : Ct G mX8_readCommand d 0 0 [.ref M] h Q := by
  have b0 := a0.1
  unfold mO oP at b0
  have e4 : nI 4 * nI k = nI (4 * k) := pk_mul 4 k
  refine Ct.of rfl rfl (Nat.le_of_ble_eq_true rfl) ?_
  show V G mX8_readCommand _ _ _ 0 [some (.ref M), none, none] [] h Q
  refine V_walk [47] 60 ?_
  simp (disch := first | omega | assumption) only [↓wstep, ↓wq_s, ↓wq_0, stp, ↓WR0, ↓WR1, ↓WR2, ↓WR3, ↓WR4, ↓WR5, ↓WR6, ↓WR7, ↓WR8, ↓WR9, ↓WR10, ↓WR11, ↓WR12, WI0, WI1, WI2, WI3, fv_0, fv_1, fv_2, fv_3, lkI_0, lkI_1, kip, kin, tgp, tkp, tgn, tkn, bip, bin, sip, lget, lset1, lset2, lcat2, ↓ws_get, ↓ws_put, ws_cell, ws_cell1, ws_hcell, ws_hcell3, ws_hcell1, ↓cellOf, ↓ws_call, ↓ws_callS, ↓ws_oi, ↓ws_ac, ↓ws_mm, ↓ws_post, ↓ws_exc, popN, rok, clsAt, cnOf, catS_nil, catS_i, catS_r, catS_n, catS_l, catS_d, catS_f, nokc, Option.toList_none, Option.toList_some, List.cons_append, List.nil_append, List.length_cons, List.length_nil, List.set_cons_zero, List.set_cons_succ, List.getElem?_cons_zero, List.getElem?_cons_succ, Nat.reduceAdd, Nat.reduceSub, Nat.reduceMul, Nat.reduceEqDiff, Nat.reduceLeDiff, Nat.reduceLT, Nat.reduceDiv, Bool.false_eq_true, ↓reduceIte, true_and, and_true, false_and, and_false, reduceCtorEq, if_true, Nat.zero_add, cl, lt_nI, le_nI, eq_nI, in_nI, z_nI, retok, or_true, true_or, false_or, or_false, Nat.one_ne_zero, ne_eq, not_false_eq_true, not_true_eq_false, forall_const, Option.isSome_some, false_implies, implies_true, hput_1, hnew_1, vcat1, Nat.le_refl, Nat.not_lt_zero, Nat.lt_irrefl, hput_eq, hput_ne, hput_put, DX8_readCommand, DX8_readCommand_0, DX8_readCommand_1, DX8_readCommand_2, DX8_readCommand_3, DX8_readCommand_4, TX8_readCommand, FT_8, MT_8, SC_8, DX8_behind, DX8_word, DX8_skip, DX8_readNumber, DX8_readFeather, OI_a, AC_a, NT_a, b0, bI1_f]
  refine CtE.of0 (by omega) (c_behind (far := 0) (by omega) hl t0 a0 ?_)
  simp (disch := first | omega | assumption) only [↓wstep, ↓wq_s, ↓wq_0, stp, ↓WR0, ↓WR1, ↓WR2, ↓WR3, ↓WR4, ↓WR5, ↓WR6, ↓WR7, ↓WR8, ↓WR9, ↓WR10, ↓WR11, ↓WR12, WI0, WI1, WI2, WI3, fv_0, fv_1, fv_2, fv_3, lkI_0, lkI_1, kip, kin, tgp, tkp, tgn, tkn, bip, bin, sip, lget, lset1, lset2, lcat2, ↓ws_get, ↓ws_put, ws_cell, ws_cell1, ws_hcell, ws_hcell3, ws_hcell1, ↓cellOf, ↓ws_call, ↓ws_callS, ↓ws_oi, ↓ws_ac, ↓ws_mm, ↓ws_post, ↓ws_exc, popN, rok, clsAt, cnOf, catS_nil, catS_i, catS_r, catS_n, catS_l, catS_d, catS_f, nokc, Option.toList_none, Option.toList_some, List.cons_append, List.nil_append, List.length_cons, List.length_nil, List.set_cons_zero, List.set_cons_succ, List.getElem?_cons_zero, List.getElem?_cons_succ, Nat.reduceAdd, Nat.reduceSub, Nat.reduceMul, Nat.reduceEqDiff, Nat.reduceLeDiff, Nat.reduceLT, Nat.reduceDiv, Bool.false_eq_true, ↓reduceIte, true_and, and_true, false_and, and_false, reduceCtorEq, if_true, Nat.zero_add, cl, lt_nI, le_nI, eq_nI, in_nI, z_nI, retok, or_true, true_or, false_or, or_false, Nat.one_ne_zero, ne_eq, not_false_eq_true, not_true_eq_false, forall_const, Option.isSome_some, false_implies, implies_true, hput_1, hnew_1, vcat1, Nat.le_refl, Nat.not_lt_zero, Nat.lt_irrefl, hput_eq, hput_ne, hput_put, DX8_readCommand, DX8_readCommand_0, DX8_readCommand_1, DX8_readCommand_2, DX8_readCommand_3, DX8_readCommand_4, TX8_readCommand, FT_8, MT_8, SC_8, DX8_behind, DX8_word, DX8_skip, DX8_readNumber, DX8_readFeather, OI_a, AC_a, NT_a, b0, c0, e4, nI_add]
  have a1 := a0.put (o' := o) (s' := (false, t)) (k' := k + 1)
  refine CtE.of0 (by omega) (c_word' (by omega) hl t0 a1 ?_)
  simp (disch := first | omega | assumption) only [↓wstep, ↓wq_s, ↓wq_0, stp, ↓WR0, ↓WR1, ↓WR2, ↓WR3, ↓WR4, ↓WR5, ↓WR6, ↓WR7, ↓WR8, ↓WR9, ↓WR10, ↓WR11, ↓WR12, WI0, WI1, WI2, WI3, fv_0, fv_1, fv_2, fv_3, lkI_0, lkI_1, kip, kin, tgp, tkp, tgn, tkn, bip, bin, sip, lget, lset1, lset2, lcat2, ↓ws_get, ↓ws_put, ws_cell, ws_cell1, ws_hcell, ws_hcell3, ws_hcell1, ↓cellOf, ↓ws_call, ↓ws_callS, ↓ws_oi, ↓ws_ac, ↓ws_mm, ↓ws_post, ↓ws_exc, popN, rok, clsAt, cnOf, catS_nil, catS_i, catS_r, catS_n, catS_l, catS_d, catS_f, nokc, Option.toList_none, Option.toList_some, List.cons_append, List.nil_append, List.length_cons, List.length_nil, List.set_cons_zero, List.set_cons_succ, List.getElem?_cons_zero, List.getElem?_cons_succ, Nat.reduceAdd, Nat.reduceSub, Nat.reduceMul, Nat.reduceEqDiff, Nat.reduceLeDiff, Nat.reduceLT, Nat.reduceDiv, Bool.false_eq_true, ↓reduceIte, true_and, and_true, false_and, and_false, reduceCtorEq, if_true, Nat.zero_add, cl, lt_nI, le_nI, eq_nI, in_nI, z_nI, retok, or_true, true_or, false_or, or_false, Nat.one_ne_zero, ne_eq, not_false_eq_true, not_true_eq_false, forall_const, Option.isSome_some, false_implies, implies_true, hput_1, hnew_1, vcat1, Nat.le_refl, Nat.not_lt_zero, Nat.lt_irrefl, hput_eq, hput_ne, hput_put, DX8_readCommand, DX8_readCommand_0, DX8_readCommand_1, DX8_readCommand_2, DX8_readCommand_3, DX8_readCommand_4, TX8_readCommand, FT_8, MT_8, SC_8, DX8_behind, DX8_word, DX8_skip, DX8_readNumber, DX8_readFeather, OI_a, AC_a, NT_a, b0, c0, pk_us]
  refine v_switch hd hj hx hM hl hk t0 ((z0.d Fdm.p0 hM).d Fdm.p8 hM) a1.p8 (hput_eq _ _ _) (fun h' cm' q1 q2 q3 q4 q5 => hq h' cm' ((Fdm.p0.tr Fdm.p8).tr q1) q2 q3 (fun i hi => ?_) (fun q => ⟨?_, q5 q⟩))
  · rw [q4 i (by omega), pk_un (by omega)]
  · rw [q4 _ (by omega), pk_us]
