/-! ===== the class's output line ===== -/
/-- a text: its length, its letters -/
abbrev Tx : Type := Nat × (Nat → Nat)
def apC (L : Tx) (c : Nat) : Tx := (L.1 + 1, fu L.2 L.1 c)
def apN (L : Tx) (v : Nat) : Tx := (L.1 + nd v, fun k => if k < L.1 then L.2 k else 48 + dgv v (k - L.1))
/-- the letters' room, by level -/
def cpL : Nat → Nat
  | 0 => 16
  | l + 1 => 2 * cpL l + 2
def rmS (l : Nat) : Nat := if l = 0 then 532 else if l = 1 then 498 else if l = 2 then 428 else if l = 3 then 286 else 0
theorem l5 {l : Nat} (h : l ≤ 4) : l = 0 ∨ l = 1 ∨ l = 2 ∨ l = 3 ∨ l = 4 := by omega
theorem cpL_le {l : Nat} (h : l ≤ 4) : 16 ≤ cpL l ∧ cpL l ≤ 286 := by rcases l5 h with rfl | rfl | rfl | rfl | rfl <;> decide
/-- a StringBuilder at s holds the text -/
def Lv (h : Hp) (s l : Nat) (L : Tx) : Prop := ∃ v ml g, SB h s v (cpL l) L.1 ml g ∧ Fb g (cpL l) ∧ v < h.1 ∧ s + 13 ≤ h.1 ∧ (v = s + 1 ∨ s + 13 ≤ v) ∧ L.1 ≤ cpL l ∧ l ≤ 4 ∧ ∀ k, k < L.1 → g k = nI (L.2 k)
def Fl (h h' : Hp) (s : Nat) : Prop := h.1 ≤ h'.1 ∧ ∀ b, b < s + 13 → b ≠ s → b ≠ s + 1 → h'.2 b = h.2 b
theorem Fl.rf {h : Hp} {s : Nat} : Fl h h s := ⟨Nat.le_refl _, fun _ _ _ _ => rfl⟩
theorem Fl.tr {h h1 h2 : Hp} {s : Nat} (a : Fl h h1 s) (b : Fl h1 h2 s) : Fl h h2 s := ⟨Nat.le_trans a.1 b.1, fun q h1 h2 h3 => (b.2 q h1 h2 h3).trans (a.2 q h1 h2 h3)⟩
theorem Lv.gr {h : Hp} {s l m : Nat} {L : Tx} (a : Lv h s l L) (hm : m ≤ 286) (hm2 : m ≤ L.1 + 4) : ∃ l', l' ≤ 4 ∧ caN m (cpL l) = cpL l' ∧ 4 - l = ceN m (cpL l) + (4 - l') ∧ rmS l = slN m (cpL l) + rmS l' := by
  obtain ⟨v, ml, g, -, -, -, -, -, h1, h2, -⟩ := a
  unfold caN ceN slN
  by_cases q : m ≤ cpL l
  · rw [if_pos q, if_pos q, if_pos q]
    exact ⟨l, h2, rfl, by omega, by omega⟩
  · rw [if_neg q, if_neg q, if_neg q]
    rcases l5 h2 with rfl | rfl | rfl | rfl | rfl
    · exact ⟨1, by omega, rfl, rfl, rfl⟩
    · exact ⟨2, by omega, rfl, rfl, rfl⟩
    · exact ⟨3, by omega, rfl, rfl, rfl⟩
    · exact ⟨4, by omega, rfl, rfl, rfl⟩
    · exact absurd (show m ≤ cpL 4 from hm) q
theorem e_app1 {G : GT} {h : Hp} {s l c d rc rs : Nat} {L : Tx} {P : Nat → Nat → RT → Hp → Prop} (hd : 7 ≤ d) (hj : JW2 G) (a : Lv h s l L) (hn : L.1 + 1 ≤ 286) (hc : c < 128) (hrc : 4 - l ≤ rc) (hrs : rmS l ≤ rs) (hq : ∀ h' l' rc' rs', Fl h h' s → Lv h' s l' (apC L c) → 4 - l' ≤ rc' → rmS l' ≤ rs' → P rc' rs' (.inl (some (.ref s))) h') : CtE G mJ4_append_cf468 d rc rs [.ref s, .int (nI c)] h P := by
  obtain ⟨l', g1, g2, g3, g4⟩ := a.gr (m := L.1 + 1) hn (by omega)
  obtain ⟨v, ml, g, sb, fb, hv, hs, hvs, hL, hl, ht⟩ := a
  have hcp := cpL_le hl
  refine CtE.of (d - 1) (ceN (L.1 + 1) (cpL l)) (slN (L.1 + 1) (cpL l)) (by omega) (by omega) (by omega) (c_app1 (by omega) hj sb fb (by omega) hv (by omega) (by omega) hL hc (fun h1 v1 e1 k1 k2 k3 k4 k5 k6 k7 k8 k9 => ?_))
  refine hq h1 l' _ _ ⟨by rw [k1]; omega, fun b b1 b2 b3 => k2 b b2 (by omega) (by omega)⟩ ⟨v1, ml, e1, by rw [← g2]; exact k3, by rw [← g2]; exact k4, k8, by rw [k1]; omega, by omega, ?_, g1, fun k hk => ?_⟩ (by omega) (by omega)
  · show L.1 + 1 ≤ _
    rw [← g2]; unfold caN; split <;> omega
  · have hk' : k < L.1 + 1 := hk
    show _ = nI (fu L.2 L.1 c k)
    by_cases q : k = L.1
    · rw [q, fu_eq]; exact k6
    · rw [fu_ne q, k5 k (by omega)]; exact ht k (by omega)
theorem e_app2 {G : GT} {h : Hp} {s l v9 d rc rs : Nat} {L : Tx} {P : Nat → Nat → RT → Hp → Prop} (hd : 7 ≤ d) (hj : JW2 G) (hz : Zr G h) (hsb : b0 G ≤ s) (a : Lv h s l L) (hn : L.1 + nd v9 ≤ 286) (hk : v9 < 10000) (hrc : 4 - l ≤ rc) (hrs : rmS l ≤ rs) (hq : ∀ h' l' rc' rs', Fl h h' s → Lv h' s l' (apN L v9) → 4 - l' ≤ rc' → rmS l' ≤ rs' → P rc' rs' (.inl (some (.ref s))) h') : CtE G mJ4_append_bf812 d rc rs [.ref s, .int (nI v9)] h P := by
  have hnd := nd_le v9
  obtain ⟨l', g1, g2, g3, g4⟩ := a.gr (m := L.1 + nd v9) hn (by omega)
  obtain ⟨v, ml, g, sb, fb, hv, hs, hvs, hL, hl, ht⟩ := a
  have hcp := cpL_le hl
  refine CtE.of (d - 1) (ceN (L.1 + nd v9) (cpL l)) (slN (L.1 + nd v9) (cpL l)) (by omega) (by omega) (by omega) (c_app2 (by omega) hj hz sb fb (by omega) hv (by omega) hsb (by omega) (by omega) (by omega) hL hk (fun h1 v1 e1 k1 k2 k3 k4 k5 k6 k7 k8 k9 => ?_))
  refine hq h1 l' _ _ ⟨by rw [k1]; omega, fun b b1 b2 b3 => k2 b b2 (by omega) (by omega)⟩ ⟨v1, ml, e1, by rw [← g2]; exact k3, by rw [← g2]; exact k4, k8, by rw [k1]; omega, by omega, ?_, g1, fun k hk' => ?_⟩ (by omega) (by omega)
  · show L.1 + nd v9 ≤ _
    rw [← g2]; unfold caN; split <;> omega
  · have hk' : k < L.1 + nd v9 := hk'
    show _ = nI (if k < L.1 then L.2 k else 48 + dgv v9 (k - L.1))
    by_cases q : k < L.1
    · rw [if_pos q, k5 k q]; exact ht k q
    · rw [if_neg q]
      have := k6 (k - L.1) (by omega)
      rw [show L.1 + (k - L.1) = k from by omega] at this
      exact this
theorem Zr.fl {G : GT} {h h' : Hp} {s : Nat} (z : Zr G h) (f : Fl h h' s) (hs : b0 G ≤ s) : Zr G h' := fun b hb => (f.2 b (by omega) (by omega) (by omega)).trans (z b hb)
theorem AtX.fl {K : KT9} {h h' : Hp} {B : Nat} {x : XS} (a : AtX K h B x) (f : Fl h h' (B + 228)) : AtX K h' B x := by
  have g : Fm (h'.1, h.2) h' (B + 228) (h'.1 + B + 300) ∨ True := Or.inr trivial
  obtain ⟨a0, a1, a2, a3, a4, a5⟩ := a
  have u : ∀ b, b < B + 228 → h'.2 b = h.2 b := fun b hb => f.2 b (by omega) (by omega) (by omega)
  refine ⟨(u _ (by omega)).trans a0, a1.of (fun b _ h2 => u b (by omega)), a2.of (fun b _ h2 => u b (by omega)), ⟨(u _ (by omega)).trans a3.1, (u _ (by omega)).trans a3.2.1, fun i hi => (a3.2.2 i hi).of (fun b _ h2 => u b (by omega))⟩, ⟨(u _ (by omega)).trans a4.1, (u _ (by omega)).trans a4.2.1, (u _ (by omega)).trans a4.2.2.1, fun i hi => (u _ (by omega)).trans (a4.2.2.2 i hi)⟩, a5.of (fun b _ h2 => u b (by omega))⟩
/-- a pen's text -/
def wrP (i : Nat) (q : Pen) (L : Tx) : Tx := apN (apC (apN (if 0 < i then apC L 32 else L) q.1.toNatClampNeg) q.2.1.val) q.2.2.toNatClampNeg
def wrN (p : Pens) : Nat → Nat → Tx → Tx
  | 0, _, L => L
  | r + 1, i, L => wrN p r (i + 1) (wrP i (p i) L)
/-- what can be written of a pen -/
def WrP (q : Pen) : Prop := (∃ k, k < 10000 ∧ q.1 = nI k) ∧ q.2.1.val < 128 ∧ ∃ k, k ≤ 999 ∧ q.2.2 = nI k
theorem nd3 {k : Nat} (h : k ≤ 999) : nd k ≤ 3 := by unfold nd; split; omega; split; omega; rw [if_pos (by omega)]; omega
theorem wrP_le {i : Nat} {q : Pen} {L : Tx} (w : WrP q) : (wrP i q L).1 ≤ L.1 + 9 := by
  obtain ⟨⟨k, hk, e1⟩, h2, m, hm, e2⟩ := w
  unfold wrP
  rw [e1, e2, cl k (by omega), cl m (by omega)]
  have h3 := nd_le k
  have h4 := nd3 hm
  show (if 0 < i then apC L 32 else L).1 + nd k + 1 + nd m ≤ _
  split
  · show L.1 + 1 + nd k + 1 + nd m ≤ _; omega
  · omega
set_option maxRecDepth 20000 in
set_option maxHeartbeats 4000000 in
theorem l_wrN {G : GT} {K : KT9} {B i d : Nat} {x1 : Int32} {x : XS} {Q : RT → Hp → Prop} (hd : 8 ≤ d) (hj : JW2 G) (hB : b0 G ≤ B) (hi : i < 4) (hs : (x.1.2.2.2 i).1 ≤ 24) (hw : ∀ j, j < (x.1.2.2.2 i).1 → WrP ((x.1.2.2.2 i).2.2 j)) : ∀ (r j l rc rs : Nat) (L : Tx) (h : Hp), j + r = (x.1.2.2.2 i).1 → L.1 ≤ 9 * j → Zr G h → AtX K h B x → Lv h (B + 228) l L → 4 - l ≤ rc → rmS l ≤ rs → (∀ h' l' rc' rs', Fl h h' (B + 228) → AtX K h' B x → Lv h' (B + 228) l' (wrN (x.1.2.2.2 i).2.2 r j L) → V G mX7_writeNest d rc' rs' 86 [some (.ref B), some (.int x1), some (.ref (B + 1 + 3 + 4 * i)), some (.int (nI (x.1.2.2.2 i).1))] [] h' Q) → V G mX7_writeNest d rc rs 16 [some (.ref B), some (.int x1), some (.ref (B + 1 + 3 + 4 * i)), some (.int (nI j))] [] h Q := by
  intro r
  induction r with
  | zero =>
    intro j l rc rs L h hjr hL hz a lv h1 h2 hq
    obtain rfl : j = (x.1.2.2.2 i).1 := by omega
    have n := a.2.1.2.2.2 i hi
    refine V_walk [86] 10 ?_
    simp (disch := first | omega | assumption) only [↓wstep, ↓wq_s, ↓wq_0, stp, ↓WR0, ↓WR1, ↓WR2, ↓WR3, ↓WR4, ↓WR5, ↓WR6, ↓WR7, ↓WR8, ↓WR9, ↓WR10, ↓WR11, ↓WR12, WI0, WI1, WI2, WI3, fv_0, fv_1, fv_2, fv_3, lkI_0, lkI_1, kip, kin, tgp, tkp, tgn, tkn, bip, bin, sip, lget, lset1, lset2, lcat2, ↓ws_get, ↓ws_put, ws_cell, ws_cell1, ws_hcell, ws_hcell3, ws_hcell1, ↓cellOf, ↓ws_call, ↓ws_callS, ↓ws_oi, ↓ws_ac, ↓ws_mm, ↓ws_post, ↓ws_exc, popN, rok, clsAt, cnOf, catS_nil, catS_i, catS_r, catS_n, catS_l, catS_d, catS_f, nokc, Option.toList_none, Option.toList_some, List.cons_append, List.nil_append, List.length_cons, List.length_nil, List.set_cons_zero, List.set_cons_succ, List.getElem?_cons_zero, List.getElem?_cons_succ, Nat.reduceAdd, Nat.reduceSub, Nat.reduceMul, Nat.reduceEqDiff, Nat.reduceLeDiff, Nat.reduceLT, Nat.reduceDiv, Bool.false_eq_true, ↓reduceIte, true_and, and_true, false_and, and_false, reduceCtorEq, if_true, Nat.zero_add, cl, lt_nI, le_nI, eq_nI, in_nI, z_nI, retok, or_true, true_or, false_or, or_false, Nat.one_ne_zero, ne_eq, not_false_eq_true, not_true_eq_false, forall_const, Option.isSome_some, false_implies, implies_true, hput_1, hnew_1, vcat1, Nat.le_refl, Nat.not_lt_zero, Nat.lt_irrefl, hput_eq, hput_ne, hput_put, DX7_writeNest, DX7_writeNest_0, TX7_writeNest, FT_7, MT_7, SC_7, DX7_nestNumbered, DJ4_setLength_d00df, DJ4_append_cf468, DJ4_append_bf812, DJ4_length_8abf5, OI_a, AC_a, NT_a, n.1]
    exact hq h l rc rs Fl.rf a lv
  | succ r ih =>
    intro j l rc rs L h hjr hL hz a lv h1 h2 hq
    have hjs : j < (x.1.2.2.2 i).1 := by omega
    have hwj := hw j hjs
    have hle := wrP_le (i := j) (L := L) hwj
    have hle24 : L.1 + 9 ≤ 286 := by omega
    obtain ⟨⟨k, hk, e1⟩, hf, m, hm, e2⟩ := hwj
    have hndk := nd_le k
    have hndm := nd3 hm
    rw [wrN] at hq
    -- after the blank
    have key : ∀ (h1 : Hp) (l1 rc1 rs1 : Nat) (L1 : Tx), L1 = (if 0 < j then apC L 32 else L) → Fl h h1 (B + 228) → Lv h1 (B + 228) l1 L1 → 4 - l1 ≤ rc1 → rmS l1 ≤ rs1 → V G mX7_writeNest d rc1 rs1 38 [some (.ref B), some (.int x1), some (.ref (B + 1 + 3 + 4 * i)), some (.int (nI j))] [] h1 Q := by
      intro h1 l1 rc1 rs1 L1 eL f1 lv1 u1 u2
      have hL1 : L1.1 ≤ L.1 + 1 := by rw [eL]; split; exact Nat.le_refl _; omega
      have hz1 := hz.fl f1 (by omega)
      have a1 := a.fl f1
      have n1 := a1.2.1.2.2.2 i hi
      have a10 := a1.1
      unfold xE at a10
      obtain ⟨v1, ml1, g1, sb1, -⟩ := id lv1
      have sb10 := sb1.1
      unfold sbE at sb10
      refine V_walk [16] 60 ?_
      simp (disch := first | omega | assumption) only [↓wstep, ↓wq_s, ↓wq_0, stp, ↓WR0, ↓WR1, ↓WR2, ↓WR3, ↓WR4, ↓WR5, ↓WR6, ↓WR7, ↓WR8, ↓WR9, ↓WR10, ↓WR11, ↓WR12, WI0, WI1, WI2, WI3, fv_0, fv_1, fv_2, fv_3, lkI_0, lkI_1, kip, kin, tgp, tkp, tgn, tkn, bip, bin, sip, lget, lset1, lset2, lcat2, ↓ws_get, ↓ws_put, ws_cell, ws_cell1, ws_hcell, ws_hcell3, ws_hcell1, ↓cellOf, ↓ws_call, ↓ws_callS, ↓ws_oi, ↓ws_ac, ↓ws_mm, ↓ws_post, ↓ws_exc, popN, rok, clsAt, cnOf, catS_nil, catS_i, catS_r, catS_n, catS_l, catS_d, catS_f, nokc, Option.toList_none, Option.toList_some, List.cons_append, List.nil_append, List.length_cons, List.length_nil, List.set_cons_zero, List.set_cons_succ, List.getElem?_cons_zero, List.getElem?_cons_succ, Nat.reduceAdd, Nat.reduceSub, Nat.reduceMul, Nat.reduceEqDiff, Nat.reduceLeDiff, Nat.reduceLT, Nat.reduceDiv, Bool.false_eq_true, ↓reduceIte, true_and, and_true, false_and, and_false, reduceCtorEq, if_true, Nat.zero_add, cl, lt_nI, le_nI, eq_nI, in_nI, z_nI, retok, or_true, true_or, false_or, or_false, Nat.one_ne_zero, ne_eq, not_false_eq_true, not_true_eq_false, forall_const, Option.isSome_some, false_implies, implies_true, hput_1, hnew_1, vcat1, Nat.le_refl, Nat.not_lt_zero, Nat.lt_irrefl, hput_eq, hput_ne, hput_put, DX7_writeNest, DX7_writeNest_0, TX7_writeNest, FT_7, MT_7, SC_7, DX7_nestNumbered, DJ4_setLength_d00df, DJ4_append_cf468, DJ4_append_bf812, DJ4_length_8abf5, OI_a, AC_a, NT_a, a10, n1.1, n1.2.1, nums_at, e1, sb10]
      refine e_app2 (by omega) hj hz1 (by omega) lv1 (by omega) hk u1 u2 (fun h2 l2 rc2 rs2 f2 lv2 w1 w2 => ?_)
      have hz2 := hz1.fl f2 (by omega)
      have a2 := a1.fl f2
      have n2 := a2.2.1.2.2.2 i hi
      have a20 := a2.1
      unfold xE at a20
      obtain ⟨v2, ml2, g2, sb2, -⟩ := id lv2
      have sb20 := sb2.1
      unfold sbE at sb20
      simp (disch := first | omega | assumption) only [↓wstep, ↓wq_s, ↓wq_0, stp, ↓WR0, ↓WR1, ↓WR2, ↓WR3, ↓WR4, ↓WR5, ↓WR6, ↓WR7, ↓WR8, ↓WR9, ↓WR10, ↓WR11, ↓WR12, WI0, WI1, WI2, WI3, fv_0, fv_1, fv_2, fv_3, lkI_0, lkI_1, kip, kin, tgp, tkp, tgn, tkn, bip, bin, sip, lget, lset1, lset2, lcat2, ↓ws_get, ↓ws_put, ws_cell, ws_cell1, ws_hcell, ws_hcell3, ws_hcell1, ↓cellOf, ↓ws_call, ↓ws_callS, ↓ws_oi, ↓ws_ac, ↓ws_mm, ↓ws_post, ↓ws_exc, popN, rok, clsAt, cnOf, catS_nil, catS_i, catS_r, catS_n, catS_l, catS_d, catS_f, nokc, Option.toList_none, Option.toList_some, List.cons_append, List.nil_append, List.length_cons, List.length_nil, List.set_cons_zero, List.set_cons_succ, List.getElem?_cons_zero, List.getElem?_cons_succ, Nat.reduceAdd, Nat.reduceSub, Nat.reduceMul, Nat.reduceEqDiff, Nat.reduceLeDiff, Nat.reduceLT, Nat.reduceDiv, Bool.false_eq_true, ↓reduceIte, true_and, and_true, false_and, and_false, reduceCtorEq, if_true, Nat.zero_add, cl, lt_nI, le_nI, eq_nI, in_nI, z_nI, retok, or_true, true_or, false_or, or_false, Nat.one_ne_zero, ne_eq, not_false_eq_true, not_true_eq_false, forall_const, Option.isSome_some, false_implies, implies_true, hput_1, hnew_1, vcat1, Nat.le_refl, Nat.not_lt_zero, Nat.lt_irrefl, hput_eq, hput_ne, hput_put, DX7_writeNest, DX7_writeNest_0, TX7_writeNest, FT_7, MT_7, SC_7, DX7_nestNumbered, DJ4_setLength_d00df, DJ4_append_cf468, DJ4_append_bf812, DJ4_length_8abf5, OI_a, AC_a, NT_a, a20, n2.1, n2.2.2.1, feas_at, sb20]
      refine e_app1 (by omega) hj lv2 (by show L1.1 + nd k + 1 ≤ 286; omega) hf w1 w2 (fun h3 l3 rc3 rs3 f3 lv3 y1 y2 => ?_)
      have hz3 := hz2.fl f3 (by omega)
      have a3 := a2.fl f3
      have n3 := a3.2.1.2.2.2 i hi
      have a30 := a3.1
      unfold xE at a30
      obtain ⟨v3, ml3, g3, sb3, -⟩ := id lv3
      have sb30 := sb3.1
      unfold sbE at sb30
      simp (disch := first | omega | assumption) only [↓wstep, ↓wq_s, ↓wq_0, stp, ↓WR0, ↓WR1, ↓WR2, ↓WR3, ↓WR4, ↓WR5, ↓WR6, ↓WR7, ↓WR8, ↓WR9, ↓WR10, ↓WR11, ↓WR12, WI0, WI1, WI2, WI3, fv_0, fv_1, fv_2, fv_3, lkI_0, lkI_1, kip, kin, tgp, tkp, tgn, tkn, bip, bin, sip, lget, lset1, lset2, lcat2, ↓ws_get, ↓ws_put, ws_cell, ws_cell1, ws_hcell, ws_hcell3, ws_hcell1, ↓cellOf, ↓ws_call, ↓ws_callS, ↓ws_oi, ↓ws_ac, ↓ws_mm, ↓ws_post, ↓ws_exc, popN, rok, clsAt, cnOf, catS_nil, catS_i, catS_r, catS_n, catS_l, catS_d, catS_f, nokc, Option.toList_none, Option.toList_some, List.cons_append, List.nil_append, List.length_cons, List.length_nil, List.set_cons_zero, List.set_cons_succ, List.getElem?_cons_zero, List.getElem?_cons_succ, Nat.reduceAdd, Nat.reduceSub, Nat.reduceMul, Nat.reduceEqDiff, Nat.reduceLeDiff, Nat.reduceLT, Nat.reduceDiv, Bool.false_eq_true, ↓reduceIte, true_and, and_true, false_and, and_false, reduceCtorEq, if_true, Nat.zero_add, cl, lt_nI, le_nI, eq_nI, in_nI, z_nI, retok, or_true, true_or, false_or, or_false, Nat.one_ne_zero, ne_eq, not_false_eq_true, not_true_eq_false, forall_const, Option.isSome_some, false_implies, implies_true, hput_1, hnew_1, vcat1, Nat.le_refl, Nat.not_lt_zero, Nat.lt_irrefl, hput_eq, hput_ne, hput_put, DX7_writeNest, DX7_writeNest_0, TX7_writeNest, FT_7, MT_7, SC_7, DX7_nestNumbered, DJ4_setLength_d00df, DJ4_append_cf468, DJ4_append_bf812, DJ4_length_8abf5, OI_a, AC_a, NT_a, a30, n3.1, n3.2.2.2, dats_at, e2, sb30]
      refine e_app2 (by omega) hj hz3 (by omega) lv3 (by show L1.1 + nd k + 1 + nd m ≤ 286; omega) (by omega) y1 y2 (fun h4 l4 rc4 rs4 f4 lv4 y3 y4 => ?_)
      have a4 := a3.fl f4
      simp (disch := first | omega | assumption) only [↓wstep, ↓wq_s, ↓wq_0, stp, ↓WR0, ↓WR1, ↓WR2, ↓WR3, ↓WR4, ↓WR5, ↓WR6, ↓WR7, ↓WR8, ↓WR9, ↓WR10, ↓WR11, ↓WR12, WI0, WI1, WI2, WI3, fv_0, fv_1, fv_2, fv_3, lkI_0, lkI_1, kip, kin, tgp, tkp, tgn, tkn, bip, bin, sip, lget, lset1, lset2, lcat2, ↓ws_get, ↓ws_put, ws_cell, ws_cell1, ws_hcell, ws_hcell3, ws_hcell1, ↓cellOf, ↓ws_call, ↓ws_callS, ↓ws_oi, ↓ws_ac, ↓ws_mm, ↓ws_post, ↓ws_exc, popN, rok, clsAt, cnOf, catS_nil, catS_i, catS_r, catS_n, catS_l, catS_d, catS_f, nokc, Option.toList_none, Option.toList_some, List.cons_append, List.nil_append, List.length_cons, List.length_nil, List.set_cons_zero, List.set_cons_succ, List.getElem?_cons_zero, List.getElem?_cons_succ, Nat.reduceAdd, Nat.reduceSub, Nat.reduceMul, Nat.reduceEqDiff, Nat.reduceLeDiff, Nat.reduceLT, Nat.reduceDiv, Bool.false_eq_true, ↓reduceIte, true_and, and_true, false_and, and_false, reduceCtorEq, if_true, Nat.zero_add, cl, lt_nI, le_nI, eq_nI, in_nI, z_nI, retok, or_true, true_or, false_or, or_false, Nat.one_ne_zero, ne_eq, not_false_eq_true, not_true_eq_false, forall_const, Option.isSome_some, false_implies, implies_true, hput_1, hnew_1, vcat1, Nat.le_refl, Nat.not_lt_zero, Nat.lt_irrefl, hput_eq, hput_ne, hput_put, DX7_writeNest, DX7_writeNest_0, TX7_writeNest, FT_7, MT_7, SC_7, DX7_nestNumbered, DJ4_setLength_d00df, DJ4_append_cf468, DJ4_append_bf812, DJ4_length_8abf5, OI_a, AC_a, NT_a, nI_add]
      have eW : apN (apC (apN L1 k) ((x.1.2.2.2 i).2.2 j).2.1.val) m = wrP j ((x.1.2.2.2 i).2.2 j) L := by
        unfold wrP; rw [e1, e2, cl k (by omega), cl m (by omega), eL]
      rw [eW] at lv4
      exact ih (j + 1) l4 _ _ _ h4 (by omega) (by omega) (hz3.fl f4 (by omega)) a4 lv4 y3 y4 (fun h' l' rc' rs' f' a' lv' => hq h' l' rc' rs' ((f1.tr f2).tr ((f3.tr f4).tr f')) a' lv')
    have n := a.2.1.2.2.2 i hi
    have a0 := a.1
    unfold xE at a0
    obtain ⟨v0, ml0, g0, sb0, -⟩ := id lv
    have sb00 := sb0.1
    unfold sbE at sb00
    refine V_walk [38, 86] 20 ?_
    simp (disch := first | omega | assumption) only [↓wstep, ↓wq_s, ↓wq_0, stp, ↓WR0, ↓WR1, ↓WR2, ↓WR3, ↓WR4, ↓WR5, ↓WR6, ↓WR7, ↓WR8, ↓WR9, ↓WR10, ↓WR11, ↓WR12, WI0, WI1, WI2, WI3, fv_0, fv_1, fv_2, fv_3, lkI_0, lkI_1, kip, kin, tgp, tkp, tgn, tkn, bip, bin, sip, lget, lset1, lset2, lcat2, ↓ws_get, ↓ws_put, ws_cell, ws_cell1, ws_hcell, ws_hcell3, ws_hcell1, ↓cellOf, ↓ws_call, ↓ws_callS, ↓ws_oi, ↓ws_ac, ↓ws_mm, ↓ws_post, ↓ws_exc, popN, rok, clsAt, cnOf, catS_nil, catS_i, catS_r, catS_n, catS_l, catS_d, catS_f, nokc, Option.toList_none, Option.toList_some, List.cons_append, List.nil_append, List.length_cons, List.length_nil, List.set_cons_zero, List.set_cons_succ, List.getElem?_cons_zero, List.getElem?_cons_succ, Nat.reduceAdd, Nat.reduceSub, Nat.reduceMul, Nat.reduceEqDiff, Nat.reduceLeDiff, Nat.reduceLT, Nat.reduceDiv, Bool.false_eq_true, ↓reduceIte, true_and, and_true, false_and, and_false, reduceCtorEq, if_true, Nat.zero_add, cl, lt_nI, le_nI, eq_nI, in_nI, z_nI, retok, or_true, true_or, false_or, or_false, Nat.one_ne_zero, ne_eq, not_false_eq_true, not_true_eq_false, forall_const, Option.isSome_some, false_implies, implies_true, hput_1, hnew_1, vcat1, Nat.le_refl, Nat.not_lt_zero, Nat.lt_irrefl, hput_eq, hput_ne, hput_put, DX7_writeNest, DX7_writeNest_0, TX7_writeNest, FT_7, MT_7, SC_7, DX7_nestNumbered, DJ4_setLength_d00df, DJ4_append_cf468, DJ4_append_bf812, DJ4_length_8abf5, OI_a, AC_a, NT_a, n.1, a0, sb00]
    refine ⟨fun q => by omega, fun _ => ⟨fun q => ?_, fun q => ?_⟩⟩
    · exact key h l rc rs L (by rw [if_neg (by omega)]) Fl.rf lv h1 h2
    · refine e_app1 (by omega) hj lv (by omega) (by omega) h1 h2 (fun h2' l2 rc2 rs2 f2 lv2 w1 w2 => ?_)
      simp (disch := first | omega | assumption) only [↓wstep, ↓wq_s, ↓wq_0, stp, ↓WR0, ↓WR1, ↓WR2, ↓WR3, ↓WR4, ↓WR5, ↓WR6, ↓WR7, ↓WR8, ↓WR9, ↓WR10, ↓WR11, ↓WR12, WI0, WI1, WI2, WI3, fv_0, fv_1, fv_2, fv_3, lkI_0, lkI_1, kip, kin, tgp, tkp, tgn, tkn, bip, bin, sip, lget, lset1, lset2, lcat2, ↓ws_get, ↓ws_put, ws_cell, ws_cell1, ws_hcell, ws_hcell3, ws_hcell1, ↓cellOf, ↓ws_call, ↓ws_callS, ↓ws_oi, ↓ws_ac, ↓ws_mm, ↓ws_post, ↓ws_exc, popN, rok, clsAt, cnOf, catS_nil, catS_i, catS_r, catS_n, catS_l, catS_d, catS_f, nokc, Option.toList_none, Option.toList_some, List.cons_append, List.nil_append, List.length_cons, List.length_nil, List.set_cons_zero, List.set_cons_succ, List.getElem?_cons_zero, List.getElem?_cons_succ, Nat.reduceAdd, Nat.reduceSub, Nat.reduceMul, Nat.reduceEqDiff, Nat.reduceLeDiff, Nat.reduceLT, Nat.reduceDiv, Bool.false_eq_true, ↓reduceIte, true_and, and_true, false_and, and_false, reduceCtorEq, if_true, Nat.zero_add, cl, lt_nI, le_nI, eq_nI, in_nI, z_nI, retok, or_true, true_or, false_or, or_false, Nat.one_ne_zero, ne_eq, not_false_eq_true, not_true_eq_false, forall_const, Option.isSome_some, false_implies, implies_true, hput_1, hnew_1, vcat1, Nat.le_refl, Nat.not_lt_zero, Nat.lt_irrefl, hput_eq, hput_ne, hput_put, DX7_writeNest, DX7_writeNest_0, TX7_writeNest, FT_7, MT_7, SC_7, DX7_nestNumbered, DJ4_setLength_d00df, DJ4_append_cf468, DJ4_append_bf812, DJ4_length_8abf5, OI_a, AC_a, NT_a]
      exact key h2' l2 _ _ _ (by rw [if_pos (by omega)]) f2 lv2 w1 w2
theorem wrN_le {p : Pens} {sz : Nat} (hw : ∀ j, j < sz → WrP (p j)) : ∀ (r i : Nat) (L : Tx), i + r ≤ sz → (wrN p r i L).1 ≤ L.1 + 9 * r
  | 0, _, _, _ => Nat.le_refl _
  | r + 1, i, L, h => by
    have h1 := wrN_le hw r (i + 1) (wrP i (p i) L) (by omega)
    have h2 := wrP_le (i := i) (L := L) (hw i (by omega))
    rw [wrN]; omega
theorem Lv.set {h : Hp} {s l : Nat} {L : Tx} (a : Lv h s l L) : ∃ v ml g, SB h s v (cpL l) L.1 ml g ∧ Fb g (cpL l) ∧ v < h.1 ∧ s + 13 ≤ h.1 ∧ v ≠ s ∧ L.1 ≤ cpL l ∧ l ≤ 4 ∧ ∀ ml' t, Lv (hput h s (sbE v 0 ml')) s l (0, t) := by
  obtain ⟨v, ml, g, sb, fb, hv, hs, hvs, hL, hl, ht⟩ := a
  refine ⟨v, ml, g, sb, fb, hv, hs, by omega, hL, hl, fun ml' t => ⟨v, ml', g, ⟨hput_eq _ _ _, (hput_ne (by omega)).trans sb.2⟩, fb, hv, hs, hvs, Nat.zero_le _, hl, fun k hk => absurd hk (Nat.not_lt_zero _)⟩⟩
/-- the class's line: a text at some level -/
def Ln (h : Hp) (s : Nat) (L : Tx) : Prop := ∃ l, Lv h s l L
set_option maxRecDepth 20000 in
set_option maxHeartbeats 4000000 in
theorem c_x_writeNest {G : GT} {K : KT9} {h : Hp} {B d : Nat} {x1 : Int32} {x : XS} {L : Tx} {Q : RT → Hp → Prop} (hd : 9 ≤ d) (hm : MsgW G) (hj : JW2 G) (hB : b0 G ≤ B) (ht : tot x.1 ≤ 24) (hw : ∀ i j, i < 4 → j < (x.1.2.2.2 i).1 → WrP ((x.1.2.2.2 i).2.2 j)) (hz : Zr G h) (a : AtX K h B x) (ln : Ln h (B + 228) L)
    (hq0 : isN x1 = false → ∀ z, h.1 ≤ z → Q (.inr "java/lang/IndexOutOfBoundsException") (z, h.2))
    (hq1 : ∀ i, i < 4 → x1 = nI i → ∀ h', Fl h h' (B + 228) → AtX K h' B x → Ln h' (B + 228) (wrN (x.1.2.2.2 i).2.2 (x.1.2.2.2 i).1 0 (0, fun _ => 0)) → Q (.inl (some (.int (nI (wrN (x.1.2.2.2 i).2.2 (x.1.2.2.2 i).1 0 (0, fun _ => 0)).1)))) h') : Ct G mX7_writeNest d 5 540 [.ref B, .int x1] h Q := by
  have a0 := a.1
  unfold xE at a0
  refine Ct.of rfl rfl (Nat.le_of_ble_eq_true rfl) ?_
  show V G mX7_writeNest _ _ _ 0 [some (.ref B), some (.int x1), none, none] [] h Q
  refine V_walk [16] 40 ?_
  simp (disch := first | omega | assumption) only [↓wstep, ↓wq_s, ↓wq_0, stp, ↓WR0, ↓WR1, ↓WR2, ↓WR3, ↓WR4, ↓WR5, ↓WR6, ↓WR7, ↓WR8, ↓WR9, ↓WR10, ↓WR11, ↓WR12, WI0, WI1, WI2, WI3, fv_0, fv_1, fv_2, fv_3, lkI_0, lkI_1, kip, kin, tgp, tkp, tgn, tkn, bip, bin, sip, lget, lset1, lset2, lcat2, ↓ws_get, ↓ws_put, ws_cell, ws_cell1, ws_hcell, ws_hcell3, ws_hcell1, ↓cellOf, ↓ws_call, ↓ws_callS, ↓ws_oi, ↓ws_ac, ↓ws_mm, ↓ws_post, ↓ws_exc, popN, rok, clsAt, cnOf, catS_nil, catS_i, catS_r, catS_n, catS_l, catS_d, catS_f, nokc, Option.toList_none, Option.toList_some, List.cons_append, List.nil_append, List.length_cons, List.length_nil, List.set_cons_zero, List.set_cons_succ, List.getElem?_cons_zero, List.getElem?_cons_succ, Nat.reduceAdd, Nat.reduceSub, Nat.reduceMul, Nat.reduceEqDiff, Nat.reduceLeDiff, Nat.reduceLT, Nat.reduceDiv, Bool.false_eq_true, ↓reduceIte, true_and, and_true, false_and, and_false, reduceCtorEq, if_true, Nat.zero_add, cl, lt_nI, le_nI, eq_nI, in_nI, z_nI, retok, or_true, true_or, false_or, or_false, Nat.one_ne_zero, ne_eq, not_false_eq_true, not_true_eq_false, forall_const, Option.isSome_some, false_implies, implies_true, hput_1, hnew_1, vcat1, Nat.le_refl, Nat.not_lt_zero, Nat.lt_irrefl, hput_eq, hput_ne, hput_put, DX7_writeNest, DX7_writeNest_0, TX7_writeNest, FT_7, MT_7, SC_7, DX7_nestNumbered, DJ4_setLength_d00df, DJ4_append_cf468, DJ4_append_bf812, DJ4_length_8abf5, OI_a, AC_a, NT_a, a0]
  refine CtE.of (d - 1) 1 6 (by omega) (by omega) (by omega) (c_nestNumbered (by omega) hm a (fun e z hz => ?_) (fun i hi e => ?_))
  · simp (disch := first | omega | assumption) only [↓wstep, ↓wq_s, ↓wq_0, stp, ↓WR0, ↓WR1, ↓WR2, ↓WR3, ↓WR4, ↓WR5, ↓WR6, ↓WR7, ↓WR8, ↓WR9, ↓WR10, ↓WR11, ↓WR12, WI0, WI1, WI2, WI3, fv_0, fv_1, fv_2, fv_3, lkI_0, lkI_1, kip, kin, tgp, tkp, tgn, tkn, bip, bin, sip, lget, lset1, lset2, lcat2, ↓ws_get, ↓ws_put, ws_cell, ws_cell1, ws_hcell, ws_hcell3, ws_hcell1, ↓cellOf, ↓ws_call, ↓ws_callS, ↓ws_oi, ↓ws_ac, ↓ws_mm, ↓ws_post, ↓ws_exc, popN, rok, clsAt, cnOf, catS_nil, catS_i, catS_r, catS_n, catS_l, catS_d, catS_f, nokc, Option.toList_none, Option.toList_some, List.cons_append, List.nil_append, List.length_cons, List.length_nil, List.set_cons_zero, List.set_cons_succ, List.getElem?_cons_zero, List.getElem?_cons_succ, Nat.reduceAdd, Nat.reduceSub, Nat.reduceMul, Nat.reduceEqDiff, Nat.reduceLeDiff, Nat.reduceLT, Nat.reduceDiv, Bool.false_eq_true, ↓reduceIte, true_and, and_true, false_and, and_false, reduceCtorEq, if_true, Nat.zero_add, cl, lt_nI, le_nI, eq_nI, in_nI, z_nI, retok, or_true, true_or, false_or, or_false, Nat.one_ne_zero, ne_eq, not_false_eq_true, not_true_eq_false, forall_const, Option.isSome_some, false_implies, implies_true, hput_1, hnew_1, vcat1, Nat.le_refl, Nat.not_lt_zero, Nat.lt_irrefl, hput_eq, hput_ne, hput_put, DX7_writeNest, DX7_writeNest_0, TX7_writeNest, FT_7, MT_7, SC_7, DX7_nestNumbered, DJ4_setLength_d00df, DJ4_append_cf468, DJ4_append_bf812, DJ4_length_8abf5, OI_a, AC_a, NT_a, TX7_writeNest]
    exact hq0 e z hz
  · have hz4 := tot_le ht hi
    obtain ⟨l, lv⟩ := ln
    obtain ⟨v, ml, g, sb, fb, hv, hs, hvs, hL, hl, hset⟩ := lv.set
    have hcp := cpL_le hl
    have sb0 := sb.1
    unfold sbE at sb0
    simp (disch := first | omega | assumption) only [↓wstep, ↓wq_s, ↓wq_0, stp, ↓WR0, ↓WR1, ↓WR2, ↓WR3, ↓WR4, ↓WR5, ↓WR6, ↓WR7, ↓WR8, ↓WR9, ↓WR10, ↓WR11, ↓WR12, WI0, WI1, WI2, WI3, fv_0, fv_1, fv_2, fv_3, lkI_0, lkI_1, kip, kin, tgp, tkp, tgn, tkn, bip, bin, sip, lget, lset1, lset2, lcat2, ↓ws_get, ↓ws_put, ws_cell, ws_cell1, ws_hcell, ws_hcell3, ws_hcell1, ↓cellOf, ↓ws_call, ↓ws_callS, ↓ws_oi, ↓ws_ac, ↓ws_mm, ↓ws_post, ↓ws_exc, popN, rok, clsAt, cnOf, catS_nil, catS_i, catS_r, catS_n, catS_l, catS_d, catS_f, nokc, Option.toList_none, Option.toList_some, List.cons_append, List.nil_append, List.length_cons, List.length_nil, List.set_cons_zero, List.set_cons_succ, List.getElem?_cons_zero, List.getElem?_cons_succ, Nat.reduceAdd, Nat.reduceSub, Nat.reduceMul, Nat.reduceEqDiff, Nat.reduceLeDiff, Nat.reduceLT, Nat.reduceDiv, Bool.false_eq_true, ↓reduceIte, true_and, and_true, false_and, and_false, reduceCtorEq, if_true, Nat.zero_add, cl, lt_nI, le_nI, eq_nI, in_nI, z_nI, retok, or_true, true_or, false_or, or_false, Nat.one_ne_zero, ne_eq, not_false_eq_true, not_true_eq_false, forall_const, Option.isSome_some, false_implies, implies_true, hput_1, hnew_1, vcat1, Nat.le_refl, Nat.not_lt_zero, Nat.lt_irrefl, hput_eq, hput_ne, hput_put, DX7_writeNest, DX7_writeNest_0, TX7_writeNest, FT_7, MT_7, SC_7, DX7_nestNumbered, DJ4_setLength_d00df, DJ4_append_cf468, DJ4_append_bf812, DJ4_length_8abf5, OI_a, AC_a, NT_a, a0, sb0]
    refine CtE.of0 (by omega) (c_setLen0 (by omega) hj sb fb (by omega) hv hvs (by omega) hL (fun ml' => ?_))
    have f1 : Fl h (hput h (B + 228) (sbE v 0 ml')) (B + 228) := ⟨Nat.le_refl _, fun b _ h2 _ => hput_ne h2⟩
    simp (disch := first | omega | assumption) only [↓wstep, ↓wq_s, ↓wq_0, stp, ↓WR0, ↓WR1, ↓WR2, ↓WR3, ↓WR4, ↓WR5, ↓WR6, ↓WR7, ↓WR8, ↓WR9, ↓WR10, ↓WR11, ↓WR12, WI0, WI1, WI2, WI3, fv_0, fv_1, fv_2, fv_3, lkI_0, lkI_1, kip, kin, tgp, tkp, tgn, tkn, bip, bin, sip, lget, lset1, lset2, lcat2, ↓ws_get, ↓ws_put, ws_cell, ws_cell1, ws_hcell, ws_hcell3, ws_hcell1, ↓cellOf, ↓ws_call, ↓ws_callS, ↓ws_oi, ↓ws_ac, ↓ws_mm, ↓ws_post, ↓ws_exc, popN, rok, clsAt, cnOf, catS_nil, catS_i, catS_r, catS_n, catS_l, catS_d, catS_f, nokc, Option.toList_none, Option.toList_some, List.cons_append, List.nil_append, List.length_cons, List.length_nil, List.set_cons_zero, List.set_cons_succ, List.getElem?_cons_zero, List.getElem?_cons_succ, Nat.reduceAdd, Nat.reduceSub, Nat.reduceMul, Nat.reduceEqDiff, Nat.reduceLeDiff, Nat.reduceLT, Nat.reduceDiv, Bool.false_eq_true, ↓reduceIte, true_and, and_true, false_and, and_false, reduceCtorEq, if_true, Nat.zero_add, cl, lt_nI, le_nI, eq_nI, in_nI, z_nI, retok, or_true, true_or, false_or, or_false, Nat.one_ne_zero, ne_eq, not_false_eq_true, not_true_eq_false, forall_const, Option.isSome_some, false_implies, implies_true, hput_1, hnew_1, vcat1, Nat.le_refl, Nat.not_lt_zero, Nat.lt_irrefl, hput_eq, hput_ne, hput_put, DX7_writeNest, DX7_writeNest_0, TX7_writeNest, FT_7, MT_7, SC_7, DX7_nestNumbered, DJ4_setLength_d00df, DJ4_append_cf468, DJ4_append_bf812, DJ4_length_8abf5, OI_a, AC_a, NT_a]
    refine l_wrN (by omega) hj hB hi hz4 (fun j hj => hw i j hi hj) (x.1.2.2.2 i).1 0 l _ _ (0, fun _ => 0) _ (by omega) (Nat.zero_le _) (hz.fl f1 (by omega)) (a.fl f1) (hset ml' _) (by omega) (by unfold rmS; split; omega; split; omega; split; omega; split; omega; omega) (fun h' l' rc' rs' f' a' lv' => ?_)
    have a0' := a'.1
    unfold xE at a0'
    obtain ⟨v1, ml1, g1, sb1, -⟩ := id lv'
    have sb10 := sb1.1
    unfold sbE at sb10
    refine V_walk [] 10 ?_
    simp (disch := first | omega | assumption) only [↓wstep, ↓wq_s, ↓wq_0, stp, ↓WR0, ↓WR1, ↓WR2, ↓WR3, ↓WR4, ↓WR5, ↓WR6, ↓WR7, ↓WR8, ↓WR9, ↓WR10, ↓WR11, ↓WR12, WI0, WI1, WI2, WI3, fv_0, fv_1, fv_2, fv_3, lkI_0, lkI_1, kip, kin, tgp, tkp, tgn, tkn, bip, bin, sip, lget, lset1, lset2, lcat2, ↓ws_get, ↓ws_put, ws_cell, ws_cell1, ws_hcell, ws_hcell3, ws_hcell1, ↓cellOf, ↓ws_call, ↓ws_callS, ↓ws_oi, ↓ws_ac, ↓ws_mm, ↓ws_post, ↓ws_exc, popN, rok, clsAt, cnOf, catS_nil, catS_i, catS_r, catS_n, catS_l, catS_d, catS_f, nokc, Option.toList_none, Option.toList_some, List.cons_append, List.nil_append, List.length_cons, List.length_nil, List.set_cons_zero, List.set_cons_succ, List.getElem?_cons_zero, List.getElem?_cons_succ, Nat.reduceAdd, Nat.reduceSub, Nat.reduceMul, Nat.reduceEqDiff, Nat.reduceLeDiff, Nat.reduceLT, Nat.reduceDiv, Bool.false_eq_true, ↓reduceIte, true_and, and_true, false_and, and_false, reduceCtorEq, if_true, Nat.zero_add, cl, lt_nI, le_nI, eq_nI, in_nI, z_nI, retok, or_true, true_or, false_or, or_false, Nat.one_ne_zero, ne_eq, not_false_eq_true, not_true_eq_false, forall_const, Option.isSome_some, false_implies, implies_true, hput_1, hnew_1, vcat1, Nat.le_refl, Nat.not_lt_zero, Nat.lt_irrefl, hput_eq, hput_ne, hput_put, DX7_writeNest, DX7_writeNest_0, TX7_writeNest, FT_7, MT_7, SC_7, DX7_nestNumbered, DJ4_setLength_d00df, DJ4_append_cf468, DJ4_append_bf812, DJ4_length_8abf5, OI_a, AC_a, NT_a, a0', sb10]
    refine CtE.of0 (by omega) (c_sbLen (by omega) sb1 ?_)
    simp (disch := first | omega | assumption) only [↓wstep, ↓wq_s, ↓wq_0, stp, ↓WR0, ↓WR1, ↓WR2, ↓WR3, ↓WR4, ↓WR5, ↓WR6, ↓WR7, ↓WR8, ↓WR9, ↓WR10, ↓WR11, ↓WR12, WI0, WI1, WI2, WI3, fv_0, fv_1, fv_2, fv_3, lkI_0, lkI_1, kip, kin, tgp, tkp, tgn, tkn, bip, bin, sip, lget, lset1, lset2, lcat2, ↓ws_get, ↓ws_put, ws_cell, ws_cell1, ws_hcell, ws_hcell3, ws_hcell1, ↓cellOf, ↓ws_call, ↓ws_callS, ↓ws_oi, ↓ws_ac, ↓ws_mm, ↓ws_post, ↓ws_exc, popN, rok, clsAt, cnOf, catS_nil, catS_i, catS_r, catS_n, catS_l, catS_d, catS_f, nokc, Option.toList_none, Option.toList_some, List.cons_append, List.nil_append, List.length_cons, List.length_nil, List.set_cons_zero, List.set_cons_succ, List.getElem?_cons_zero, List.getElem?_cons_succ, Nat.reduceAdd, Nat.reduceSub, Nat.reduceMul, Nat.reduceEqDiff, Nat.reduceLeDiff, Nat.reduceLT, Nat.reduceDiv, Bool.false_eq_true, ↓reduceIte, true_and, and_true, false_and, and_false, reduceCtorEq, if_true, Nat.zero_add, cl, lt_nI, le_nI, eq_nI, in_nI, z_nI, retok, or_true, true_or, false_or, or_false, Nat.one_ne_zero, ne_eq, not_false_eq_true, not_true_eq_false, forall_const, Option.isSome_some, false_implies, implies_true, hput_1, hnew_1, vcat1, Nat.le_refl, Nat.not_lt_zero, Nat.lt_irrefl, hput_eq, hput_ne, hput_put, DX7_writeNest, DX7_writeNest_0, TX7_writeNest, FT_7, MT_7, SC_7, DX7_nestNumbered, DJ4_setLength_d00df, DJ4_append_cf468, DJ4_append_bf812, DJ4_length_8abf5, OI_a, AC_a, NT_a]
    exact hq1 i hi e h' (f1.tr f') a' ⟨l', lv'⟩
/-- the ink's text -/
def wiP (f : Nat → Int32) (i : Nat) (L : Tx) : Tx := if nI 0 < f i then apN (apC (if 0 < L.1 then apC L 44 else L) (97 + i)) (f i).toNatClampNeg else L
def wiN (f : Nat → Int32) : Nat → Nat → Tx → Tx
  | 0, _, L => L
  | r + 1, i, L => wiN f r (i + 1) (wiP f i L)
theorem wiP_le {f : Nat → Int32} {i v : Nat} {L : Tx} (hf : f i = nI v) (hv : v ≤ 999) : (wiP f i L).1 ≤ L.1 + 5 := by
  have h4 := nd3 hv
  unfold wiP
  rw [hf, cl v (by omega)]
  split
  · show (if 0 < L.1 then apC L 44 else L).1 + 1 + nd v ≤ _
    split
    · show L.1 + 1 + 1 + nd v ≤ _; omega
    · omega
  · omega
set_option maxRecDepth 20000 in
set_option maxHeartbeats 4000000 in
theorem l_wiN {G : GT} {K : KT9} {B d : Nat} {x : XS} {Q : RT → Hp → Prop} (hd : 8 ≤ d) (hj : JW2 G) (hB : b0 G ≤ B) (hi : ∀ k, k < 8 → ∃ v, v ≤ 999 ∧ x.1.2.2.1 k = nI v) : ∀ (r j l rc rs : Nat) (L : Tx) (h : Hp), j + r = 8 → L.1 ≤ 5 * j → Zr G h → AtX K h B x → Lv h (B + 228) l L → 4 - l ≤ rc → rmS l ≤ rs → (∀ h' l' rc' rs', Fl h h' (B + 228) → AtX K h' B x → Lv h' (B + 228) l' (wiN x.1.2.2.1 r j L) → V G mX7_writeInk d rc' rs' 84 [some (.ref B), some (.int (nI 8))] [] h' Q) → V G mX7_writeInk d rc rs 10 [some (.ref B), some (.int (nI j))] [] h Q := by
  intro r
  induction r with
  | zero =>
    intro j l rc rs L h hjr hL hz a lv h1 h2 hq
    obtain rfl : j = 8 := by omega
    refine V_walk [84] 10 ?_
    simp (disch := first | omega | assumption) only [↓wstep, ↓wq_s, ↓wq_0, stp, ↓WR0, ↓WR1, ↓WR2, ↓WR3, ↓WR4, ↓WR5, ↓WR6, ↓WR7, ↓WR8, ↓WR9, ↓WR10, ↓WR11, ↓WR12, WI0, WI1, WI2, WI3, fv_0, fv_1, fv_2, fv_3, lkI_0, lkI_1, kip, kin, tgp, tkp, tgn, tkn, bip, bin, sip, lget, lset1, lset2, lcat2, ↓ws_get, ↓ws_put, ws_cell, ws_cell1, ws_hcell, ws_hcell3, ws_hcell1, ↓cellOf, ↓ws_call, ↓ws_callS, ↓ws_oi, ↓ws_ac, ↓ws_mm, ↓ws_post, ↓ws_exc, popN, rok, clsAt, cnOf, catS_nil, catS_i, catS_r, catS_n, catS_l, catS_d, catS_f, nokc, Option.toList_none, Option.toList_some, List.cons_append, List.nil_append, List.length_cons, List.length_nil, List.set_cons_zero, List.set_cons_succ, List.getElem?_cons_zero, List.getElem?_cons_succ, Nat.reduceAdd, Nat.reduceSub, Nat.reduceMul, Nat.reduceEqDiff, Nat.reduceLeDiff, Nat.reduceLT, Nat.reduceDiv, Bool.false_eq_true, ↓reduceIte, true_and, and_true, false_and, and_false, reduceCtorEq, if_true, Nat.zero_add, cl, lt_nI, le_nI, eq_nI, in_nI, z_nI, retok, or_true, true_or, false_or, or_false, Nat.one_ne_zero, ne_eq, not_false_eq_true, not_true_eq_false, forall_const, Option.isSome_some, false_implies, implies_true, hput_1, hnew_1, vcat1, Nat.le_refl, Nat.not_lt_zero, Nat.lt_irrefl, hput_eq, hput_ne, hput_put, DX7_writeInk, DX7_writeInk_0, TX7_writeInk, FT_7, MT_7, SC_7, DJ4_setLength_d00df, DJ4_length_8abf5, DJ4_append_cf468, DJ4_append_bf812, OI_a, AC_a, NT_a]
    exact hq h l rc rs Fl.rf a lv
  | succ r ih =>
    intro j l rc rs L h hjr hL hz a lv h1 h2 hq
    obtain ⟨v9, hv9, ev⟩ := hi j (by omega)
    have hle := wiP_le (L := L) ev hv9
    have hnd := nd3 hv9
    rw [wiN] at hq
    have a0 := a.1
    unfold xE at a0
    have a1 := a.2.1.1
    have a2 := a.2.1.2.2.1
    obtain ⟨v0, ml0, g0, sb0, -⟩ := id lv
    have sb00 := sb0.1
    unfold sbE at sb00
    have hj8 : j < 8 := by omega
    have key : nI 0 < x.1.2.2.1 j → ∀ (h1 : Hp) (l1 rc1 rs1 : Nat) (L1 : Tx), L1 = (if 0 < L.1 then apC L 44 else L) → Fl h h1 (B + 228) → Lv h1 (B + 228) l1 L1 → 4 - l1 ≤ rc1 → rmS l1 ≤ rs1 → V G mX7_writeInk d rc1 rs1 48 [some (.ref B), some (.int (nI j))] [] h1 Q := by
      intro hp h1 l1 rc1 rs1 L1 eL f1 lv1 u1 u2
      have hL1 : L1.1 ≤ L.1 + 1 := by rw [eL]; split; exact Nat.le_refl _; omega
      have hz1 := hz.fl f1 (by omega)
      have a1 := a.fl f1
      have a10 := a1.1
      unfold xE at a10
      obtain ⟨v1, ml1, g1, sb1, -⟩ := id lv1
      have sb10 := sb1.1
      unfold sbE at sb10
      have e4 := (sb_byte (97 + j) (by omega)).2.1
      refine V_walk [10] 60 ?_
      simp (disch := first | omega | assumption) only [↓wstep, ↓wq_s, ↓wq_0, stp, ↓WR0, ↓WR1, ↓WR2, ↓WR3, ↓WR4, ↓WR5, ↓WR6, ↓WR7, ↓WR8, ↓WR9, ↓WR10, ↓WR11, ↓WR12, WI0, WI1, WI2, WI3, fv_0, fv_1, fv_2, fv_3, lkI_0, lkI_1, kip, kin, tgp, tkp, tgn, tkn, bip, bin, sip, lget, lset1, lset2, lcat2, ↓ws_get, ↓ws_put, ws_cell, ws_cell1, ws_hcell, ws_hcell3, ws_hcell1, ↓cellOf, ↓ws_call, ↓ws_callS, ↓ws_oi, ↓ws_ac, ↓ws_mm, ↓ws_post, ↓ws_exc, popN, rok, clsAt, cnOf, catS_nil, catS_i, catS_r, catS_n, catS_l, catS_d, catS_f, nokc, Option.toList_none, Option.toList_some, List.cons_append, List.nil_append, List.length_cons, List.length_nil, List.set_cons_zero, List.set_cons_succ, List.getElem?_cons_zero, List.getElem?_cons_succ, Nat.reduceAdd, Nat.reduceSub, Nat.reduceMul, Nat.reduceEqDiff, Nat.reduceLeDiff, Nat.reduceLT, Nat.reduceDiv, Bool.false_eq_true, ↓reduceIte, true_and, and_true, false_and, and_false, reduceCtorEq, if_true, Nat.zero_add, cl, lt_nI, le_nI, eq_nI, in_nI, z_nI, retok, or_true, true_or, false_or, or_false, Nat.one_ne_zero, ne_eq, not_false_eq_true, not_true_eq_false, forall_const, Option.isSome_some, false_implies, implies_true, hput_1, hnew_1, vcat1, Nat.le_refl, Nat.not_lt_zero, Nat.lt_irrefl, hput_eq, hput_ne, hput_put, DX7_writeInk, DX7_writeInk_0, TX7_writeInk, FT_7, MT_7, SC_7, DJ4_setLength_d00df, DJ4_length_8abf5, DJ4_append_cf468, DJ4_append_bf812, OI_a, AC_a, NT_a, a10, nI_add, e4, sb10]
      refine e_app1 (by omega) hj lv1 (by omega) (by omega) u1 u2 (fun h2 l2 rc2 rs2 f2 lv2 w1 w2 => ?_)
      have hz2 := hz1.fl f2 (by omega)
      have a2 := a1.fl f2
      have a20 := a2.1
      unfold xE at a20
      have a21 := a2.2.1.1
      have a22 := a2.2.1.2.2.1
      obtain ⟨v2, ml2, g2, sb2, -⟩ := id lv2
      have sb20 := sb2.1
      unfold sbE at sb20
      simp (disch := first | omega | assumption) only [↓wstep, ↓wq_s, ↓wq_0, stp, ↓WR0, ↓WR1, ↓WR2, ↓WR3, ↓WR4, ↓WR5, ↓WR6, ↓WR7, ↓WR8, ↓WR9, ↓WR10, ↓WR11, ↓WR12, WI0, WI1, WI2, WI3, fv_0, fv_1, fv_2, fv_3, lkI_0, lkI_1, kip, kin, tgp, tkp, tgn, tkn, bip, bin, sip, lget, lset1, lset2, lcat2, ↓ws_get, ↓ws_put, ws_cell, ws_cell1, ws_hcell, ws_hcell3, ws_hcell1, ↓cellOf, ↓ws_call, ↓ws_callS, ↓ws_oi, ↓ws_ac, ↓ws_mm, ↓ws_post, ↓ws_exc, popN, rok, clsAt, cnOf, catS_nil, catS_i, catS_r, catS_n, catS_l, catS_d, catS_f, nokc, Option.toList_none, Option.toList_some, List.cons_append, List.nil_append, List.length_cons, List.length_nil, List.set_cons_zero, List.set_cons_succ, List.getElem?_cons_zero, List.getElem?_cons_succ, Nat.reduceAdd, Nat.reduceSub, Nat.reduceMul, Nat.reduceEqDiff, Nat.reduceLeDiff, Nat.reduceLT, Nat.reduceDiv, Bool.false_eq_true, ↓reduceIte, true_and, and_true, false_and, and_false, reduceCtorEq, if_true, Nat.zero_add, cl, lt_nI, le_nI, eq_nI, in_nI, z_nI, retok, or_true, true_or, false_or, or_false, Nat.one_ne_zero, ne_eq, not_false_eq_true, not_true_eq_false, forall_const, Option.isSome_some, false_implies, implies_true, hput_1, hnew_1, vcat1, Nat.le_refl, Nat.not_lt_zero, Nat.lt_irrefl, hput_eq, hput_ne, hput_put, DX7_writeInk, DX7_writeInk_0, TX7_writeInk, FT_7, MT_7, SC_7, DJ4_setLength_d00df, DJ4_length_8abf5, DJ4_append_cf468, DJ4_append_bf812, OI_a, AC_a, NT_a, a20, a21, a22, ev, sb20]
      refine e_app2 (by omega) hj hz2 (by omega) lv2 (by show L1.1 + 1 + nd v9 ≤ 286; omega) (by omega) w1 w2 (fun h3 l3 rc3 rs3 f3 lv3 y1 y2 => ?_)
      have a3 := a2.fl f3
      simp (disch := first | omega | assumption) only [↓wstep, ↓wq_s, ↓wq_0, stp, ↓WR0, ↓WR1, ↓WR2, ↓WR3, ↓WR4, ↓WR5, ↓WR6, ↓WR7, ↓WR8, ↓WR9, ↓WR10, ↓WR11, ↓WR12, WI0, WI1, WI2, WI3, fv_0, fv_1, fv_2, fv_3, lkI_0, lkI_1, kip, kin, tgp, tkp, tgn, tkn, bip, bin, sip, lget, lset1, lset2, lcat2, ↓ws_get, ↓ws_put, ws_cell, ws_cell1, ws_hcell, ws_hcell3, ws_hcell1, ↓cellOf, ↓ws_call, ↓ws_callS, ↓ws_oi, ↓ws_ac, ↓ws_mm, ↓ws_post, ↓ws_exc, popN, rok, clsAt, cnOf, catS_nil, catS_i, catS_r, catS_n, catS_l, catS_d, catS_f, nokc, Option.toList_none, Option.toList_some, List.cons_append, List.nil_append, List.length_cons, List.length_nil, List.set_cons_zero, List.set_cons_succ, List.getElem?_cons_zero, List.getElem?_cons_succ, Nat.reduceAdd, Nat.reduceSub, Nat.reduceMul, Nat.reduceEqDiff, Nat.reduceLeDiff, Nat.reduceLT, Nat.reduceDiv, Bool.false_eq_true, ↓reduceIte, true_and, and_true, false_and, and_false, reduceCtorEq, if_true, Nat.zero_add, cl, lt_nI, le_nI, eq_nI, in_nI, z_nI, retok, or_true, true_or, false_or, or_false, Nat.one_ne_zero, ne_eq, not_false_eq_true, not_true_eq_false, forall_const, Option.isSome_some, false_implies, implies_true, hput_1, hnew_1, vcat1, Nat.le_refl, Nat.not_lt_zero, Nat.lt_irrefl, hput_eq, hput_ne, hput_put, DX7_writeInk, DX7_writeInk_0, TX7_writeInk, FT_7, MT_7, SC_7, DJ4_setLength_d00df, DJ4_length_8abf5, DJ4_append_cf468, DJ4_append_bf812, OI_a, AC_a, NT_a, nI_add]
      have eW : apN (apC L1 (97 + j)) v9 = wiP x.1.2.2.1 j L := by
        unfold wiP; rw [if_pos hp, ev, cl v9 (by omega), eL]
      rw [eW] at lv3
      exact ih (j + 1) l3 _ _ _ h3 (by omega) (by omega) (hz2.fl f3 (by omega)) a3 lv3 y1 y2 (fun h' l' rc' rs' f' a' lv' => hq h' l' rc' rs' ((f1.tr f2).tr (f3.tr f')) a' lv')
    refine V_walk [10, 48, 84] 40 ?_
    simp (disch := first | omega | assumption) only [↓wstep, ↓wq_s, ↓wq_0, stp, ↓WR0, ↓WR1, ↓WR2, ↓WR3, ↓WR4, ↓WR5, ↓WR6, ↓WR7, ↓WR8, ↓WR9, ↓WR10, ↓WR11, ↓WR12, WI0, WI1, WI2, WI3, fv_0, fv_1, fv_2, fv_3, lkI_0, lkI_1, kip, kin, tgp, tkp, tgn, tkn, bip, bin, sip, lget, lset1, lset2, lcat2, ↓ws_get, ↓ws_put, ws_cell, ws_cell1, ws_hcell, ws_hcell3, ws_hcell1, ↓cellOf, ↓ws_call, ↓ws_callS, ↓ws_oi, ↓ws_ac, ↓ws_mm, ↓ws_post, ↓ws_exc, popN, rok, clsAt, cnOf, catS_nil, catS_i, catS_r, catS_n, catS_l, catS_d, catS_f, nokc, Option.toList_none, Option.toList_some, List.cons_append, List.nil_append, List.length_cons, List.length_nil, List.set_cons_zero, List.set_cons_succ, List.getElem?_cons_zero, List.getElem?_cons_succ, Nat.reduceAdd, Nat.reduceSub, Nat.reduceMul, Nat.reduceEqDiff, Nat.reduceLeDiff, Nat.reduceLT, Nat.reduceDiv, Bool.false_eq_true, ↓reduceIte, true_and, and_true, false_and, and_false, reduceCtorEq, if_true, Nat.zero_add, cl, lt_nI, le_nI, eq_nI, in_nI, z_nI, retok, or_true, true_or, false_or, or_false, Nat.one_ne_zero, ne_eq, not_false_eq_true, not_true_eq_false, forall_const, Option.isSome_some, false_implies, implies_true, hput_1, hnew_1, vcat1, Nat.le_refl, Nat.not_lt_zero, Nat.lt_irrefl, hput_eq, hput_ne, hput_put, DX7_writeInk, DX7_writeInk_0, TX7_writeInk, FT_7, MT_7, SC_7, DJ4_setLength_d00df, DJ4_length_8abf5, DJ4_append_cf468, DJ4_append_bf812, OI_a, AC_a, NT_a, a0, a1, a2, ev, sb00, nI_add]
    refine ⟨fun q => by omega, fun _ => ⟨fun q => ?_, fun q => ?_⟩⟩
    · rw [show wiP x.1.2.2.1 j L = L from if_neg (by rw [ev, lt_nI (by omega) (by omega)]; omega)] at hq
      exact ih (j + 1) l rc rs L h (by omega) (by omega) hz a lv h1 h2 hq
    · have hp : nI 0 < x.1.2.2.1 j := by rw [ev, lt_nI (by omega) (by omega)]; omega
      refine CtE.of0 (by omega) (c_sbLen (by omega) sb0 ?_)
      obtain ⟨-, -, -, -, -, -, -, -, hLc, hl4, -⟩ := id lv
      have hcp := cpL_le hl4
      simp (disch := first | omega | assumption) only [↓wstep, ↓wq_s, ↓wq_0, stp, ↓WR0, ↓WR1, ↓WR2, ↓WR3, ↓WR4, ↓WR5, ↓WR6, ↓WR7, ↓WR8, ↓WR9, ↓WR10, ↓WR11, ↓WR12, WI0, WI1, WI2, WI3, fv_0, fv_1, fv_2, fv_3, lkI_0, lkI_1, kip, kin, tgp, tkp, tgn, tkn, bip, bin, sip, lget, lset1, lset2, lcat2, ↓ws_get, ↓ws_put, ws_cell, ws_cell1, ws_hcell, ws_hcell3, ws_hcell1, ↓cellOf, ↓ws_call, ↓ws_callS, ↓ws_oi, ↓ws_ac, ↓ws_mm, ↓ws_post, ↓ws_exc, popN, rok, clsAt, cnOf, catS_nil, catS_i, catS_r, catS_n, catS_l, catS_d, catS_f, nokc, Option.toList_none, Option.toList_some, List.cons_append, List.nil_append, List.length_cons, List.length_nil, List.set_cons_zero, List.set_cons_succ, List.getElem?_cons_zero, List.getElem?_cons_succ, Nat.reduceAdd, Nat.reduceSub, Nat.reduceMul, Nat.reduceEqDiff, Nat.reduceLeDiff, Nat.reduceLT, Nat.reduceDiv, Bool.false_eq_true, ↓reduceIte, true_and, and_true, false_and, and_false, reduceCtorEq, if_true, Nat.zero_add, cl, lt_nI, le_nI, eq_nI, in_nI, z_nI, retok, or_true, true_or, false_or, or_false, Nat.one_ne_zero, ne_eq, not_false_eq_true, not_true_eq_false, forall_const, Option.isSome_some, false_implies, implies_true, hput_1, hnew_1, vcat1, Nat.le_refl, Nat.not_lt_zero, Nat.lt_irrefl, hput_eq, hput_ne, hput_put, DX7_writeInk, DX7_writeInk_0, TX7_writeInk, FT_7, MT_7, SC_7, DJ4_setLength_d00df, DJ4_length_8abf5, DJ4_append_cf468, DJ4_append_bf812, OI_a, AC_a, NT_a, a0, sb00]
      refine ⟨fun q => ?_, fun q => ?_⟩
      · exact key hp h l rc rs L (by rw [if_neg (by omega)]) Fl.rf lv h1 h2
      · refine e_app1 (by omega) hj lv (by omega) (by omega) h1 h2 (fun h2' l2 rc2 rs2 f2 lv2 w1 w2 => ?_)
        simp (disch := first | omega | assumption) only [↓wstep, ↓wq_s, ↓wq_0, stp, ↓WR0, ↓WR1, ↓WR2, ↓WR3, ↓WR4, ↓WR5, ↓WR6, ↓WR7, ↓WR8, ↓WR9, ↓WR10, ↓WR11, ↓WR12, WI0, WI1, WI2, WI3, fv_0, fv_1, fv_2, fv_3, lkI_0, lkI_1, kip, kin, tgp, tkp, tgn, tkn, bip, bin, sip, lget, lset1, lset2, lcat2, ↓ws_get, ↓ws_put, ws_cell, ws_cell1, ws_hcell, ws_hcell3, ws_hcell1, ↓cellOf, ↓ws_call, ↓ws_callS, ↓ws_oi, ↓ws_ac, ↓ws_mm, ↓ws_post, ↓ws_exc, popN, rok, clsAt, cnOf, catS_nil, catS_i, catS_r, catS_n, catS_l, catS_d, catS_f, nokc, Option.toList_none, Option.toList_some, List.cons_append, List.nil_append, List.length_cons, List.length_nil, List.set_cons_zero, List.set_cons_succ, List.getElem?_cons_zero, List.getElem?_cons_succ, Nat.reduceAdd, Nat.reduceSub, Nat.reduceMul, Nat.reduceEqDiff, Nat.reduceLeDiff, Nat.reduceLT, Nat.reduceDiv, Bool.false_eq_true, ↓reduceIte, true_and, and_true, false_and, and_false, reduceCtorEq, if_true, Nat.zero_add, cl, lt_nI, le_nI, eq_nI, in_nI, z_nI, retok, or_true, true_or, false_or, or_false, Nat.one_ne_zero, ne_eq, not_false_eq_true, not_true_eq_false, forall_const, Option.isSome_some, false_implies, implies_true, hput_1, hnew_1, vcat1, Nat.le_refl, Nat.not_lt_zero, Nat.lt_irrefl, hput_eq, hput_ne, hput_put, DX7_writeInk, DX7_writeInk_0, TX7_writeInk, FT_7, MT_7, SC_7, DJ4_setLength_d00df, DJ4_length_8abf5, DJ4_append_cf468, DJ4_append_bf812, OI_a, AC_a, NT_a]
        exact key hp h2' l2 _ _ _ (by rw [if_pos (by omega)]) f2 lv2 w1 w2
set_option maxRecDepth 20000 in
set_option maxHeartbeats 4000000 in
theorem c_x_writeInk {G : GT} {K : KT9} {h : Hp} {B d : Nat} {x : XS} {L : Tx} {Q : RT → Hp → Prop} (hd : 9 ≤ d) (hj : JW2 G) (hB : b0 G ≤ B) (hi : ∀ k, k < 8 → ∃ v, v ≤ 999 ∧ x.1.2.2.1 k = nI v) (hz : Zr G h) (a : AtX K h B x) (ln : Ln h (B + 228) L) (hq1 : ∀ h', Fl h h' (B + 228) → AtX K h' B x → Ln h' (B + 228) (wiN x.1.2.2.1 8 0 (0, fun _ => 0)) → Q (.inl (some (.int (nI (wiN x.1.2.2.1 8 0 (0, fun _ => 0)).1)))) h') : Ct G mX7_writeInk d 5 540 [.ref B] h Q := by
  have a0 := a.1
  unfold xE at a0
  obtain ⟨l, lv⟩ := ln
  obtain ⟨v, ml, g, sb, fb, hv, hs, hvs, hL, hl, hset⟩ := lv.set
  have hcp := cpL_le hl
  have sb0 := sb.1
  unfold sbE at sb0
  refine Ct.of rfl rfl (Nat.le_of_ble_eq_true rfl) ?_
  show V G mX7_writeInk _ _ _ 0 [some (.ref B), none] [] h Q
  refine V_walk [10] 40 ?_
  simp (disch := first | omega | assumption) only [↓wstep, ↓wq_s, ↓wq_0, stp, ↓WR0, ↓WR1, ↓WR2, ↓WR3, ↓WR4, ↓WR5, ↓WR6, ↓WR7, ↓WR8, ↓WR9, ↓WR10, ↓WR11, ↓WR12, WI0, WI1, WI2, WI3, fv_0, fv_1, fv_2, fv_3, lkI_0, lkI_1, kip, kin, tgp, tkp, tgn, tkn, bip, bin, sip, lget, lset1, lset2, lcat2, ↓ws_get, ↓ws_put, ws_cell, ws_cell1, ws_hcell, ws_hcell3, ws_hcell1, ↓cellOf, ↓ws_call, ↓ws_callS, ↓ws_oi, ↓ws_ac, ↓ws_mm, ↓ws_post, ↓ws_exc, popN, rok, clsAt, cnOf, catS_nil, catS_i, catS_r, catS_n, catS_l, catS_d, catS_f, nokc, Option.toList_none, Option.toList_some, List.cons_append, List.nil_append, List.length_cons, List.length_nil, List.set_cons_zero, List.set_cons_succ, List.getElem?_cons_zero, List.getElem?_cons_succ, Nat.reduceAdd, Nat.reduceSub, Nat.reduceMul, Nat.reduceEqDiff, Nat.reduceLeDiff, Nat.reduceLT, Nat.reduceDiv, Bool.false_eq_true, ↓reduceIte, true_and, and_true, false_and, and_false, reduceCtorEq, if_true, Nat.zero_add, cl, lt_nI, le_nI, eq_nI, in_nI, z_nI, retok, or_true, true_or, false_or, or_false, Nat.one_ne_zero, ne_eq, not_false_eq_true, not_true_eq_false, forall_const, Option.isSome_some, false_implies, implies_true, hput_1, hnew_1, vcat1, Nat.le_refl, Nat.not_lt_zero, Nat.lt_irrefl, hput_eq, hput_ne, hput_put, DX7_writeInk, DX7_writeInk_0, TX7_writeInk, FT_7, MT_7, SC_7, DJ4_setLength_d00df, DJ4_length_8abf5, DJ4_append_cf468, DJ4_append_bf812, OI_a, AC_a, NT_a, a0, sb0]
  refine CtE.of0 (by omega) (c_setLen0 (by omega) hj sb fb (by omega) hv hvs (by omega) hL (fun ml' => ?_))
  have f1 : Fl h (hput h (B + 228) (sbE v 0 ml')) (B + 228) := ⟨Nat.le_refl _, fun b _ h2 _ => hput_ne h2⟩
  simp (disch := first | omega | assumption) only [↓wstep, ↓wq_s, ↓wq_0, stp, ↓WR0, ↓WR1, ↓WR2, ↓WR3, ↓WR4, ↓WR5, ↓WR6, ↓WR7, ↓WR8, ↓WR9, ↓WR10, ↓WR11, ↓WR12, WI0, WI1, WI2, WI3, fv_0, fv_1, fv_2, fv_3, lkI_0, lkI_1, kip, kin, tgp, tkp, tgn, tkn, bip, bin, sip, lget, lset1, lset2, lcat2, ↓ws_get, ↓ws_put, ws_cell, ws_cell1, ws_hcell, ws_hcell3, ws_hcell1, ↓cellOf, ↓ws_call, ↓ws_callS, ↓ws_oi, ↓ws_ac, ↓ws_mm, ↓ws_post, ↓ws_exc, popN, rok, clsAt, cnOf, catS_nil, catS_i, catS_r, catS_n, catS_l, catS_d, catS_f, nokc, Option.toList_none, Option.toList_some, List.cons_append, List.nil_append, List.length_cons, List.length_nil, List.set_cons_zero, List.set_cons_succ, List.getElem?_cons_zero, List.getElem?_cons_succ, Nat.reduceAdd, Nat.reduceSub, Nat.reduceMul, Nat.reduceEqDiff, Nat.reduceLeDiff, Nat.reduceLT, Nat.reduceDiv, Bool.false_eq_true, ↓reduceIte, true_and, and_true, false_and, and_false, reduceCtorEq, if_true, Nat.zero_add, cl, lt_nI, le_nI, eq_nI, in_nI, z_nI, retok, or_true, true_or, false_or, or_false, Nat.one_ne_zero, ne_eq, not_false_eq_true, not_true_eq_false, forall_const, Option.isSome_some, false_implies, implies_true, hput_1, hnew_1, vcat1, Nat.le_refl, Nat.not_lt_zero, Nat.lt_irrefl, hput_eq, hput_ne, hput_put, DX7_writeInk, DX7_writeInk_0, TX7_writeInk, FT_7, MT_7, SC_7, DJ4_setLength_d00df, DJ4_length_8abf5, DJ4_append_cf468, DJ4_append_bf812, OI_a, AC_a, NT_a]
  refine l_wiN (by omega) hj hB hi 8 0 l _ _ (0, fun _ => 0) _ rfl (Nat.zero_le _) (hz.fl f1 (by omega)) (a.fl f1) (hset ml' _) (by omega) (by unfold rmS; split; omega; split; omega; split; omega; split; omega; omega) (fun h' l' rc' rs' f' a' lv' => ?_)
  have a0' := a'.1
  unfold xE at a0'
  obtain ⟨v1, ml1, g1, sb1, -⟩ := id lv'
  have sb10 := sb1.1
  unfold sbE at sb10
  refine V_walk [] 10 ?_
  simp (disch := first | omega | assumption) only [↓wstep, ↓wq_s, ↓wq_0, stp, ↓WR0, ↓WR1, ↓WR2, ↓WR3, ↓WR4, ↓WR5, ↓WR6, ↓WR7, ↓WR8, ↓WR9, ↓WR10, ↓WR11, ↓WR12, WI0, WI1, WI2, WI3, fv_0, fv_1, fv_2, fv_3, lkI_0, lkI_1, kip, kin, tgp, tkp, tgn, tkn, bip, bin, sip, lget, lset1, lset2, lcat2, ↓ws_get, ↓ws_put, ws_cell, ws_cell1, ws_hcell, ws_hcell3, ws_hcell1, ↓cellOf, ↓ws_call, ↓ws_callS, ↓ws_oi, ↓ws_ac, ↓ws_mm, ↓ws_post, ↓ws_exc, popN, rok, clsAt, cnOf, catS_nil, catS_i, catS_r, catS_n, catS_l, catS_d, catS_f, nokc, Option.toList_none, Option.toList_some, List.cons_append, List.nil_append, List.length_cons, List.length_nil, List.set_cons_zero, List.set_cons_succ, List.getElem?_cons_zero, List.getElem?_cons_succ, Nat.reduceAdd, Nat.reduceSub, Nat.reduceMul, Nat.reduceEqDiff, Nat.reduceLeDiff, Nat.reduceLT, Nat.reduceDiv, Bool.false_eq_true, ↓reduceIte, true_and, and_true, false_and, and_false, reduceCtorEq, if_true, Nat.zero_add, cl, lt_nI, le_nI, eq_nI, in_nI, z_nI, retok, or_true, true_or, false_or, or_false, Nat.one_ne_zero, ne_eq, not_false_eq_true, not_true_eq_false, forall_const, Option.isSome_some, false_implies, implies_true, hput_1, hnew_1, vcat1, Nat.le_refl, Nat.not_lt_zero, Nat.lt_irrefl, hput_eq, hput_ne, hput_put, DX7_writeInk, DX7_writeInk_0, TX7_writeInk, FT_7, MT_7, SC_7, DJ4_setLength_d00df, DJ4_length_8abf5, DJ4_append_cf468, DJ4_append_bf812, OI_a, AC_a, NT_a, a0', sb10]
  refine CtE.of0 (by omega) (c_sbLen (by omega) sb1 ?_)
  simp (disch := first | omega | assumption) only [↓wstep, ↓wq_s, ↓wq_0, stp, ↓WR0, ↓WR1, ↓WR2, ↓WR3, ↓WR4, ↓WR5, ↓WR6, ↓WR7, ↓WR8, ↓WR9, ↓WR10, ↓WR11, ↓WR12, WI0, WI1, WI2, WI3, fv_0, fv_1, fv_2, fv_3, lkI_0, lkI_1, kip, kin, tgp, tkp, tgn, tkn, bip, bin, sip, lget, lset1, lset2, lcat2, ↓ws_get, ↓ws_put, ws_cell, ws_cell1, ws_hcell, ws_hcell3, ws_hcell1, ↓cellOf, ↓ws_call, ↓ws_callS, ↓ws_oi, ↓ws_ac, ↓ws_mm, ↓ws_post, ↓ws_exc, popN, rok, clsAt, cnOf, catS_nil, catS_i, catS_r, catS_n, catS_l, catS_d, catS_f, nokc, Option.toList_none, Option.toList_some, List.cons_append, List.nil_append, List.length_cons, List.length_nil, List.set_cons_zero, List.set_cons_succ, List.getElem?_cons_zero, List.getElem?_cons_succ, Nat.reduceAdd, Nat.reduceSub, Nat.reduceMul, Nat.reduceEqDiff, Nat.reduceLeDiff, Nat.reduceLT, Nat.reduceDiv, Bool.false_eq_true, ↓reduceIte, true_and, and_true, false_and, and_false, reduceCtorEq, if_true, Nat.zero_add, cl, lt_nI, le_nI, eq_nI, in_nI, z_nI, retok, or_true, true_or, false_or, or_false, Nat.one_ne_zero, ne_eq, not_false_eq_true, not_true_eq_false, forall_const, Option.isSome_some, false_implies, implies_true, hput_1, hnew_1, vcat1, Nat.le_refl, Nat.not_lt_zero, Nat.lt_irrefl, hput_eq, hput_ne, hput_put, DX7_writeInk, DX7_writeInk_0, TX7_writeInk, FT_7, MT_7, SC_7, DJ4_setLength_d00df, DJ4_length_8abf5, DJ4_append_cf468, DJ4_append_bf812, OI_a, AC_a, NT_a]
  exact hq1 h' (f1.tr f') a' ⟨l', lv'⟩
/-- plain letters -/
def TxOk (L : Tx) : Prop := ∀ k, k < L.1 → L.2 k < 128
theorem TxOk.c {L : Tx} {c : Nat} (h : TxOk L) (hc : c < 128) : TxOk (apC L c) := fun k hk => by
  have hk' : k < L.1 + 1 := hk
  show fu L.2 L.1 c k < 128
  by_cases q : k = L.1
  · rw [q, fu_eq]; exact hc
  · rw [fu_ne q]; exact h k (by omega)
theorem TxOk.n {L : Tx} {v : Nat} (h : TxOk L) (hv : v < 10000) : TxOk (apN L v) := fun k _ => by
  show (if k < L.1 then L.2 k else 48 + dgv v (k - L.1)) < 128
  split
  · next q => exact h k q
  · have := dgv_lt (j := k - L.1) hv; omega
theorem TxOk.z : TxOk (0, fun _ => 0) := fun k hk => absurd hk (Nat.not_lt_zero _)
theorem TxOk.wr {p : Pens} {sz : Nat} (hw : ∀ j, j < sz → WrP (p j)) : ∀ (r i : Nat) (L : Tx), i + r ≤ sz → TxOk L → TxOk (wrN p r i L)
  | 0, _, _, _, h => h
  | r + 1, i, L, hi, h => by
    rw [wrN]
    refine TxOk.wr hw r (i + 1) _ (by omega) ?_
    obtain ⟨⟨k, hk, e1⟩, hf, m, hm, e2⟩ := hw i (by omega)
    unfold wrP
    rw [e1, e2, cl k (by omega), cl m (by omega)]
    refine TxOk.n (TxOk.c (TxOk.n ?_ hk) hf) (by omega)
    split
    · exact h.c (by omega)
    · exact h
theorem TxOk.wi {f : Nat → Int32} (hi : ∀ k, k < 8 → ∃ v, v ≤ 999 ∧ f k = nI v) : ∀ (r i : Nat) (L : Tx), i + r ≤ 8 → TxOk L → TxOk (wiN f r i L)
  | 0, _, _, _, h => h
  | r + 1, i, L, hi8, h => by
    rw [wiN]
    refine TxOk.wi hi r (i + 1) _ (by omega) ?_
    obtain ⟨v, hv, ev⟩ := hi i (by omega)
    unfold wiP
    rw [ev, cl v (by omega)]
    split
    · refine TxOk.n (TxOk.c ?_ (by omega)) (by omega)
      split
      · exact h.c (by omega)
      · exact h
    · exact h
set_option maxRecDepth 20000 in
set_option maxHeartbeats 4000000 in
theorem c_x_charAt {G : GT} {K : KT9} {h : Hp} {B d : Nat} {x1 : Int32} {x : XS} {L : Tx} {Q : RT → Hp → Prop} (hd : 9 ≤ d) (hm : MsgW G) (hj : JW G) (a : AtX K h B x) (ln : Ln h (B + 228) L) (tk : TxOk L) (hq0 : hasI x1 L.1 = false → ∀ z, h.1 ≤ z → Q (.inr "java/lang/IndexOutOfBoundsException") (z, h.2)) (hq1 : ∀ j, x1 = nI j → j < L.1 → L.2 j < 128 → Q (.inl (some (.int (nI (L.2 j))))) h) : Ct G mX7_charAt d 1 6 [.ref B, .int x1] h Q := by
  have a0 := a.1
  unfold xE at a0
  obtain ⟨l, lv⟩ := ln
  obtain ⟨v, ml, g, sb, fb, hv, hs, hvs, hL, hl, hg⟩ := lv
  have hcp := cpL_le hl
  have sb0 := sb.1
  unfold sbE at sb0
  have hd6 : 6 ≤ d := by omega
  have no : hasI x1 L.1 = false → V G mX7_charAt d 1 6 15 [some (.ref B), some (.int x1)] [] h Q := fun e => by
    refine V_walk [] 40 ?_
    simp (disch := first | omega | assumption) only [↓wstep, ↓wq_s, ↓wq_0, stp, ↓WR0, ↓WR1, ↓WR2, ↓WR3, ↓WR4, ↓WR5, ↓WR6, ↓WR7, ↓WR8, ↓WR9, ↓WR10, ↓WR11, ↓WR12, WI0, WI1, WI2, WI3, fv_0, fv_1, fv_2, fv_3, lkI_0, lkI_1, kip, kin, tgp, tkp, tgn, tkn, bip, bin, sip, lget, lset1, lset2, lcat2, ↓ws_get, ↓ws_put, ws_cell, ws_cell1, ws_hcell, ws_hcell3, ws_hcell1, ↓cellOf, ↓ws_call, ↓ws_callS, ↓ws_oi, ↓ws_ac, ↓ws_mm, ↓ws_post, ↓ws_exc, popN, rok, clsAt, cnOf, catS_nil, catS_i, catS_r, catS_n, catS_l, catS_d, catS_f, nokc, Option.toList_none, Option.toList_some, List.cons_append, List.nil_append, List.length_cons, List.length_nil, List.set_cons_zero, List.set_cons_succ, List.getElem?_cons_zero, List.getElem?_cons_succ, Nat.reduceAdd, Nat.reduceSub, Nat.reduceMul, Nat.reduceEqDiff, Nat.reduceLeDiff, Nat.reduceLT, Nat.reduceDiv, Bool.false_eq_true, ↓reduceIte, true_and, and_true, false_and, and_false, reduceCtorEq, if_true, Nat.zero_add, cl, lt_nI, le_nI, eq_nI, in_nI, z_nI, retok, or_true, true_or, false_or, or_false, Nat.one_ne_zero, ne_eq, not_false_eq_true, not_true_eq_false, forall_const, Option.isSome_some, false_implies, implies_true, hput_1, hnew_1, vcat1, Nat.le_refl, Nat.not_lt_zero, Nat.lt_irrefl, hput_eq, hput_ne, hput_put, DX7_charAt, DX7_charAt_0, TX7_charAt, FT_7, MT_7, SC_7, DJ4_length_8abf5, DJ4_charAt_5068e, OI_a, AC_a, NT_a, nt_e, xl_e, ws_throw, hd6, TX7_charAt]
    exact ⟨hq0 e, hm _ (by decide)⟩
  refine Ct.of rfl rfl (Nat.le_of_ble_eq_true rfl) ?_
  show V G mX7_charAt _ _ _ 0 [some (.ref B), some (.int x1)] [] h Q
  refine V_walk [15, 25] 40 ?_
  simp (disch := first | omega | assumption) only [↓wstep, ↓wq_s, ↓wq_0, stp, ↓WR0, ↓WR1, ↓WR2, ↓WR3, ↓WR4, ↓WR5, ↓WR6, ↓WR7, ↓WR8, ↓WR9, ↓WR10, ↓WR11, ↓WR12, WI0, WI1, WI2, WI3, fv_0, fv_1, fv_2, fv_3, lkI_0, lkI_1, kip, kin, tgp, tkp, tgn, tkn, bip, bin, sip, lget, lset1, lset2, lcat2, ↓ws_get, ↓ws_put, ws_cell, ws_cell1, ws_hcell, ws_hcell3, ws_hcell1, ↓cellOf, ↓ws_call, ↓ws_callS, ↓ws_oi, ↓ws_ac, ↓ws_mm, ↓ws_post, ↓ws_exc, popN, rok, clsAt, cnOf, catS_nil, catS_i, catS_r, catS_n, catS_l, catS_d, catS_f, nokc, Option.toList_none, Option.toList_some, List.cons_append, List.nil_append, List.length_cons, List.length_nil, List.set_cons_zero, List.set_cons_succ, List.getElem?_cons_zero, List.getElem?_cons_succ, Nat.reduceAdd, Nat.reduceSub, Nat.reduceMul, Nat.reduceEqDiff, Nat.reduceLeDiff, Nat.reduceLT, Nat.reduceDiv, Bool.false_eq_true, ↓reduceIte, true_and, and_true, false_and, and_false, reduceCtorEq, if_true, Nat.zero_add, cl, lt_nI, le_nI, eq_nI, in_nI, z_nI, retok, or_true, true_or, false_or, or_false, Nat.one_ne_zero, ne_eq, not_false_eq_true, not_true_eq_false, forall_const, Option.isSome_some, false_implies, implies_true, hput_1, hnew_1, vcat1, Nat.le_refl, Nat.not_lt_zero, Nat.lt_irrefl, hput_eq, hput_ne, hput_put, DX7_charAt, DX7_charAt_0, TX7_charAt, FT_7, MT_7, SC_7, DJ4_length_8abf5, DJ4_charAt_5068e, OI_a, AC_a, NT_a, a0, sb0]
  refine ⟨fun c => no (by unfold hasI; rw [decide_eq_false (Int32.not_le.mpr c), Bool.false_and]), fun c => ?_⟩
  refine CtE.of0 (by omega) (c_sbLen (by omega) sb ?_)
  simp (disch := first | omega | assumption) only [↓wstep, ↓wq_s, ↓wq_0, stp, ↓WR0, ↓WR1, ↓WR2, ↓WR3, ↓WR4, ↓WR5, ↓WR6, ↓WR7, ↓WR8, ↓WR9, ↓WR10, ↓WR11, ↓WR12, WI0, WI1, WI2, WI3, fv_0, fv_1, fv_2, fv_3, lkI_0, lkI_1, kip, kin, tgp, tkp, tgn, tkn, bip, bin, sip, lget, lset1, lset2, lcat2, ↓ws_get, ↓ws_put, ws_cell, ws_cell1, ws_hcell, ws_hcell3, ws_hcell1, ↓cellOf, ↓ws_call, ↓ws_callS, ↓ws_oi, ↓ws_ac, ↓ws_mm, ↓ws_post, ↓ws_exc, popN, rok, clsAt, cnOf, catS_nil, catS_i, catS_r, catS_n, catS_l, catS_d, catS_f, nokc, Option.toList_none, Option.toList_some, List.cons_append, List.nil_append, List.length_cons, List.length_nil, List.set_cons_zero, List.set_cons_succ, List.getElem?_cons_zero, List.getElem?_cons_succ, Nat.reduceAdd, Nat.reduceSub, Nat.reduceMul, Nat.reduceEqDiff, Nat.reduceLeDiff, Nat.reduceLT, Nat.reduceDiv, Bool.false_eq_true, ↓reduceIte, true_and, and_true, false_and, and_false, reduceCtorEq, if_true, Nat.zero_add, cl, lt_nI, le_nI, eq_nI, in_nI, z_nI, retok, or_true, true_or, false_or, or_false, Nat.one_ne_zero, ne_eq, not_false_eq_true, not_true_eq_false, forall_const, Option.isSome_some, false_implies, implies_true, hput_1, hnew_1, vcat1, Nat.le_refl, Nat.not_lt_zero, Nat.lt_irrefl, hput_eq, hput_ne, hput_put, DX7_charAt, DX7_charAt_0, TX7_charAt, FT_7, MT_7, SC_7, DJ4_length_8abf5, DJ4_charAt_5068e, OI_a, AC_a, NT_a]
  refine ⟨fun c1 => ?_, fun c1 => no (by unfold hasI; rw [decide_eq_false (p := x1 < nI L.1) c1, Bool.and_false])⟩
  · obtain ⟨j, hj2, rfl⟩ := nI_of (x := x1) c
    rw [lt_nI hj2 (by omega)] at c1
    have hc := tk j c1
    refine V_walk [] 40 ?_
    simp (disch := first | omega | assumption) only [↓wstep, ↓wq_s, ↓wq_0, stp, ↓WR0, ↓WR1, ↓WR2, ↓WR3, ↓WR4, ↓WR5, ↓WR6, ↓WR7, ↓WR8, ↓WR9, ↓WR10, ↓WR11, ↓WR12, WI0, WI1, WI2, WI3, fv_0, fv_1, fv_2, fv_3, lkI_0, lkI_1, kip, kin, tgp, tkp, tgn, tkn, bip, bin, sip, lget, lset1, lset2, lcat2, ↓ws_get, ↓ws_put, ws_cell, ws_cell1, ws_hcell, ws_hcell3, ws_hcell1, ↓cellOf, ↓ws_call, ↓ws_callS, ↓ws_oi, ↓ws_ac, ↓ws_mm, ↓ws_post, ↓ws_exc, popN, rok, clsAt, cnOf, catS_nil, catS_i, catS_r, catS_n, catS_l, catS_d, catS_f, nokc, Option.toList_none, Option.toList_some, List.cons_append, List.nil_append, List.length_cons, List.length_nil, List.set_cons_zero, List.set_cons_succ, List.getElem?_cons_zero, List.getElem?_cons_succ, Nat.reduceAdd, Nat.reduceSub, Nat.reduceMul, Nat.reduceEqDiff, Nat.reduceLeDiff, Nat.reduceLT, Nat.reduceDiv, Bool.false_eq_true, ↓reduceIte, true_and, and_true, false_and, and_false, reduceCtorEq, if_true, Nat.zero_add, cl, lt_nI, le_nI, eq_nI, in_nI, z_nI, retok, or_true, true_or, false_or, or_false, Nat.one_ne_zero, ne_eq, not_false_eq_true, not_true_eq_false, forall_const, Option.isSome_some, false_implies, implies_true, hput_1, hnew_1, vcat1, Nat.le_refl, Nat.not_lt_zero, Nat.lt_irrefl, hput_eq, hput_ne, hput_put, DX7_charAt, DX7_charAt_0, TX7_charAt, FT_7, MT_7, SC_7, DJ4_length_8abf5, DJ4_charAt_5068e, OI_a, AC_a, NT_a, a0, sb0]
    refine CtE.of0 (by omega) (c_sbAt (by omega) hj sb c1 hL (by omega) hc (hg j c1) ?_)
    simp (disch := first | omega | assumption) only [↓wstep, ↓wq_s, ↓wq_0, stp, ↓WR0, ↓WR1, ↓WR2, ↓WR3, ↓WR4, ↓WR5, ↓WR6, ↓WR7, ↓WR8, ↓WR9, ↓WR10, ↓WR11, ↓WR12, WI0, WI1, WI2, WI3, fv_0, fv_1, fv_2, fv_3, lkI_0, lkI_1, kip, kin, tgp, tkp, tgn, tkn, bip, bin, sip, lget, lset1, lset2, lcat2, ↓ws_get, ↓ws_put, ws_cell, ws_cell1, ws_hcell, ws_hcell3, ws_hcell1, ↓cellOf, ↓ws_call, ↓ws_callS, ↓ws_oi, ↓ws_ac, ↓ws_mm, ↓ws_post, ↓ws_exc, popN, rok, clsAt, cnOf, catS_nil, catS_i, catS_r, catS_n, catS_l, catS_d, catS_f, nokc, Option.toList_none, Option.toList_some, List.cons_append, List.nil_append, List.length_cons, List.length_nil, List.set_cons_zero, List.set_cons_succ, List.getElem?_cons_zero, List.getElem?_cons_succ, Nat.reduceAdd, Nat.reduceSub, Nat.reduceMul, Nat.reduceEqDiff, Nat.reduceLeDiff, Nat.reduceLT, Nat.reduceDiv, Bool.false_eq_true, ↓reduceIte, true_and, and_true, false_and, and_false, reduceCtorEq, if_true, Nat.zero_add, cl, lt_nI, le_nI, eq_nI, in_nI, z_nI, retok, or_true, true_or, false_or, or_false, Nat.one_ne_zero, ne_eq, not_false_eq_true, not_true_eq_false, forall_const, Option.isSome_some, false_implies, implies_true, hput_1, hnew_1, vcat1, Nat.le_refl, Nat.not_lt_zero, Nat.lt_irrefl, hput_eq, hput_ne, hput_put, DX7_charAt, DX7_charAt_0, TX7_charAt, FT_7, MT_7, SC_7, DJ4_length_8abf5, DJ4_charAt_5068e, OI_a, AC_a, NT_a]
    exact ⟨⟨_, by omega, rfl⟩, hq1 j rfl c1 hc⟩
