/-! ===== pure: what the state keeps, the other changes ===== -/
theorem GS.put2 {p j i : Nat} {S : St} {N : Nt} (g : GS p j S) (hi : i < 4) (hN : GN N) (hs : N.1 ≤ (S.2.2.2 i).1) (hc1 : cP (noP p) N.2.2 N.1 ≤ cP (noP p) (S.2.2.2 i).2.2 (S.2.2.2 i).1) (hc2 : ∀ x, cP (isX x) N.2.2 N.1 ≤ cP (isX x) (S.2.2.2 i).2.2 (S.2.2.2 i).1) (he : N.2.1 ≤ (S.2.2.2 i).2.1 + 600) : GS p (j + 1) (sN S i N) := by
  obtain ⟨g1, g2, g3, g4, g5, g6, g7, g8, g9⟩ := g
  have q : ∀ P, cS P (sN S i N) + cP P (S.2.2.2 i).2.2 (S.2.2.2 i).1 = cS P S + cP P N.2.2 N.1 := fun P => cS_put hi N
  have t : tot (sN S i N) + (S.2.2.2 i).1 = tot S + N.1 := tot_put hi N
  have e : exT (sN S i N) + (S.2.2.2 i).2.1 = exT S + N.2.1 := ex_put hi N
  refine ⟨g1, by omega, by omega, fun k hk => ?_, ?_, fun x => ?_, g7, g8, by omega⟩
  · show GN (fu S.2.2.2 i N k)
    by_cases c : k = i
    · rw [c, fu_eq]; exact hN
    · rw [fu_ne c]; exact g4 k hk
  · have := q (noP p); omega
  · have := q (isX x); have := hc2 x; have := g6 x; omega
theorem gs_pen {p j i k : Nat} {S : St} (hj : j < 1000000) (g : GS p j S) (hi : i < 4) (hk : k < (S.2.2.2 i).1) : (∃ n, n < p ∧ ((S.2.2.2 i).2.2 k).1 = nI n) ∧ (97 ≤ ((S.2.2.2 i).2.2 k).2.1.val ∧ ((S.2.2.2 i).2.2 k).2.1.val ≤ 104) ∧ ∃ d, d ≤ 999 ∧ ((S.2.2.2 i).2.2 k).2.2 = nI d := by
  obtain ⟨g1, g2, g3, g4, g5, g6, g7, g8, g9⟩ := g
  have f1 := cS_0 g5 hi hk
  refine (okP_iff (p := p) (by omega)).mp ?_
  unfold noP at f1
  cases e : okP p ((S.2.2.2 i).2.2 k) with
  | true => rfl
  | false => rw [e] at f1; cases f1
theorem g_date {p j i k : Nat} {S : St} {t : Nat} {N : Nt} (hj : j < 1000000) (g : GS p j S) (hi : i < 4) (hk : k < (S.2.2.2 i).1) (ht : t ≤ 999) (hN : GN N) (h1 : N.1 = (S.2.2.2 i).1) (hc : ∀ P, cP P N.2.2 (S.2.2.2 i).1 + b2n (P ((S.2.2.2 i).2.2 k)) = cP P (S.2.2.2 i).2.2 (S.2.2.2 i).1 + b2n (P (((S.2.2.2 i).2.2 k).1, ((S.2.2.2 i).2.2 k).2.1, nI t))) (he : N.2.1 ≤ (S.2.2.2 i).2.1 + 24) : GS p (j + 1) (sN S i N) := by
  have o := gs_pen hj g hi hk
  have hp : p ≤ j := g.2.1
  refine g.put2 hi hN (by omega) ?_ (fun x => ?_) (by omega)
  · have := hc (noP p)
    rw [h1]
    rw [show noP p (((S.2.2.2 i).2.2 k).1, ((S.2.2.2 i).2.2 k).2.1, nI t) = false from by
      unfold noP
      rw [(okP_iff (p := p) (q := (((S.2.2.2 i).2.2 k).1, ((S.2.2.2 i).2.2 k).2.1, nI t)) (by omega)).mpr ⟨o.1, o.2.1, t, ht, rfl⟩]; rfl] at this
    have z : b2n false = 0 := rfl
    omega
  · have := hc (isX x)
    rw [h1]
    have e : isX x (((S.2.2.2 i).2.2 k).1, ((S.2.2.2 i).2.2 k).2.1, nI t) = isX x ((S.2.2.2 i).2.2 k) := rfl
    rw [e] at this
    omega
theorem g_sharp {p j : Nat} {S : St} {x t : Int32} (hj : j < 1000000) (g : GS p j S) : GS p (j + 1) (pSharp S x t).2 := by
  unfold pSharp
  cases e : nsw x S with
  | none => exact g.up (by omega)
  | some i =>
    obtain ⟨hi, h1, h2⟩ := nsw_ixn e
    cases e1 : inB t 1 999 with
    | false => exact g.up (by omega)
    | true =>
      obtain ⟨m, m1, m2, rfl⟩ := inB_ex (by omega) (by omega) e1
      obtain ⟨-, -, d, d1, d2⟩ := gs_pen hj g hi h1
      have ev : mxI (nI 0) (((S.2.2.2 i).2.2 (ixn x (S.2.2.2 i))).2.2 - nI m) = nI (d - m) := by
        rw [d2]
        unfold mxI
        by_cases l : m < d
        · rw [if_pos (by rw [dlt (by omega) (by omega)]; exact l), sub_nI (by omega)]
        · rw [if_neg (by rw [dlt (by omega) (by omega)]; exact l), show d - m = 0 by omega]
      simp only [ev]
      have hg := g.2.2.2.1 i hi
      obtain ⟨n1, n2, n3⟩ := gn_up (t := nI (d - m)) hg h1 (by rw [d2, lt_nI (by omega) (by omega)]; omega)
      exact g_date hj g hi h1 (t := d - m) (by omega) n1 rfl n2 n3
theorem g_blunt {p j : Nat} {S : St} {x t : Int32} (hj : j < 1000000) (g : GS p j S) : GS p (j + 1) (pBlunt S x t).2 := by
  unfold pBlunt
  cases e : nsw x S with
  | none => exact g.up (by omega)
  | some i =>
    obtain ⟨hi, h1, h2⟩ := nsw_ixn e
    cases e1 : inB t 1 999 with
    | false => exact g.up (by omega)
    | true =>
      obtain ⟨m, m1, m2, rfl⟩ := inB_ex (by omega) (by omega) e1
      obtain ⟨-, -, d, d1, d2⟩ := gs_pen hj g hi h1
      have ev : mnI (nI 999) (((S.2.2.2 i).2.2 (ixn x (S.2.2.2 i))).2.2 + nI m) = nI (min 999 (d + m)) := by
        rw [d2, nI_add]
        unfold mnI
        by_cases l : d + m < 999
        · rw [if_pos (by rw [lt_nI (by omega) (by omega)]; exact l), show min 999 (d + m) = d + m by omega]
        · rw [if_neg (by rw [lt_nI (by omega) (by omega)]; exact l), show min 999 (d + m) = 999 by omega]
      simp only [ev]
      have hg := g.2.2.2.1 i hi
      obtain ⟨n1, n2, n3⟩ := gn_dn (t := nI (min 999 (d + m))) hg h1 (by rw [d2, lt_nI (by omega) (by omega)]; omega)
      exact g_date hj g hi h1 (t := min 999 (d + m)) (by omega) n1 rfl n2 n3
/-- two nests are others: the pens of P count the same -/
theorem GS.put3 {p j a b : Nat} {S : St} {N M : Nt} (g : GS p j S) (ha : a < 4) (hb : b < 4) (hab : a ≠ b) (hN : GN N) (hM : GN M) (hs : N.1 + M.1 = (S.2.2.2 a).1 + (S.2.2.2 b).1) (hc : ∀ P, cP P N.2.2 N.1 + cP P M.2.2 M.1 = cP P (S.2.2.2 a).2.2 (S.2.2.2 a).1 + cP P (S.2.2.2 b).2.2 (S.2.2.2 b).1) (he : N.2.1 + M.2.1 ≤ (S.2.2.2 a).2.1 + (S.2.2.2 b).2.1 + 600) : GS p (j + 1) (sN (sN S a N) b M) := by
  obtain ⟨g1, g2, g3, g4, g5, g6, g7, g8, g9⟩ := g
  have eb : (sN S a N).2.2.2 b = S.2.2.2 b := fu_ne (fun q => hab q.symm)
  have q : ∀ P, cS P (sN (sN S a N) b M) = cS P S := fun P => by
    have q1 := cS_put (P := P) (S := S) ha N
    have q2 := cS_put (P := P) (S := sN S a N) hb M
    rw [eb] at q2
    have := hc P
    omega
  have t : tot (sN (sN S a N) b M) = tot S := by
    have q1 := tot_put (S := S) ha N
    have q2 := tot_put (S := sN S a N) hb M
    rw [eb] at q2
    omega
  have e : exT (sN (sN S a N) b M) ≤ exT S + 600 := by
    have q1 := ex_put (S := S) ha N
    have q2 := ex_put (S := sN S a N) hb M
    rw [eb] at q2
    omega
  refine ⟨g1, by omega, by omega, fun k hk => ?_, by rw [q]; exact g5, fun x => by rw [q]; exact g6 x, g7, g8, by omega⟩
  show GN (fu (fu S.2.2.2 a N) b M k)
  by_cases c : k = b
  · rw [c, fu_eq]; exact hM
  · rw [fu_ne c]
    by_cases c2 : k = a
    · rw [c2, fu_eq]; exact hN
    · rw [fu_ne c2]; exact g4 k hk
theorem g_move {p j : Nat} {S : St} {x t : Int32} (g : GS p j S) : GS p (j + 1) (pMove S x t).2 := by
  unfold pMove
  cases e : nsw x S with
  | none => exact g.up (by omega)
  | some i =>
    obtain ⟨hi, h1, h2⟩ := nsw_ixn e
    cases e1 : isN t with
    | false => exact g.up (by omega)
    | true =>
      obtain ⟨b, hb, rfl⟩ := isN_ex e1
      simp only [cl b (show b < 2147483648 by omega)]
      by_cases eb : i = b
      · rw [if_pos trivial, if_pos eb]; exact g.up (by omega)
      · rw [if_pos trivial, if_neg eb]
        have g4 := g.2.2.2.1
        have g3 := g.2.2.1
        have ht2 : (S.2.2.2 i).1 + (S.2.2.2 b).1 ≤ tot S := by
          unfold tot
          rcases four hi with q | q | q | q <;> rcases four hb with r | r | r | r <;> subst q <;> subst r <;> omega
        obtain ⟨n1, n2, n3⟩ := gn_out (g4 i hi) h1
        obtain ⟨m1, m2, m3⟩ := gn_add (q := (x, ((S.2.2.2 i).2.2 (ixn x (S.2.2.2 i))).2)) (g4 b hb) (by omega)
        have eo : (outN (S.2.2.2 i) (ixn x (S.2.2.2 i))).1 = (S.2.2.2 i).1 - 1 := rfl
        have ea : (addN (S.2.2.2 b) (x, ((S.2.2.2 i).2.2 (ixn x (S.2.2.2 i))).2)).1 = (S.2.2.2 b).1 + 1 := rfl
        refine g.put3 hi hb eb n1 m1 (by omega) (fun P => ?_) (by omega)
        have a := n2 P
        have b := m2 P
        have c : (x, ((S.2.2.2 i).2.2 (ixn x (S.2.2.2 i))).2) = (S.2.2.2 i).2.2 (ixn x (S.2.2.2 i)) := Prod.ext h2.symm rfl
        rw [c] at b ⊢
        omega
theorem g_merge {p j : Nat} {S : St} {x t : Int32} (g : GS p j S) : GS p (j + 1) (pMerge S x t).2 := by
  unfold pMerge
  split
  · rename_i h
    split
    · exact g.up (by omega)
    · rename_i h2
      obtain ⟨a, ha, rfl⟩ := isN_ex h.1
      obtain ⟨b, hb, rfl⟩ := isN_ex h.2
      have hab : b ≠ a := fun q => h2 (by rw [q])
      simp only [cl a (show a < 2147483648 by omega), cl b (show b < 2147483648 by omega)]
      have g4 := g.2.2.2.1
      have g3 := g.2.2.1
      have ht2 : (S.2.2.2 a).1 + (S.2.2.2 b).1 ≤ tot S := by
        unfold tot
        rcases four ha with q | q | q | q <;> rcases four hb with r | r | r | r <;> subst q <;> subst r <;> omega
      obtain ⟨n1, n2, n3⟩ := gn_mg (p := (S.2.2.2 a).2.2) (S.2.2.2 a).1 0 (S.2.2.2 b) (g4 b hb) (by omega)
      have e1 : (mgN (S.2.2.2 a).2.2 (S.2.2.2 a).1 0 (S.2.2.2 b)).1 = (S.2.2.2 b).1 + (S.2.2.2 a).1 := mgN_1 _ _ _ _
      have m1 : GN (0, (S.2.2.2 a).2) := ⟨by show 0 ≤ 24; omega, (g4 a ha).2.1, fun j _ h => absurd h (Nat.not_lt_zero j)⟩
      refine g.put3 hb ha hab n1 m1 (by rw [e1]; show _ + 0 = _; omega) (fun P => ?_) (by show _ + (S.2.2.2 a).2.1 ≤ _; omega)
      have := n2 P
      rw [e1, this]
      have z : cP P ((0, (S.2.2.2 a).2) : Nt).2.2 ((0, (S.2.2.2 a).2) : Nt).1 = 0 := rfl
      rw [z]
      rfl
  · exact g.up (by omega)
theorem g_recall {p j : Nat} {S : St} {c : Fin 65536} (g : GS p j S) : GS p (j + 1) (pRecall S c).2 := by
  unfold pRecall
  split
  · obtain ⟨g1, g2, g3, g4, g5, g6, g7, g8, g9⟩ := g
    have e0 : (rcS c S).2.2.2 0 = rcN c (S.2.2.2 0) := rfl
    have e1 : (rcS c S).2.2.2 1 = rcN c (S.2.2.2 1) := rfl
    have e2 : (rcS c S).2.2.2 2 = rcN c (S.2.2.2 2) := rfl
    have e3 : (rcS c S).2.2.2 3 = rcN c (S.2.2.2 3) := rfl
    obtain ⟨a0, b0', c0, d0⟩ := gn_rc (c := c) (g4 0 (by omega))
    obtain ⟨a1, b1, c1, d1⟩ := gn_rc (c := c) (g4 1 (by omega))
    obtain ⟨a2, b2, c2, d2⟩ := gn_rc (c := c) (g4 2 (by omega))
    obtain ⟨a3, b3, c3, d3⟩ := gn_rc (c := c) (g4 3 (by omega))
    have q : ∀ P, cS P (rcS c S) ≤ cS P S := fun P => by
      have w0 := b0' P; have w1 := b1 P; have w2 := b2 P; have w3 := b3 P
      unfold cS
      rw [e0, e1, e2, e3]
      omega
    have t : tot (rcS c S) ≤ tot S := by unfold tot; rw [e0, e1, e2, e3]; omega
    have e : exT (rcS c S) ≤ exT S + 600 := by unfold exT; rw [e0, e1, e2, e3]; omega
    refine ⟨g1, by omega, by show tot (rcS c S) ≤ 24; omega, fun k hk => ?_, ?_, fun x => ?_, g7, g8, by show exT (rcS c S) ≤ _; omega⟩
    · show GN ((rcS c S).2.2.2 k)
      rcases four hk with q | q | q | q <;> subst q
      · rw [e0]; exact a0
      · rw [e1]; exact a1
      · rw [e2]; exact a2
      · rw [e3]; exact a3
    · have := q (noP p); show cS (noP p) (rcS c S) = 0; omega
    · have := q (isX x); have := g6 x; show cS (isX x) (rcS c S) ≤ 1; omega
  · exact g.up (by omega)
theorem g_exec {p j : Nat} {S : St} {c : Cmd} (hj : j < 1000000) (g : GS p j S) : ∃ p', GS p' (j + 1) (pExec S c).2 := by
  unfold pExec
  split
  · exact g_plant hj g
  · split
    · exact ⟨p, g_pick g⟩
    · split
      · exact ⟨p, g_sharp hj g⟩
      · split
        · exact ⟨p, g_blunt hj g⟩
        · split
          · exact ⟨p, g_uproot g⟩
          · split
            · exact ⟨p, g_move g⟩
            · split
              · exact ⟨p, g_merge g⟩
              · split
                · exact ⟨p, g_reorder g⟩
                · split
                  · exact ⟨p, g_recall g⟩
                  · exact ⟨p, g_ink g⟩
