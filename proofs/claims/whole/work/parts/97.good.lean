/-! ===== pure: what the state keeps ===== -/
def cS (P : Pen → Bool) (S : St) : Nat := cP P (S.2.2.2 0).2.2 (S.2.2.2 0).1 + cP P (S.2.2.2 1).2.2 (S.2.2.2 1).1 + cP P (S.2.2.2 2).2.2 (S.2.2.2 2).1 + cP P (S.2.2.2 3).2.2 (S.2.2.2 3).1
theorem four {i : Nat} (h : i < 4) : i = 0 ∨ i = 1 ∨ i = 2 ∨ i = 3 := by omega
theorem sum_put (g : Nt → Nat) (S : St) {i : Nat} (hi : i < 4) (N : Nt) : (g ((fu S.2.2.2 i N) 0) + g ((fu S.2.2.2 i N) 1) + g ((fu S.2.2.2 i N) 2) + g ((fu S.2.2.2 i N) 3)) + g (S.2.2.2 i) = (g (S.2.2.2 0) + g (S.2.2.2 1) + g (S.2.2.2 2) + g (S.2.2.2 3)) + g N := by
  rcases four hi with e | e | e | e
  · subst e; rw [fu_eq, fu_ne (by decide), fu_ne (by decide), fu_ne (by decide)]; omega
  · subst e; rw [fu_eq, fu_ne (by decide), fu_ne (by decide), fu_ne (by decide)]; omega
  · subst e; rw [fu_eq, fu_ne (by decide), fu_ne (by decide), fu_ne (by decide)]; omega
  · subst e; rw [fu_eq, fu_ne (by decide), fu_ne (by decide), fu_ne (by decide)]; omega
theorem cS_put {P : Pen → Bool} {S : St} {i : Nat} (hi : i < 4) (N : Nt) : cS P (sN S i N) + cP P (S.2.2.2 i).2.2 (S.2.2.2 i).1 = cS P S + cP P N.2.2 N.1 := sum_put (fun N => cP P N.2.2 N.1) S hi N
theorem tot_put {S : St} {i : Nat} (hi : i < 4) (N : Nt) : tot (sN S i N) + (S.2.2.2 i).1 = tot S + N.1 := sum_put (fun N => N.1) S hi N
theorem ex_put {S : St} {i : Nat} (hi : i < 4) (N : Nt) : exT (sN S i N) + (S.2.2.2 i).2.1 = exT S + N.2.1 := sum_put (fun N => N.2.1) S hi N
theorem b2n_le (b : Bool) : b2n b ≤ 1 := by cases b <;> decide
/-- a pen as it should be, p pens planted so far -/
def okP (p : Nat) (q : Pen) : Bool := decide (0 < p) && inB q.1 0 (p - 1) && decide (97 ≤ q.2.1.val ∧ q.2.1.val ≤ 104) && inB q.2.2 0 999
theorem inB_nI {n a b : Nat} (hb : b < 2147483648) (h : a ≤ n ∧ n ≤ b) : inB (nI n) a b = true := by
  unfold inB
  rw [Bool.and_eq_true]
  exact ⟨decide_eq_true (by rw [le_nI (by omega) (by omega)]; exact h.1), decide_eq_true (by rw [le_nI (by omega) (by omega)]; exact h.2)⟩
theorem okP_iff {p : Nat} {q : Pen} (hp : p < 2147483648) : okP p q = true ↔ (∃ n, n < p ∧ q.1 = nI n) ∧ (97 ≤ q.2.1.val ∧ q.2.1.val ≤ 104) ∧ ∃ d, d ≤ 999 ∧ q.2.2 = nI d := by
  unfold okP
  simp only [Bool.and_eq_true]
  constructor
  · rintro ⟨⟨⟨h1, h2⟩, h3⟩, h4⟩
    have h1 := of_decide_eq_true h1
    obtain ⟨n, -, e1, e2⟩ := inB_ex (by omega) (by omega) h2
    obtain ⟨d, -, e3, e4⟩ := inB_ex (by omega) (by omega) h4
    exact ⟨⟨n, by omega, e2⟩, of_decide_eq_true h3, d, e3, e4⟩
  · rintro ⟨⟨n, h1, h2⟩, h3, d, h4, h5⟩
    rw [h2, h5]
    exact ⟨⟨⟨decide_eq_true (by omega), inB_nI (by omega) (by omega)⟩, decide_eq_true h3⟩, inB_nI (by omega) (by omega)⟩
def noP (p : Nat) (q : Pen) : Bool := !okP p q
def isX (x : Int32) (q : Pen) : Bool := decide (q.1 = x)
theorem cnt_mono (f g : Nat → Bool) : ∀ (r i : Nat), (∀ k, f k = true → g k = true) → cnt f r i ≤ cnt g r i
  | 0, _, _ => Nat.le_refl _
  | r + 1, i, h => by
    rw [cnt_s, cnt_s]
    have a := cnt_mono f g r (i + 1) h
    have b : b2n (f i) ≤ b2n (g i) := by
      cases e : f i with
      | false => exact Nat.zero_le _
      | true => rw [h i e]; exact Nat.le_refl _
    omega
theorem cS_mono {P P' : Pen → Bool} {S : St} (h : ∀ q, P q = true → P' q = true) : cS P S ≤ cS P' S := by
  have := fun i => cnt_mono (fun k => P ((S.2.2.2 i).2.2 k)) (fun k => P' ((S.2.2.2 i).2.2 k)) (S.2.2.2 i).1 0 (fun k => h _)
  have a := this 0; have b := this 1; have c := this 2; have d := this 3
  unfold cS cP; omega
theorem cS_0 {P : Pen → Bool} {S : St} (h : cS P S = 0) {i k : Nat} (hi : i < 4) (hk : k < (S.2.2.2 i).1) : P ((S.2.2.2 i).2.2 k) = false := by
  have z : cP P (S.2.2.2 i).2.2 (S.2.2.2 i).1 = 0 := by
    unfold cS at h
    rcases four hi with e | e | e | e <;> subst e <;> omega
  have := cnt_zero z (Nat.zero_le k) (by omega)
  simpa using this
theorem cS_le {P : Pen → Bool} {S : St} {i : Nat} (hi : i < 4) : cP P (S.2.2.2 i).2.2 (S.2.2.2 i).1 ≤ cS P S := by
  unfold cS
  rcases four hi with e | e | e | e <;> subst e <;> omega
/-- a good state: p pens planted, j commands done at most -/
def GS (p j : Nat) (S : St) : Prop := S.1 = nI p ∧ p ≤ j ∧ tot S ≤ 24 ∧ (∀ i, i < 4 → GN (S.2.2.2 i)) ∧ cS (noP p) S = 0 ∧ (∀ x, cS (isX x) S ≤ 1) ∧ (∀ k, k < 8 → ∃ v, v ≤ 999 ∧ S.2.2.1 k = nI v) ∧ (∀ k, 8 ≤ k → S.2.2.1 k = nI 0) ∧ exT S ≤ 600 * j
theorem GS.up {p j j' : Nat} {S : St} (g : GS p j S) (h : j ≤ j') : GS p j' S := by
  obtain ⟨g1, g2, g3, g4, g5, g6, g7, g8, g9⟩ := g
  exact ⟨g1, by omega, g3, g4, g5, g6, g7, g8, by omega⟩
/-- one nest is another: the pens of P count no more, of all P -/
theorem GS.put {p j i : Nat} {S : St} {N : Nt} {a b : Int32} {f : Nat → Int32} (g : GS p j S) (ha : a = S.1) (hi : i < 4) (hN : GN N) (hs : N.1 ≤ (S.2.2.2 i).1) (hc : ∀ P, cP P N.2.2 N.1 ≤ cP P (S.2.2.2 i).2.2 (S.2.2.2 i).1) (he : N.2.1 ≤ (S.2.2.2 i).2.1 + 600) (h7 : ∀ k, k < 8 → ∃ v, v ≤ 999 ∧ f k = nI v) (h8 : ∀ k, 8 ≤ k → f k = nI 0) : GS p (j + 1) (sN (a, b, f, S.2.2.2) i N) := by
  obtain ⟨g1, g2, g3, g4, g5, g6, g7, g8, g9⟩ := g
  have q : ∀ P, cS P (sN (a, b, f, S.2.2.2) i N) + cP P (S.2.2.2 i).2.2 (S.2.2.2 i).1 = cS P S + cP P N.2.2 N.1 := fun P => cS_put (S := (a, b, f, S.2.2.2)) hi N
  have t : tot (sN (a, b, f, S.2.2.2) i N) + (S.2.2.2 i).1 = tot S + N.1 := tot_put (S := (a, b, f, S.2.2.2)) hi N
  have e : exT (sN (a, b, f, S.2.2.2) i N) + (S.2.2.2 i).2.1 = exT S + N.2.1 := ex_put (S := (a, b, f, S.2.2.2)) hi N
  refine ⟨ha.trans g1, by omega, by omega, fun k hk => ?_, ?_, fun x => ?_, h7, h8, by omega⟩
  · show GN (fu S.2.2.2 i N k)
    by_cases c : k = i
    · rw [c, fu_eq]; exact hN
    · rw [fu_ne c]; exact g4 k hk
  · have := q (noP p); have := hc (noP p); omega
  · have := q (isX x); have := hc (isX x); have := g6 x; omega
theorem st_eta (S : St) : (S.1, S.2.1, S.2.2.1, S.2.2.2) = S := rfl
theorem noP_up {p : Nat} (hp : p + 1 < 2147483648) {q : Pen} (h : noP (p + 1) q = true) : noP p q = true := by
  unfold noP at *
  cases e : okP p q with
  | false => rfl
  | true =>
    obtain ⟨⟨n, h1, h2⟩, h3, h4⟩ := (okP_iff (by omega)).mp e
    rw [(okP_iff hp).mpr ⟨⟨n, by omega, h2⟩, h3, h4⟩] at h
    cases h
theorem g_plant {p j : Nat} {S : St} {x t : Int32} {c : Fin 65536} (hj : j < 1000000) (g : GS p j S) : ∃ p', GS p' (j + 1) (pPlant S x c t).2 := by
  unfold pPlant
  split
  · rename_i h1
    split
    · rename_i h2
      split
      · exact ⟨p, g.up (by omega)⟩
      · rename_i h3
        obtain ⟨i, hi, rfl⟩ := isN_ex h1
        rw [cl i (by omega)]
        obtain ⟨g1, g2, g3, g4, g5, g6, g7, g8, g9⟩ := g
        have hz : (S.2.2.2 i).1 < 24 := by
          have := tot_le (Nat.le_refl (tot S)) hi; omega
        obtain ⟨n1, n2, n3⟩ := gn_add (q := (S.1, c, t)) (g4 i hi) hz
        have q : ∀ P, cS P (sN (S.1 + nI 1, S.2) i (addN (S.2.2.2 i) (S.1, c, t))) = cS P S + b2n (P (S.1, c, t)) := fun P => by
          have := cS_put (P := P) (S := (S.1 + nI 1, S.2)) hi (addN (S.2.2.2 i) (S.1, c, t))
          have e := n2 P
          have r : cS P (S.1 + nI 1, S.2) = cS P S := rfl
          have r2 : cP P ((S.1 + nI 1, S.2).2.2.2 i).2.2 ((S.1 + nI 1, S.2).2.2.2 i).1 = cP P (S.2.2.2 i).2.2 (S.2.2.2 i).1 := rfl
          omega
        have tt : tot (sN (S.1 + nI 1, S.2) i (addN (S.2.2.2 i) (S.1, c, t))) + (S.2.2.2 i).1 = tot S + ((S.2.2.2 i).1 + 1) := tot_put (S := (S.1 + nI 1, S.2)) hi (addN (S.2.2.2 i) (S.1, c, t))
        have ee : exT (sN (S.1 + nI 1, S.2) i (addN (S.2.2.2 i) (S.1, c, t))) + (S.2.2.2 i).2.1 = exT S + (addN (S.2.2.2 i) (S.1, c, t)).2.1 := ex_put (S := (S.1 + nI 1, S.2)) hi (addN (S.2.2.2 i) (S.1, c, t))
        obtain ⟨dd, -, d1, d2⟩ := inB_ex (by omega) (by omega) h2.2
        obtain ⟨cc, c1, c2, c3⟩ := inB_ex (by omega) (by omega) h2.1
        rw [eq_nI (by omega) (by omega)] at c3
        have okq : okP (p + 1) (S.1, c, t) = true := (okP_iff (by omega)).mpr ⟨⟨p, by omega, g1⟩, by show 97 ≤ c.val ∧ c.val ≤ 104; omega, dd, d1, d2⟩
        have tt' : tot (sN (S.1 + nI 1, S.2) i (addN (S.2.2.2 i) (S.1, c, t))) ≤ 24 := by omega
        have ee' : exT (sN (S.1 + nI 1, S.2) i (addN (S.2.2.2 i) (S.1, c, t))) ≤ 600 * (j + 1) := by omega
        refine ⟨p + 1, ?_, by omega, ?_, fun k hk => ?_, ?_, fun y => ?_, g7, g8, ee'⟩
        · show S.1 + nI 1 = nI (p + 1)
          rw [g1, nI_add]
        · exact tt'
        · show GN (fu S.2.2.2 i _ k)
          by_cases e : k = i
          · rw [e, fu_eq]; exact n1
          · rw [fu_ne e]; exact g4 k hk
        · show cS _ _ = 0
          have m := cS_mono (S := S) (P := noP (p + 1)) (P' := noP p) (fun q h => noP_up (by omega) h)
          rw [q (noP (p + 1)), show noP (p + 1) (S.1, c, t) = false from by unfold noP; rw [okq]; rfl]
          show _ + 0 = 0
          omega
        · show cS _ _ ≤ 1
          rw [q (isX y)]
          by_cases e : S.1 = y
          · have z : cS (isX y) S ≤ cS (noP p) S := cS_mono (fun q h => by
              have h' : q.1 = y := of_decide_eq_true h
              unfold noP
              cases e2 : okP p q with
              | false => rfl
              | true =>
                obtain ⟨⟨n, h1, h2⟩, -, -⟩ := (okP_iff (by omega)).mp e2
                rw [h', ← e, g1, eq_nI (by omega) (by omega)] at h2
                omega)
            have := b2n_le (isX y (S.1, c, t))
            omega
          · rw [show isX y (S.1, c, t) = false from decide_eq_false e]
            have := g6 y
            show _ + 0 ≤ 1; omega
    · exact ⟨p, g.up (by omega)⟩
  · exact ⟨p, g.up (by omega)⟩
theorem g_pick {p j : Nat} {S : St} {x : Int32} (g : GS p j S) : GS p (j + 1) (pPick S x).2 := by
  unfold pPick
  split
  · rename_i h1
    split
    · exact g.up (by omega)
    · rename_i h2
      split
      · exact g.up (by omega)
      · rename_i h3
        obtain ⟨i, hi, rfl⟩ := isN_ex h1
        rw [cl i (by omega)] at h2 h3 ⊢
        have g' := g
        obtain ⟨g1, g2, g3, g4, g5, g6, g7, g8, g9⟩ := g'
        obtain ⟨n1, n2, n3⟩ := gn_out (i := 0) (g4 i hi) (by omega)
        refine g.put (N := outN (S.2.2.2 i) 0) (a := S.1) rfl hi n1 (Nat.sub_le _ _) (fun P => by have := n2 P; omega) (by omega) (fun k hk => ?_) (fun k hk => ?_)
        · by_cases e : k = ((S.2.2.2 i).2.2 0).2.1.val - 97
          · rw [← e, fu_eq]
            rw [← e] at h3
            obtain ⟨v, hv, ev⟩ := g7 k hk
            have : v ≠ 0 := fun q => h3 (by rw [ev, q])
            rw [ev]
            exact ⟨v - 1, by omega, sub_nI (by omega)⟩
          · rw [fu_ne e]; exact g7 k hk
        · have f1 := cS_0 g5 hi (show 0 < (S.2.2.2 i).1 by omega)
          have f2 : okP p ((S.2.2.2 i).2.2 0) = true := by
            unfold noP at f1
            cases e : okP p ((S.2.2.2 i).2.2 0) with
            | true => rfl
            | false => rw [e] at f1; cases f1
          unfold okP at f2
          simp only [Bool.and_eq_true] at f2
          have f3 := of_decide_eq_true f2.1.2
          rw [fu_ne (by omega)]; exact g8 k hk
  · exact g.up (by omega)
theorem g_uproot {p j : Nat} {S : St} {x : Int32} (g : GS p j S) : GS p (j + 1) (pUproot S x).2 := by
  unfold pUproot
  cases e : nsw x S with
  | none => exact g.up (by omega)
  | some i =>
    obtain ⟨hi, h1, h2⟩ := nsw_ixn e
    have g' := g
    obtain ⟨g1, g2, g3, g4, g5, g6, g7, g8, g9⟩ := g'
    obtain ⟨n1, n2, n3⟩ := gn_out (g4 i hi) h1
    exact g.put (N := outN (S.2.2.2 i) (ixn x (S.2.2.2 i))) (a := S.1) (b := S.2.1) (f := S.2.2.1) rfl hi n1 (Nat.sub_le _ _) (fun P => by have := n2 P; omega) (by omega) g7 g8
theorem g_ink {p j : Nat} {S : St} {c : Fin 65536} {t : Int32} (g : GS p j S) : GS p (j + 1) (pInk S c t).2 := by
  unfold pInk
  split
  · rename_i h
    obtain ⟨g1, g2, g3, g4, g5, g6, g7, g8, g9⟩ := g
    obtain ⟨cc, c1, c2, c3⟩ := inB_ex (by omega) (by omega) h.1
    rw [eq_nI (by omega) (by omega)] at c3
    obtain ⟨m, -, hm, rfl⟩ := inB_ex (by omega) (by omega) h.2
    have hk8 : c.val - 97 < 8 := by omega
    obtain ⟨v, hv, ev⟩ := g7 (c.val - 97) hk8
    refine ⟨g1, by omega, g3, g4, g5, g6, fun k hk => ?_, fun k hk => ?_, by show exT S ≤ _; omega⟩
    · show ∃ v, v ≤ 999 ∧ fu S.2.2.1 (c.val - 97) (inkA S c (nI m)) k = nI v
      by_cases e : k = c.val - 97
      · rw [e, fu_eq]
        unfold inkA
        rw [ev, nI_add]
        by_cases l : v + m < 999
        · rw [if_pos (by rw [lt_nI (by omega) (by omega)]; exact l)]; exact ⟨v + m, by omega, rfl⟩
        · rw [if_neg (by rw [lt_nI (by omega) (by omega)]; exact l)]; exact ⟨999, by omega, rfl⟩
      · rw [fu_ne e]; exact g7 k hk
    · show fu S.2.2.1 (c.val - 97) _ k = nI 0
      rw [fu_ne (by omega)]; exact g8 k hk
  · exact g.up (by omega)
theorem g_reorder {p j : Nat} {S : St} {x : Int32} (g : GS p j S) : GS p (j + 1) (pReorder S x).2 := by
  unfold pReorder
  split
  · rename_i h1
    obtain ⟨i, hi, rfl⟩ := isN_ex h1
    rw [cl i (by omega)]
    have g' := g
    obtain ⟨g1, g2, g3, g4, g5, g6, g7, g8, g9⟩ := g'
    obtain ⟨n1, n2, n3⟩ := gn_srt (g4 i hi)
    exact g.put (N := ordN (srtN (S.2.2.2 i))) (a := S.1) (b := S.2.1) (f := S.2.2.1) rfl hi n1 (Nat.le_refl _) (fun P => Nat.le_of_eq (n2 P)) (by omega) g7 g8
  · exact g.up (by omega)
