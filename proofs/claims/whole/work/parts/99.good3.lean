/-! ===== pure: what follows from a good state ===== -/
theorem gs_dis {p j : Nat} {S : St} (g : GS p j S) : Dis S := by
  intro i a i' b hi ha hi' hb e
  have g6 := g.2.2.2.2.2.1 ((S.2.2.2 i).2.2 a).1
  have c1 : ∀ k m, k < 4 → m < (S.2.2.2 k).1 → ((S.2.2.2 k).2.2 m).1 = ((S.2.2.2 i).2.2 a).1 → 0 < cP (isX ((S.2.2.2 i).2.2 a).1) (S.2.2.2 k).2.2 (S.2.2.2 k).1 := fun k m hk hm q => cnt_mem (Nat.zero_le m) (by omega) (decide_eq_true q)
  have q1 := c1 i a hi ha rfl
  have q2 := c1 i' b hi' hb e.symm
  have ei : i = i' := by
    unfold cS at g6
    rcases four hi with q | q | q | q <;> rcases four hi' with r | r | r | r <;> subst q <;> subst r <;> first | rfl | omega
  subst ei
  refine ⟨rfl, ?_⟩
  have l := Nat.le_trans (cS_le (P := isX ((S.2.2.2 i).2.2 a).1) hi) g6
  exact cnt_two l ha hb (decide_eq_true rfl) (decide_eq_true e.symm)
theorem gs_fea {p j : Nat} {S : St} (hj : j < 1000000) (g : GS p j S) : FeaS S := fun i hi k hk => (gs_pen hj g hi hk).2.1
theorem gs_dt {p j : Nat} {S : St} (hj : j < 1000000) (g : GS p j S) : DtS S := fun i hi k hk => (gs_pen hj g hi hk).2.2
theorem gs_cl {p j : Nat} {S : St} (g : GS p j S) : ClS S := ⟨fun i hi => (g.2.2.2.1 i hi).2.1, g.2.2.2.2.2.2.2.1⟩
theorem gs_okS {p j : Nat} {S : St} (hj : j < 1000000) (g : GS p j S) : OkS S := ⟨g.2.2.1, gs_fea hj g, gs_dt hj g, gs_dis g, by
  have := g.2.1
  rw [g.1, lt_nI (by omega) (by omega)]; omega⟩
theorem gs_nn {p j : Nat} {S : St} (hj : j < 1000000) (g : GS p j S) (i k : Nat) (hi : i < 4) (hk : k < (S.2.2.2 i).1) : ¬ ((S.2.2.2 i).2.2 k).1 < nI 0 := by
  obtain ⟨⟨n, h1, h2⟩, -⟩ := gs_pen hj g hi hk
  have := g.2.1
  rw [h2, lt_nI (by omega) (by omega)]; omega
theorem gs_okE {p j : Nat} {S : St} (hj : j < 1000000) (g : GS p j S) : OkE S := ⟨gs_okS hj g, gs_nn hj g, g.2.2.2.2.2.2.1, by have := g.2.2.2.2.2.2.2.2; omega⟩
theorem gs_wr {p j : Nat} {S : St} (hj : j < 10000) (g : GS p j S) (i k : Nat) (hi : i < 4) (hk : k < (S.2.2.2 i).1) : WrP ((S.2.2.2 i).2.2 k) := by
  obtain ⟨⟨n, h1, h2⟩, h3, h4⟩ := gs_pen (by omega) g hi hk
  have := g.2.1
  exact ⟨⟨n, by omega, h2⟩, by omega, h4⟩
theorem gs_okN {p j : Nat} {S : St} (g : GS p j S) (i : Nat) (hi : i < 4) : okN (S.2.2.2 i) := by
  have gn := g.2.2.2.1 i hi
  exact hp_okN gn.1 gn.2.2 (fun x => Nat.le_trans (cS_le (P := isX x) hi) (g.2.2.2.2.2.1 x))
theorem gs_0 (j : Nat) : GS 0 j st0 := ⟨rfl, Nat.zero_le _, by decide, fun i hi => ⟨Nat.zero_le _, fun _ _ => rfl, fun k _ h => absurd h (Nat.not_lt_zero k)⟩, rfl, fun x => Nat.zero_le 1, fun k hk => ⟨0, by omega, rfl⟩, fun k hk => rfl, Nat.zero_le _⟩
/-- how a change ends: refused by one of the codes, with nothing changed, or answered -/
def rOk (l : List Int32) (r : Int32 × St) (S : St) : Prop := (r.1 ∈ l ∧ r.2 = S) ∨ ∃ k, k < 1000000000 ∧ r.1 = nI k
theorem rOk.cod {l : List Int32} {r : Int32 × St} {S : St} (h : rOk l r S) (hl : ∀ v, v ∈ l → v ∈ [-nI 1, -nI 2, -nI 3, -nI 4, -nI 5]) : cod r.1 := by
  rcases h with ⟨h, -⟩ | ⟨k, hk, h⟩
  · have := hl _ h
    simp only [List.mem_cons, List.not_mem_nil, or_false] at this
    rcases this with h | h | h | h | h
    · exact .inl h
    · exact .inr (.inl h)
    · exact .inr (.inr (.inl h))
    · exact .inr (.inr (.inr (.inl h)))
    · exact .inr (.inr (.inr (.inr (.inl h))))
  · exact .inr (.inr (.inr (.inr (.inr (by rw [h, lt_nI (by omega) (by omega)]; omega)))))
theorem rOk.same {l : List Int32} {r : Int32 × St} {S : St} (h : rOk l r S) (hn : r.1 < nI 0) : r.2 = S := by
  rcases h with ⟨-, h⟩ | ⟨k, hk, h⟩
  · exact h
  · rw [h, lt_nI (by omega) (by omega)] at hn; omega
theorem rk {l : List Int32} {v : Int32} {S : St} (h : v ∈ l) : rOk l (v, S) S := .inl ⟨h, rfl⟩
theorem sDn_ix9 {sz : Nat} (hs : sz ≤ 24) : ∀ (f : Nat) (p : Pens) (t : Nat), t < 24 → (sDn sz f p t).2.1 < 24
  | 0, p, t, h => h
  | f + 1, p, t, h => by
    rw [sDn]; split
    · rename_i c
      exact sDn_ix9 hs f _ _ (by omega)
    · exact h
theorem k_plant {p j : Nat} {S : St} {x t : Int32} {c : Fin 65536} (hj : j < 1000000) (g : GS p j S) : rOk [-nI 1, -nI 3, -nI 4] (pPlant S x c t) S := by
  unfold pPlant
  split
  · split
    · split
      · exact rk (by decide)
      · exact .inr ⟨p, by have := g.2.1; omega, g.1⟩
    · exact rk (by decide)
  · exact rk (by decide)
theorem k_pick {p j : Nat} {S : St} {x : Int32} (hj : j < 1000000) (g : GS p j S) : rOk [-nI 1, -nI 2, -nI 5] (pPick S x) S := by
  unfold pPick
  split
  · rename_i h1
    split
    · exact rk (by decide)
    · rename_i h2
      split
      · exact rk (by decide)
      · obtain ⟨i, hi, rfl⟩ := isN_ex h1
        rw [cl i (by omega)] at h2 ⊢
        obtain ⟨⟨n, n1, n2⟩, -⟩ := gs_pen hj g hi (show 0 < (S.2.2.2 i).1 by omega)
        exact .inr ⟨n, by have := g.2.1; omega, n2⟩
  · exact rk (by decide)
theorem k_uproot {p j : Nat} {S : St} {x : Int32} (hj : j < 1000000) (g : GS p j S) : rOk [-nI 2] (pUproot S x) S := by
  unfold pUproot
  cases e : nsw x S with
  | none => exact rk (by decide)
  | some i =>
    obtain ⟨hi, h1, h2⟩ := nsw_ixn e
    obtain ⟨-, -, d, d1, d2⟩ := gs_pen hj g hi h1
    exact .inr ⟨d, by omega, d2⟩
theorem k_ink {p j : Nat} {S : St} {c : Fin 65536} {t : Int32} (g : GS p j S) : rOk [-nI 3] (pInk S c t) S := by
  unfold pInk
  split
  · rename_i h
    obtain ⟨cc, c1, c2, c3⟩ := inB_ex (by omega) (by omega) h.1
    rw [eq_nI (by omega) (by omega)] at c3
    obtain ⟨m, -, hm, rfl⟩ := inB_ex (by omega) (by omega) h.2
    obtain ⟨v, hv, ev⟩ := g.2.2.2.2.2.2.1 (c.val - 97) (by omega)
    refine .inr ?_
    show ∃ k, k < 1000000000 ∧ inkA S c (nI m) = nI k
    unfold inkA
    rw [ev, nI_add]
    split
    · exact ⟨v + m, by omega, rfl⟩
    · exact ⟨999, by omega, rfl⟩
  · exact rk (by decide)
theorem k_sharp {p j : Nat} {S : St} {x t : Int32} (g : GS p j S) : rOk [-nI 2, -nI 3] (pSharp S x t) S := by
  unfold pSharp
  cases e : nsw x S with
  | none => exact rk (by decide)
  | some i =>
    obtain ⟨hi, h1, h2⟩ := nsw_ixn e
    have l := tot_le g.2.2.1 hi
    dsimp only
    split
    · exact .inr ⟨_, by have := sUp_ix (ixn x (S.2.2.2 i)) (dtP (S.2.2.2 i).2.2 (ixn x (S.2.2.2 i)) (mxI (nI 0) (((S.2.2.2 i).2.2 (ixn x (S.2.2.2 i))).2.2 - t))) (ixn x (S.2.2.2 i)); omega, rfl⟩
    · exact rk (by decide)
theorem k_blunt {p j : Nat} {S : St} {x t : Int32} (g : GS p j S) : rOk [-nI 2, -nI 3] (pBlunt S x t) S := by
  unfold pBlunt
  cases e : nsw x S with
  | none => exact rk (by decide)
  | some i =>
    obtain ⟨hi, h1, h2⟩ := nsw_ixn e
    have l := tot_le g.2.2.1 hi
    dsimp only
    split
    · exact .inr ⟨_, by have := sDn_ix9 l 5 (dtP (S.2.2.2 i).2.2 (ixn x (S.2.2.2 i)) (mnI (nI 999) (((S.2.2.2 i).2.2 (ixn x (S.2.2.2 i))).2.2 + t))) (ixn x (S.2.2.2 i)) (by omega); omega, rfl⟩
    · exact rk (by decide)
theorem k_move {p j : Nat} {S : St} {x t : Int32} (g : GS p j S) : rOk [-nI 2, -nI 1, -nI 4] (pMove S x t) S := by
  unfold pMove
  cases e : nsw x S with
  | none => exact rk (by decide)
  | some i =>
    dsimp only
    split
    · rename_i h
      obtain ⟨b, hb, rfl⟩ := isN_ex h
      rw [cl b (by omega)]
      split
      · exact rk (by decide)
      · have l := tot_le g.2.2.1 hb
        refine .inr ⟨_, ?_, rfl⟩
        have := sUp_ix (S.2.2.2 b).1 (lput (S.2.2.2 b).2.2 (S.2.2.2 b).1 (x, ((S.2.2.2 i).2.2 (ixn x (S.2.2.2 i))).2)) (S.2.2.2 b).1
        unfold addI
        omega
    · exact rk (by decide)
theorem k_merge {p j : Nat} {S : St} {x t : Int32} (g : GS p j S) : rOk [-nI 1, -nI 3] (pMerge S x t) S := by
  unfold pMerge
  split
  · rename_i h
    split
    · exact rk (by decide)
    · obtain ⟨a, ha, rfl⟩ := isN_ex h.1
      obtain ⟨b, hb, rfl⟩ := isN_ex h.2
      simp only [cl a (show a < 2147483648 by omega), cl b (show b < 2147483648 by omega)]
      exact .inr ⟨_, by have := tot_le g.2.2.1 ha; have := tot_le g.2.2.1 hb; omega, rfl⟩
  · exact rk (by decide)
theorem k_reorder {p j : Nat} {S : St} {x : Int32} (g : GS p j S) : rOk [-nI 1] (pReorder S x) S := by
  unfold pReorder
  split
  · rename_i h
    obtain ⟨a, ha, rfl⟩ := isN_ex h
    rw [cl a (by omega)]
    exact .inr ⟨_, by have := tot_le g.2.2.1 ha; have := ordF_ex (sz := (S.2.2.2 a).1) ((S.2.2.2 a).1 / 2) (srtN (S.2.2.2 a)).2.2; omega, rfl⟩
  · exact rk (by decide)
theorem k_recall {p j : Nat} {S : St} {c : Fin 65536} (g : GS p j S) : rOk [-nI 3] (pRecall S c) S := by
  unfold pRecall
  split
  · refine .inr ⟨_, ?_, rfl⟩
    have l : ∀ i, i < 4 → rcD c (S.2.2.2 i) ≤ 24 := fun i hi => by
      have := tot_le g.2.2.1 hi
      unfold rcD; omega
    have a := l 0 (by omega); have b := l 1 (by omega); have c := l 2 (by omega); have d := l 3 (by omega)
    omega
  · exact rk (by decide)
