/-! ===== pure: a program keeps all good ===== -/
theorem g_all (cm : Nat → Cmd) : ∀ (r i J : Nat) (S : St), J + r < 1000000 → (∃ p, GS p J S) → ∃ p, GS p (J + r) (pAll cm r i S).2
  | 0, _, _, _, _, h => h
  | r + 1, i, J, S, hJ, ⟨p, h⟩ => by
    rw [pAll]; split
    · exact ⟨p, h.up (by omega)⟩
    · obtain ⟨p', h'⟩ := g_exec (c := cm i) (by omega) h
      have := g_all cm r (i + 1) (J + 1) (pExec S (cm i)).2 (by omega) ⟨p', h'⟩
      rw [show J + (r + 1) = J + 1 + r by omega]
      exact this
theorem gx_run {J m : Nat} {x : XS} {cm : Nat → Cmd} (hm : m ≤ 9) (hJ : J < 9000) (g : GX J x) : GX (J + 9) (runS cm m x) := by
  have hs := g_all cm m 0 J x.1 (by omega) g.1
  have g' := g.up (show J ≤ J + 9 by omega)
  obtain ⟨g1, g2, g3, g4, g5, g6, g7, g8⟩ := g'
  have f5 : ∀ i, i < 9 → ∃ p, GS p (J + 9) (fu x.2.2.1.2.2 ((x.2.2.1.1 + x.2.2.1.2.1) % 9) x.1 i) := fun i hi => by
    by_cases e : i = (x.2.2.1.1 + x.2.2.1.2.1) % 9
    · rw [← e, fu_eq]; exact g1
    · rw [fu_ne e]; exact g5 i hi
  have k := keepC_le g3 g4
  unfold runS
  split
  · obtain ⟨p, q⟩ := hs
    exact ⟨⟨p, q.up (by omega)⟩, g2, k.1, k.2, f5, g6, g7, g8⟩
  · exact ⟨g1, g2, g3, g4, f5, g6, g7, g8⟩
theorem gx_rn {J : Nat} {x : XS} {P : Nat × Nat × (Nat → Cmd)} {e : Int32} (g : GX J x) (hP : ∀ i, (P.2.2 i).1 < 10) : GX J (rnX x P) ∧ GX J (rnE x P e) ∧ GX J (rnF x P e) := by
  obtain ⟨g1, g2, g3, g4, g5, g6, g7, g8⟩ := g
  exact ⟨⟨g1, g2, g3, g4, g5, Nat.zero_le _, hP, g8⟩, ⟨g1, g2, g3, g4, g5, Nat.zero_le _, hP, g8⟩, ⟨g1, g2, g3, g4, g5, Nat.zero_le _, hP, g8⟩⟩
theorem rnP_k {J : Nat} {x : XS} (g : GX J x) : (∀ i, ((rnP x).2.2.2 i).1 < 10) ∧ ∀ m, (rnP x).1 = some m → 0 < m ∧ m ≤ 9 := by
  have := pParse_k (sg := x.2.2.2.1.1) (len := x.2.2.2.1.2.1) (n := kL) (f := kF) 9 0 0 x.2.2.2.1.2.2.1 x.2.2.2.1.2.2.2.2 g.2.2.2.2.2.2.1
  exact ⟨this.1, fun m hm => by have := this.2 m hm; omega⟩
/-- what a run of nine commands asks of the state -/
theorem gd_0 {J : Nat} (hJ : J < 9000) : ∀ (i : Nat) (S : St), i ≤ 9 → (∃ p, GS p (J + i) S) → OkE S := fun i S hi ⟨p, g⟩ => gs_okE (by omega) g
theorem gd_c {J : Nat} (hJ : J < 9000) : ∀ (i : Nat) (S : St), i ≤ 9 → (∃ p, GS p (J + i) S) → tot S ≤ 24 ∧ FeaS S ∧ ClS S := fun i S hi ⟨p, g⟩ => ⟨g.2.2.1, gs_fea (by omega) g, gs_cl g⟩
theorem gd_1 {J : Nat} (hJ : J < 9000) : ∀ (i : Nat) (S : St) (c : Cmd), i < 9 → (∃ p, GS p (J + i) S) → ∃ p, GS p (J + (i + 1)) (pExec S c).2 := fun i S c hi ⟨p, g⟩ => g_exec (show J + i < 1000000 by omega) g
