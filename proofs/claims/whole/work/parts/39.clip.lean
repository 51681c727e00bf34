/-! ===== nothing beyond the rows: kept ===== -/
theorem k_swp {p : Pens} {i j : Nat} (h : ClP p) (hi : i < 24) (hj : j < 24) : ClP (swp p i j) := fun k hk => by
  simp only [swp]
  rw [if_neg (by omega), if_neg (by omega)]; exact h k hk
theorem k_lput {p : Pens} {i : Nat} {x : Pen} (h : ClP p) (hi : i < 24) : ClP (lput p i x) := fun k hk => by
  simp only [lput]
  rw [if_neg (by omega)]; exact h k hk
theorem k_sUp : ∀ (f : Nat) (p : Pens) (t : Nat), ClP p → t < 24 → ClP (sUp f p t).1 ∧ (sUp f p t).2.1 ≤ t
  | 0, _, _, h, _ => ⟨h, Nat.le_refl _⟩
  | f + 1, p, t, h, ht => by
    rw [sUp]; split
    · have := k_sUp f _ _ (k_swp h ht (show (t - 1) / 2 < 24 by omega)) (show (t - 1) / 2 < 24 by omega)
      exact ⟨this.1, by have := this.2; show (sUp _ _ _).2.1 ≤ t; omega⟩
    · exact ⟨h, Nat.le_refl _⟩
theorem k_sDn {sz : Nat} (hs : sz ≤ 24) : ∀ (f : Nat) (p : Pens) (t : Nat), ClP p → t < 24 → ClP (sDn sz f p t).1
  | 0, _, _, h, _ => h
  | f + 1, p, t, h, ht => by
    rw [sDn]; split
    · next c => exact k_sDn hs f _ _ (k_swp h (by omega) ht) (by omega)
    · exact h
theorem k_tOut {sz i : Nat} {p : Pens} (hs : sz < 24) (h : ClP p) : ClP (tOut sz p i).1 := by
  unfold tOut; split
  · next c =>
    have a := k_sUp i _ i (k_lput (x := p sz) h (show i < 24 by omega)) (by omega)
    exact k_sDn (by omega) 5 _ _ a.1 (by have := a.2; omega)
  · exact h
theorem k_ordF {sz : Nat} (hs : sz ≤ 24) : ∀ (k : Nat) (p : Pens), ClP p → k ≤ 24 → ClP (ordF sz k p).1
  | 0, _, h, _ => h
  | k + 1, p, h, hk => by
    rw [ordF]
    exact k_ordF hs k _ (k_sDn hs 5 _ _ h (by omega)) (by omega)
theorem k_dF (x : Fin 65536) : ∀ (r i k : Nat) (p : Pens), ClP p → k + r ≤ 24 → ClP (dF x r i k p).1
  | 0, _, _, _, h, _ => h
  | r + 1, i, k, p, h, hk => by
    rw [dF]; split
    · exact k_dF x r _ _ _ h (by omega)
    · exact k_dF x r _ _ _ (k_lput h (by omega)) (by omega)
theorem k_insB (lt : Pen → Pen → Bool) : ∀ (j : Nat) (p : Pens), ClP p → j < 24 → ClP (insB lt j p)
  | 0, _, h, _ => h
  | j + 1, p, h, hj => by
    rw [insB]; split
    · exact k_insB lt j _ (k_swp h hj (by omega)) (by omega)
    · exact h
theorem k_isort (lt : Pen → Pen → Bool) : ∀ (r i : Nat) (p : Pens), ClP p → i + r ≤ 24 → ClP (isort lt r i p)
  | 0, _, _, h, _ => h
  | r + 1, i, p, h, hj => by
    rw [isort]
    exact k_isort lt r _ _ (k_insB lt i _ h (by omega)) (by omega)
theorem k_toN : ∀ (r : Nat) (N : Nt), ClP N.2.2 → N.1 ≤ 24 → r ≤ N.1 → ClP (toN r N).2.2
  | 0, _, h, _, _ => h
  | r + 1, N, h, hs, hr => by
    rw [toN]
    exact k_toN r _ (k_tOut (sz := N.1 - 1) (by omega) h) (by show N.1 - 1 ≤ 24; omega) (by show r ≤ N.1 - 1; omega)
