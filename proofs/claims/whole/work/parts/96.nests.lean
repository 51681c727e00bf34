/-! ===== pure: what nests keep ===== -/
theorem clP_swp {p : Pens} {a b : Nat} (ha : a < 24) (hb : b < 24) (h : ClP p) : ClP (swp p a b) := fun k hk => by rw [swp_o p (by omega) (by omega)]; exact h k hk
theorem clP_lput {p : Pens} {a : Nat} {x : Pen} (ha : a < 24) (h : ClP p) : ClP (lput p a x) := fun k hk => by
  unfold lput; rw [if_neg (by omega)]; exact h k hk
theorem clP_sUp : ∀ (f : Nat) (p : Pens) (t : Nat), t < 24 → ClP p → ClP (sUp f p t).1
  | 0, p, t, _, h => h
  | f + 1, p, t, ht, h => by
    rw [sUp]; split
    · exact clP_sUp f _ _ (by omega) (clP_swp ht (by omega) h)
    · exact h
theorem sUp_ex9 : ∀ (f : Nat) (p : Pens) (t : Nat), (sUp f p t).2.2 ≤ f
  | 0, p, t => Nat.le_refl _
  | f + 1, p, t => by
    rw [sUp]; split
    · have := sUp_ex9 f (swp p t ((t - 1) / 2)) ((t - 1) / 2)
      show _ + 1 ≤ f + 1; omega
    · exact Nat.zero_le _
theorem sUp_ix : ∀ (f : Nat) (p : Pens) (t : Nat), (sUp f p t).2.1 ≤ t
  | 0, p, t => Nat.le_refl _
  | f + 1, p, t => by
    rw [sUp]; split
    · have := sUp_ix f (swp p t ((t - 1) / 2)) ((t - 1) / 2)
      show (sUp f _ _).2.1 ≤ t; omega
    · exact Nat.le_refl _
theorem clP_sDn {sz : Nat} (hs : sz ≤ 24) : ∀ (f : Nat) (p : Pens) (t : Nat), t < 24 → ClP p → ClP (sDn sz f p t).1
  | 0, p, t, _, h => h
  | f + 1, p, t, ht, h => by
    rw [sDn]; split
    · rename_i c
      exact clP_sDn hs f _ _ (by omega) (clP_swp (by omega) ht h)
    · exact h
theorem sDn_ex9 {sz : Nat} : ∀ (f : Nat) (p : Pens) (t : Nat), (sDn sz f p t).2.2 ≤ f
  | 0, p, t => Nat.le_refl _
  | f + 1, p, t => by
    rw [sDn]; split
    · have := sDn_ex9 (sz := sz) f (swp p (chd sz p t) t) (chd sz p t)
      show _ + 1 ≤ f + 1; omega
    · exact Nat.zero_le _
theorem clP_ordF {sz : Nat} (hs : sz ≤ 24) : ∀ (k : Nat) (p : Pens), k ≤ sz → ClP p → ClP (ordF sz k p).1
  | 0, p, _, h => h
  | k + 1, p, hk, h => by rw [ordF]; exact clP_ordF hs k _ (by omega) (clP_sDn hs 5 p k (by omega) h)
theorem ordF_ex9 {sz : Nat} : ∀ (k : Nat) (p : Pens), (ordF sz k p).2 ≤ 5 * k
  | 0, p => Nat.le_refl _
  | k + 1, p => by
    rw [ordF]
    have a := ordF_ex9 (sz := sz) k (sDn sz 5 p k).1
    have b := sDn_ex9 (sz := sz) 5 p k
    show _ + _ ≤ 5 * (k + 1); omega
theorem clP_insB {lt : Pen → Pen → Bool} : ∀ (j : Nat) (p : Pens), j < 24 → ClP p → ClP (insB lt j p) := fun j p hj h k hk => by
  rw [insB_out lt j p k (by omega)]; exact h k hk
theorem clP_isort {lt : Pen → Pen → Bool} : ∀ (r i : Nat) (p : Pens), i + r ≤ 24 → ClP p → ClP (isort lt r i p)
  | 0, i, p, _, h => h
  | r + 1, i, p, hi, h => by rw [isort]; exact clP_isort r (i + 1) _ (by omega) (clP_insB i p (by omega) h)
theorem clP_dF {c : Fin 65536} : ∀ (r i k : Nat) (p : Pens), k ≤ i → i + r ≤ 24 → ClP p → ClP (dF c r i k p).1
  | 0, i, k, p, _, _, h => h
  | r + 1, i, k, p, hk, hi, h => by
    rw [dF]; split
    · exact clP_dF r (i + 1) k p (by omega) (by omega) h
    · exact clP_dF r (i + 1) (k + 1) _ (by omega) (by omega) (clP_lput (by omega) h)
theorem clP_tOut {sz i : Nat} {p : Pens} (hs : sz < 24) (h : ClP p) : ClP (tOut sz p i).1 := by
  unfold tOut; split
  · rename_i c
    have := sUp_ix i (lput p i (p sz)) i
    exact clP_sDn (by omega) 5 _ _ (by omega) (clP_sUp i _ i (by omega) (clP_lput (by omega) h))
  · exact h
theorem tOut_ex {sz i : Nat} {p : Pens} (hs : sz < 24) : (tOut sz p i).2 ≤ 30 := by
  unfold tOut; split
  · have a := sUp_ex9 i (lput p i (p sz)) i
    have b := sDn_ex9 (sz := sz) 5 (sUp i (lput p i (p sz)) i).1 (sUp i (lput p i (p sz)) i).2.1
    show _ + _ ≤ 30; omega
  · exact Nat.zero_le _
/-- a nest whose pens lie as they should -/
def GN (N : Nt) : Prop := N.1 ≤ 24 ∧ ClP N.2.2 ∧ HpB 0 N.1 N.2.2
theorem gn_add {N : Nt} {q : Pen} (g : GN N) (hs : N.1 < 24) : GN (addN N q) ∧ (∀ P, cP P (addN N q).2.2 (addN N q).1 = cP P N.2.2 N.1 + b2n (P q)) ∧ (addN N q).2.1 ≤ N.2.1 + 24 := by
  refine ⟨⟨hs, clP_sUp _ _ _ hs (clP_lput hs g.2.1), hp_add g.2.2⟩, fun P => ?_, ?_⟩
  · show cP P (sUp N.1 (lput N.2.2 N.1 q) N.1).1 (N.1 + 1) = _
    rw [cP_sUp _ _ _ (by omega), cP_last, cP_ext (p := lput N.2.2 N.1 q) (q := N.2.2) (fun k hk => by unfold lput; rw [if_neg (by omega)])]
    rw [show lput N.2.2 N.1 q N.1 = q from if_pos rfl]
  · have := sUp_ex9 N.1 (lput N.2.2 N.1 q) N.1
    show N.2.1 + _ ≤ _; omega
theorem gn_out {N : Nt} {i : Nat} (g : GN N) (hi : i < N.1) : GN (outN N i) ∧ (∀ P, cP P (outN N i).2.2 (outN N i).1 + b2n (P (N.2.2 i)) = cP P N.2.2 N.1) ∧ (outN N i).2.1 ≤ N.2.1 + 30 := by
  obtain ⟨sz, ex, p⟩ := N
  obtain ⟨g1, g2, g3⟩ := g
  have hi' : i < sz := hi
  have g1' : sz ≤ 24 := g1
  obtain ⟨m, rfl⟩ : ∃ m, sz = m + 1 := ⟨sz - 1, by omega⟩
  refine ⟨⟨by show m ≤ 24; omega, clP_tOut (by show m < 24; omega) g2, hp_tOut (sz := m) g3 (by omega)⟩, fun P => ?_, ?_⟩
  · exact cP_tOut (by omega) (by omega)
  · have := tOut_ex (sz := m) (i := i) (p := p) (by omega)
    show ex + (tOut m p i).2 ≤ ex + 30; omega
theorem dtP_n {p : Pens} {j k : Nat} {t : Int32} : (dtP p j t k).1 = (p k).1 ∧ (dtP p j t k).2.1 = (p k).2.1 := by
  unfold dtP lput; split
  · rename_i e; subst e; exact ⟨rfl, rfl⟩
  · exact ⟨rfl, rfl⟩
theorem gn_up {N : Nt} {j : Nat} {t : Int32} (g : GN N) (hj : j < N.1) (ht : ¬ (N.2.2 j).2.2 < t) : GN (upN (N.1, N.2.1, dtP N.2.2 j t) j) ∧ (∀ P, cP P (upN (N.1, N.2.1, dtP N.2.2 j t) j).2.2 N.1 + b2n (P (N.2.2 j)) = cP P N.2.2 N.1 + b2n (P ((N.2.2 j).1, (N.2.2 j).2.1, t))) ∧ (upN (N.1, N.2.1, dtP N.2.2 j t) j).2.1 ≤ N.2.1 + 24 := by
  obtain ⟨g1, g2, g3⟩ := g
  refine ⟨⟨g1, clP_sUp _ _ _ (by omega) (clP_lput (by omega) g2), hp_sharper g3 hj ?_⟩, fun P => ?_, ?_⟩
  · rw [sharp_i']
    have : ¬ (N.2.2 j).2.2.toInt < t.toInt := fun q => ht (Int32.lt_iff_toInt_lt.mpr q)
    show ¬ ((N.2.2 j).2.2.toInt < t.toInt ∨ (N.2.2 j).2.2.toInt = t.toInt ∧ (N.2.2 j).1.toInt < (N.2.2 j).1.toInt)
    omega
  · show cP P (sUp j (dtP N.2.2 j t) j).1 N.1 + _ = _
    rw [cP_sUp _ _ _ hj]
    exact cP_lput hj
  · have := sUp_ex9 j (dtP N.2.2 j t) j
    show N.2.1 + (sUp j (dtP N.2.2 j t) j).2.2 ≤ _; omega
theorem gn_dn {N : Nt} {j : Nat} {t : Int32} (g : GN N) (hj : j < N.1) (ht : ¬ t < (N.2.2 j).2.2) : GN (dnN (N.1, N.2.1, dtP N.2.2 j t) j) ∧ (∀ P, cP P (dnN (N.1, N.2.1, dtP N.2.2 j t) j).2.2 N.1 + b2n (P (N.2.2 j)) = cP P N.2.2 N.1 + b2n (P ((N.2.2 j).1, (N.2.2 j).2.1, t))) ∧ (dnN (N.1, N.2.1, dtP N.2.2 j t) j).2.1 ≤ N.2.1 + 24 := by
  obtain ⟨g1, g2, g3⟩ := g
  refine ⟨⟨g1, clP_sDn g1 _ _ _ (by omega) (clP_lput (by omega) g2), hp_blunter g3 g1 hj ?_⟩, fun P => ?_, ?_⟩
  · rw [sharp_i']
    have : ¬ t.toInt < (N.2.2 j).2.2.toInt := fun q => ht (Int32.lt_iff_toInt_lt.mpr q)
    show ¬ (t.toInt < (N.2.2 j).2.2.toInt ∨ t.toInt = (N.2.2 j).2.2.toInt ∧ (N.2.2 j).1.toInt < (N.2.2 j).1.toInt)
    omega
  · show cP P (sDn N.1 5 (dtP N.2.2 j t) j).1 N.1 + _ = _
    rw [cP_sDn _ _ _ hj]
    exact cP_lput hj
  · have := sDn_ex9 (sz := N.1) 5 (dtP N.2.2 j t) j
    show N.2.1 + (sDn N.1 5 (dtP N.2.2 j t) j).2.2 ≤ _; omega
theorem gn_mg {p : Pens} : ∀ (r k : Nat) (N : Nt), GN N → N.1 + r ≤ 24 → GN (mgN p r k N) ∧ (∀ P, cP P (mgN p r k N).2.2 (N.1 + r) = cP P N.2.2 N.1 + cnt (fun j => P (p j)) r k) ∧ (mgN p r k N).2.1 ≤ N.2.1 + 24 * r
  | 0, k, N, g, h => ⟨g, fun P => rfl, Nat.le_refl _⟩
  | r + 1, k, N, g, h => by
    obtain ⟨a1, a2, a3⟩ := gn_add (q := p k) g (by omega)
    have e : (addN N (p k)).1 = N.1 + 1 := rfl
    obtain ⟨b1, b2, b3⟩ := gn_mg r (k + 1) (addN N (p k)) a1 (by omega)
    rw [mgN]
    refine ⟨b1, fun P => ?_, by omega⟩
    have := b2 P
    rw [a2 P, e] at this
    rw [show N.1 + (r + 1) = N.1 + 1 + r by omega, this, cnt_s]
    omega
theorem gn_ord {N : Nt} (h1 : N.1 ≤ 24) (h2 : ClP N.2.2) : GN (ordN N) ∧ (∀ P, cP P (ordN N).2.2 (ordN N).1 = cP P N.2.2 N.1) ∧ (ordN N).2.1 ≤ N.2.1 + 60 := by
  refine ⟨⟨h1, clP_ordF h1 _ _ (by omega) h2, hp_ord h1⟩, fun P => cP_ordF _ _ (by omega), ?_⟩
  have := ordF_ex9 (sz := N.1) (N.1 / 2) N.2.2
  show N.2.1 + _ ≤ _; omega
theorem gn_srt {N : Nt} (g : GN N) : GN (ordN (srtN N)) ∧ (∀ P, cP P (ordN (srtN N)).2.2 (ordN (srtN N)).1 = cP P N.2.2 N.1) ∧ (ordN (srtN N)).2.1 ≤ N.2.1 + 60 := by
  obtain ⟨a1, a2, a3⟩ := gn_ord (N := srtN N) g.1 (by
    show ClP (isort numLt (N.1 - 1) 1 N.2.2)
    by_cases e : N.1 = 0
    · rw [e]; exact g.2.1
    · exact clP_isort _ _ _ (by have := g.1; omega) g.2.1)
  refine ⟨a1, fun P => (a2 P).trans ?_, a3⟩
  show cP P (isort numLt (N.1 - 1) 1 N.2.2) N.1 = _
  by_cases e : N.1 = 0
  · rw [e]; rfl
  · exact cP_isort _ _ _ (by omega)
theorem gn_rc {N : Nt} {c : Fin 65536} (g : GN N) : GN (rcN c N) ∧ (∀ P, cP P (rcN c N).2.2 (rcN c N).1 ≤ cP P N.2.2 N.1) ∧ (rcN c N).2.1 ≤ N.2.1 + 60 ∧ (rcN c N).1 ≤ N.1 := by
  have l := dF_le c N.1 0 0 N.2.2
  obtain ⟨a1, a2, a3⟩ := gn_ord (N := ((dF c N.1 0 0 N.2.2).2, N.2.1, (dF c N.1 0 0 N.2.2).1)) (by have := g.1; show _ ≤ 24; omega) (clP_dF _ _ _ _ (by omega) (by have := g.1; omega) g.2.1)
  refine ⟨a1, fun P => ?_, a3, by show (dF c N.1 0 0 N.2.2).2 ≤ _; omega⟩
  have e := a2 P
  rw [show rcN c N = ordN ((dF c N.1 0 0 N.2.2).2, N.2.1, (dF c N.1 0 0 N.2.2).1) from rfl, e]
  show cP P (dF c N.1 0 0 N.2.2).1 (dF c N.1 0 0 N.2.2).2 ≤ _
  rw [cP_dF c _ _ _ _ (by omega)]
  show 0 + _ ≤ cnt (fun k => P (N.2.2 k)) N.1 0
  rw [Nat.zero_add]
  have key : ∀ (f g : Nat → Bool) (r i : Nat), (∀ k, f k = true → g k = true) → cnt f r i ≤ cnt g r i := fun f g r => by
    induction r with
    | zero => exact fun i _ => Nat.le_refl _
    | succ r ih =>
      intro i h
      rw [cnt_s, cnt_s]
      have a := ih (i + 1) h
      have b : b2n (f i) ≤ b2n (g i) := by
        cases e : f i with
        | false => exact Nat.zero_le _
        | true => rw [h i e]; exact Nat.le_refl _
      omega
  exact key _ _ _ _ (fun k h => by rw [Bool.and_eq_true] at h; exact h.1)
