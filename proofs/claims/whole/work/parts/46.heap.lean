/-! ===== pure: heap order ===== -/
theorem sharp_n (a b c : Pen) (h1 : ¬ sharp a b = true) (h2 : ¬ sharp b c = true) : ¬ sharp a c = true := by rw [sharp_i'] at *; omega
theorem sharp_nl (a b c : Pen) (h1 : ¬ sharp a b = true) (h2 : sharp c b = true) : ¬ sharp a c = true := by rw [sharp_i'] at *; omega
theorem sharp_r (a : Pen) : ¬ sharp a a = true := by rw [sharp_i']; omega
def par (j : Nat) : Nat := (j - 1) / 2
/-- no pen at a place whose parent is b or more is sharper than the one there -/
def HpB (b sz : Nat) (p : Pens) : Prop := ∀ j, 0 < j → j < sz → b ≤ par j → ¬ sharp (p j) (p (par j)) = true
/-- the same, but for the places below t; a pen there isn't sharper than the one above t -/
def HpD (b sz : Nat) (p : Pens) (t : Nat) : Prop := (∀ j, 0 < j → j < sz → b ≤ par j → par j ≠ t → ¬ sharp (p j) (p (par j)) = true) ∧ ∀ j, 0 < j → j < sz → par j = t → 0 < t → b ≤ par t → ¬ sharp (p j) (p (par t)) = true
/-- the same, but for t itself -/
def HpU (sz : Nat) (p : Pens) (t : Nat) : Prop := (∀ j, 0 < j → j < sz → j ≠ t → ¬ sharp (p j) (p (par j)) = true) ∧ ∀ j, 0 < j → j < sz → par j = t → 0 < t → ¬ sharp (p j) (p (par t)) = true
theorem par_lt {j : Nat} (h : 0 < j) : par j < j := by unfold par; omega
theorem par_of (t : Nat) : par (2 * t + 1) = t ∧ par (2 * t + 2) = t := ⟨by unfold par; omega, by unfold par; omega⟩
theorem par_ch {j t : Nat} (h0 : 0 < j) (h : par j = t) : j = 2 * t + 1 ∨ j = 2 * t + 2 := by unfold par at h; omega
theorem hp_sDn {b sz : Nat} : ∀ (r t : Nat) (p : Pens), 32 ≤ (t + 1) * 2 ^ r → t < sz → sz ≤ 24 → b ≤ t → HpD b sz p t → HpB b sz (sDn sz r p t).1
  | 0, t, _, h, ht, hs, _, _ => by omega
  | r + 1, t, p, h, ht, hs, hb, H => by
    rw [sDn]
    by_cases c : chd sz p t < sz ∧ sharp (p (chd sz p t)) (p t) = true
    · rw [if_pos c]
      obtain ⟨c1, c2⟩ := c
      have hch : chd sz p t = 2 * t + 1 ∨ chd sz p t = 2 * t + 2 := by unfold chd; split <;> omega
      have hsib : ∀ j, 0 < j → j < sz → par j = t → ¬ sharp (p j) (p (chd sz p t)) = true := by
        intro j h0 hj hp
        unfold chd
        rcases par_ch h0 hp with rfl | rfl
        · split
          · next q => exact sharp_as _ _ q.2
          · exact sharp_r _
        · split
          · exact sharp_r _
          · next q => exact fun e => q ⟨hj, e⟩
      generalize chd sz p t = k at *
      have hkt : k ≠ t := by omega
      have hpk : par k = t := by rcases hch with rfl | rfl; exact (par_of t).1; exact (par_of t).2
      have hp2 : 32 ≤ (k + 1) * 2 ^ r := by
        have h1 : (t + 1) * 2 ^ (r + 1) = (2 * t + 2) * 2 ^ r := by rw [Nat.pow_succ, Nat.mul_comm (2 ^ r), ← Nat.mul_assoc]; congr 1; omega
        have h2 : (2 * t + 2) * 2 ^ r ≤ (k + 1) * 2 ^ r := Nat.mul_le_mul_right _ (by omega)
        omega
      refine hp_sDn r k _ hp2 c1 hs (by omega) ⟨fun j h0 hj hbj hne => ?_, fun j h0 hj hpj _ _ => ?_⟩
      · by_cases e1 : j = k
        · subst e1
          rw [swp_a p hkt, hpk, swp_b]
          exact sharp_as _ _ c2
        · by_cases e2 : j = t
          · subst e2
            rw [swp_b, swp_o p hne (by have := par_lt h0; omega)]
            exact H.2 k (by omega) c1 hpk h0 hbj
          · rw [swp_o p e1 e2]
            by_cases e3 : par j = t
            · rw [e3, swp_b]; exact hsib j h0 hj e3
            · rw [swp_o p hne e3]; exact H.1 j h0 hj hbj e3
      · rw [hpk, swp_b]
        have hj1 : j ≠ k := by have := par_lt h0; omega
        have hj2 : j ≠ t := by have := par_lt h0; omega
        rw [swp_o p hj1 hj2]
        have := H.1 j h0 hj (by omega) (by omega)
        rw [hpj] at this
        exact this
    · rw [if_neg c]
      intro j h0 hj hbj
      by_cases e : par j = t
      · rw [e]
        intro q
        unfold chd at c
        by_cases c2 : 2 * t + 2 < sz ∧ sharp (p (2 * t + 2)) (p (2 * t + 1)) = true
        · rw [if_pos c2] at c
          rcases par_ch h0 e with rfl | rfl
          · exact c ⟨c2.1, sharp_t _ _ _ c2.2 q⟩
          · exact c ⟨hj, q⟩
        · rw [if_neg c2] at c
          rcases par_ch h0 e with rfl | rfl
          · exact c ⟨hj, q⟩
          · have h1 : ¬ sharp (p (2 * t + 1)) (p t) = true := fun q1 => c ⟨by omega, q1⟩
            exact sharp_n _ _ _ (fun q2 => c2 ⟨hj, q2⟩) h1 q
      · exact H.1 j h0 hj hbj e
theorem hp_sUp {sz : Nat} : ∀ (r t : Nat) (p : Pens), t ≤ r → t < sz → HpU sz p t → HpB 0 sz (sUp r p t).1
  | 0, t, p, h, ht, H => fun j h0 hj _ => H.1 j h0 hj (by omega)
  | r + 1, t, p, h, ht, H => by
    rw [sUp]
    by_cases c : 0 < t ∧ sharp (p t) (p ((t - 1) / 2)) = true
    · rw [if_pos c]
      obtain ⟨c1, c2⟩ := c
      have c2' : sharp (p t) (p (par t)) = true := c2
      have hlt := par_lt c1
      show HpB 0 sz (sUp r (swp p t (par t)) (par t)).1
      refine hp_sUp r (par t) _ (by omega) (by omega) ⟨fun j h0 hj hne => ?_, fun j h0 hj hpj hm => ?_⟩
      · by_cases e1 : j = t
        · subst e1
          rw [swp_a p (by omega), swp_b]
          exact sharp_as _ _ c2'
        · rw [swp_o p e1 hne]
          by_cases e2 : par j = t
          · rw [e2, swp_a p (by omega)]
            exact H.2 j h0 hj e2 c1
          · by_cases e3 : par j = par t
            · rw [e3, swp_b]
              have := H.1 j h0 hj e1
              rw [e3] at this
              exact sharp_nl _ _ _ this c2'
            · rw [swp_o p e2 e3]
              exact H.1 j h0 hj e1
      · have hm2 := par_lt hm
        rw [swp_o p (show par (par t) ≠ t by omega) (show par (par t) ≠ par t by omega)]
        have hmm := H.1 (par t) hm (by omega) (by omega)
        by_cases e1 : j = t
        · subst e1
          rw [swp_a p (by omega)]
          exact hmm
        · have e2 : j ≠ par t := by have := par_lt h0; omega
          rw [swp_o p e1 e2]
          have := H.1 j h0 hj e1
          rw [hpj] at this
          exact sharp_n _ _ _ this hmm
    · rw [if_neg c]
      intro j h0 hj _
      by_cases e : j = t
      · subst e; exact fun q => c ⟨h0, q⟩
      · exact H.1 j h0 hj e
theorem hp_le {b a c : Nat} {p : Pens} (h : HpB b c p) (hac : a ≤ c) : HpB b a p := fun j h0 hj hb => h j h0 (by omega) hb
/-- a new last one is sifted up -/
theorem hp_add {sz : Nat} {p : Pens} {x : Pen} (h : HpB 0 sz p) : HpB 0 (sz + 1) (sUp sz (lput p sz x) sz).1 := by
  refine hp_sUp sz sz _ (Nat.le_refl _) (by omega) ⟨fun j h0 hj hne => ?_, fun j h0 hj hp _ => ?_⟩
  · have := par_lt h0
    rw [show lput p sz x j = p j from if_neg hne, show lput p sz x (par j) = p (par j) from if_neg (by omega)]
    exact h j h0 (by omega) (Nat.zero_le _)
  · have := par_lt h0; omega
/-- one is taken for another: what holds round it -/
theorem hp_lput {sz t : Nat} {p : Pens} {x : Pen} (h : HpB 0 sz p) : (∀ j, 0 < j → j < sz → j ≠ t → par j ≠ t → ¬ sharp (lput p t x j) (lput p t x (par j)) = true) ∧ ∀ j, 0 < j → j < sz → par j = t → 0 < t → ¬ sharp (lput p t x j) (lput p t x (par t)) = true := by
  refine ⟨fun j h0 hj h1 h2 => ?_, fun j h0 hj hp ht => ?_⟩
  · rw [show lput p t x j = p j from if_neg h1, show lput p t x (par j) = p (par j) from if_neg h2]
    exact h j h0 hj (Nat.zero_le _)
  · have h3 := par_lt h0
    have h4 := par_lt ht
    rw [show lput p t x j = p j from if_neg (by omega), show lput p t x (par t) = p (par t) from if_neg (by omega)]
    have h5 := h j h0 hj (Nat.zero_le _)
    rw [hp] at h5
    exact sharp_n _ _ _ h5 (h t ht (by omega) (Nat.zero_le _))
/-- a pen gets sharper -/
theorem hp_sharper {sz t : Nat} {p : Pens} {x : Pen} (h : HpB 0 sz p) (ht : t < sz) (hx : ¬ sharp (p t) x = true) : HpB 0 sz (sUp t (lput p t x) t).1 := by
  have g := hp_lput (t := t) (x := x) h
  refine hp_sUp t t _ (Nat.le_refl _) ht ⟨fun j h0 hj hne => ?_, g.2⟩
  by_cases e : par j = t
  · have h3 := par_lt h0
    rw [show lput p t x j = p j from if_neg hne, e, show lput p t x t = x from if_pos rfl]
    have h5 := h j h0 hj (Nat.zero_le _)
    rw [e] at h5
    exact sharp_n _ _ _ h5 hx
  · exact g.1 j h0 hj hne e
/-- a pen gets blunter -/
theorem hp_blunter {sz t : Nat} {p : Pens} {x : Pen} (h : HpB 0 sz p) (hs : sz ≤ 24) (ht : t < sz) (hx : ¬ sharp x (p t) = true) : HpB 0 sz (sDn sz 5 (lput p t x) t).1 := by
  have g := hp_lput (t := t) (x := x) h
  refine hp_sDn 5 t _ (by omega) ht hs (Nat.zero_le _) ⟨fun j h0 hj _ hne => ?_, fun j h0 hj hp h1 _ => g.2 j h0 hj hp h1⟩
  by_cases e : j = t
  · subst e
    have h3 := par_lt h0
    rw [show lput p j x j = x from if_pos rfl, show lput p j x (par j) = p (par j) from if_neg (by omega)]
    exact sharp_n _ _ _ hx (h j h0 hj (Nat.zero_le _))
  · exact g.1 j h0 hj e hne
theorem hp_d {sz t : Nat} {p : Pens} (h : HpB 0 sz p) (ht : t < sz) : HpD 0 sz p t := by
  refine ⟨fun j h0 hj hb _ => h j h0 hj hb, fun j h0 hj hp h1 _ => ?_⟩
  have h5 := h j h0 hj (Nat.zero_le _)
  rw [hp] at h5
  exact sharp_n _ _ _ h5 (h t h1 ht (Nat.zero_le _))
/-- one is taken for another, which goes its way up, then down -/
theorem hp_ud {sz t : Nat} {p : Pens} {x : Pen} (h : HpB 0 sz p) (hs : sz ≤ 24) (ht : t < sz) : HpB 0 sz (sDn sz 5 (sUp t (lput p t x) t).1 (sUp t (lput p t x) t).2.1).1 := by
  have g := hp_lput (t := t) (x := x) h
  have hle := sUp_le t (lput p t x) t
  by_cases c : 0 < t ∧ sharp (lput p t x t) (lput p t x (par t)) = true
  · have hU : HpU sz (lput p t x) t := by
      refine ⟨fun j h0 hj hne => ?_, g.2⟩
      by_cases e : par j = t
      · intro q
        rw [e] at q
        exact g.2 j h0 hj e c.1 (sharp_t _ _ _ q c.2)
      · exact g.1 j h0 hj hne e
    have h1 := hp_sUp t t _ (Nat.le_refl _) ht hU
    exact hp_sDn 5 _ _ (by omega) (by omega) hs (Nat.zero_le _) (hp_d h1 (by omega))
  · rw [show sUp t (lput p t x) t = (lput p t x, t, 0) from sUp_no c]
    refine hp_sDn 5 t _ (by omega) ht hs (Nat.zero_le _) ⟨fun j h0 hj _ hne => ?_, fun j h0 hj hp h1 _ => g.2 j h0 hj hp h1⟩
    by_cases e : j = t
    · subst e; exact fun q => c ⟨h0, q⟩
    · exact g.1 j h0 hj e hne
theorem hp_tOut {sz t : Nat} {p : Pens} (h : HpB 0 (sz + 1) p) (hs : sz < 24) : HpB 0 sz (tOut sz p t).1 := by
  unfold tOut
  by_cases c : t < sz
  · rw [if_pos c]
    exact hp_ud (hp_le h (by omega)) (by omega) c
  · rw [if_neg c]
    exact hp_le h (by omega)
theorem hp_ordF {sz : Nat} (hs : sz ≤ 24) : ∀ (k : Nat) (p : Pens), k ≤ sz → HpB k sz p → HpB 0 sz (ordF sz k p).1
  | 0, _, _, h => h
  | k + 1, p, hk, h => by
    rw [ordF]
    refine hp_ordF hs k _ (by omega) (hp_sDn 5 k p (by omega) (by omega) hs (Nat.le_refl _) ⟨fun j h0 hj hb hne => h j h0 hj (by omega), fun j h0 hj hp h1 hb => ?_⟩)
    have := par_lt h1; omega
theorem hp_ord {sz : Nat} {p : Pens} (hs : sz ≤ 24) : HpB 0 sz (ordF sz (sz / 2) p).1 := hp_ordF hs _ _ (by omega) (fun j h0 hj hb => by unfold par at hb; omega)
/-- the root is the sharpest one -/
theorem hp_min {sz : Nat} {p : Pens} (h : HpB 0 sz p) : ∀ (k j : Nat), j ≤ k → j < sz → ¬ sharp (p j) (p 0) = true
  | 0, j, hk, _ => by rw [show j = 0 by omega]; exact sharp_r _
  | k + 1, j, hk, hj => by
    by_cases e : j = 0
    · rw [e]; exact sharp_r _
    · have := par_lt (show 0 < j by omega)
      exact sharp_n _ _ _ (h j (by omega) hj (Nat.zero_le _)) (hp_min h k (par j) (by omega) (by omega))
theorem hp_isHp {p : Pens} {sz : Nat} (h : HpB 0 sz p) : ∀ (r i : Nat), 1 ≤ i → i + r ≤ sz → isHp p r i = true
  | 0, _, _, _ => rfl
  | r + 1, i, h1, h2 => by
    rw [isHp, if_neg (show ¬ sharp (p i) (p ((i - 1) / 2)) = true from h i (by omega) (by omega) (Nat.zero_le _)), hp_isHp h r (i + 1) (by omega) (by omega)]
/-- the pen that is at the root when k were taken out has rank k -/
theorem toN_rnk : ∀ (k : Nat) (N : Nt), N.1 ≤ 24 → k < N.1 → HpB 0 N.1 N.2.2 → (∀ x, cP (fun y => decide (y.1 = x)) N.2.2 N.1 ≤ 1) → ∃ j, j < N.1 ∧ (toN k N).2.2 0 = N.2.2 j ∧ rnk sharp N.2.2 N.1 (N.2.2 j) = k
  | 0, N, hs, hk, H, D => by
    refine ⟨0, hk, rfl, ?_⟩
    exact cnt_none _ _ (fun j _ h2 => hp_min H j j (Nat.le_refl _) (by omega))
  | k + 1, N, hs, hk, H, D => by
    obtain ⟨m, hm⟩ : ∃ m, N.1 = m + 1 := ⟨N.1 - 1, by omega⟩
    have hO : (outN N 0).1 = m := by show N.1 - 1 = m; omega
    have hO2 : (outN N 0).2.2 = (tOut m N.2.2 0).1 := by show (tOut (N.1 - 1) N.2.2 0).1 = _; rw [hm]; rfl
    have hc : ∀ P, cP P (outN N 0).2.2 (outN N 0).1 + b2n (P (N.2.2 0)) = cP P N.2.2 N.1 := fun P => by
      rw [hO, hO2, hm]; exact cP_tOut (Nat.zero_le _) (by omega)
    obtain ⟨j, hj, e, hr⟩ := toN_rnk k (outN N 0) (by omega) (by omega) (by rw [hO, hO2]; exact hp_tOut (by rw [← hm]; exact H) (by omega)) (fun x => by have := hc (fun y => decide (y.1 = x)); have := D x; omega)
    rw [hO] at hj
    -- the pen is one of N's
    have hin : 0 < cP (fun y => decide (y = (outN N 0).2.2 j)) N.2.2 N.1 := by
      have := hc (fun y => decide (y = (outN N 0).2.2 j))
      have h1 : 0 < cP (fun y => decide (y = (outN N 0).2.2 j)) (outN N 0).2.2 (outN N 0).1 := cnt_mem (k := j) (Nat.zero_le _) (by omega) (decide_eq_true rfl)
      omega
    obtain ⟨l, -, hl, el⟩ := cnt_ex hin
    have el' : N.2.2 l = (outN N 0).2.2 j := of_decide_eq_true el
    refine ⟨l, by omega, ?_, ?_⟩
    · rw [toN, e, el']
    · have h2 := hc (fun y => sharp y (N.2.2 l))
      rw [show cP (fun y => sharp y (N.2.2 l)) (outN N 0).2.2 (outN N 0).1 = k from by rw [el']; exact hr] at h2
      have hl0 : ((N.2.2 0).1 = (N.2.2 l).1) = False := eq_false (fun q => by
        have h3 := hc (fun y => decide (y.1 = (N.2.2 l).1))
        have h4 : 0 < cP (fun y => decide (y.1 = (N.2.2 l).1)) (outN N 0).2.2 (outN N 0).1 := cnt_mem (k := j) (Nat.zero_le _) (by omega) (decide_eq_true (by rw [el']))
        have h5 : b2n (decide ((N.2.2 0).1 = (N.2.2 l).1)) = 1 := if_pos (decide_eq_true q)
        have h6 := D (N.2.2 l).1
        omega)
      have hs0 : sharp (N.2.2 0) (N.2.2 l) = true := by
        have hn := hp_min H l l (Nat.le_refl _) (by omega)
        have hne : (N.2.2 0).1.toInt ≠ (N.2.2 l).1.toInt := fun q => by rw [← hl0]; exact Int32.toInt_inj.mp q
        rw [sharp_i'] at hn ⊢
        omega
      have h7 : b2n (sharp (N.2.2 0) (N.2.2 l)) = 1 := if_pos hs0
      show cP (fun y => sharp y (N.2.2 l)) N.2.2 N.1 = k + 1
      omega
/-- both ways of finding a rank agree -/
theorem hp_rkAg {N : Nt} (hs : N.1 ≤ 24) (H : HpB 0 N.1 N.2.2) (D : ∀ x, cP (fun y => decide (y.1 = x)) N.2.2 N.1 ≤ 1) {k : Nat} (hk : k < N.1) : (toN k N).2.2 0 = isort sharp (N.1 - 1) 1 N.2.2 k := by
  obtain ⟨j, hj, e, hr⟩ := toN_rnk k N hs hk H D
  have := (isort_rnk sharp_t sharp_as (tot_sharp (dst_of D)) hj).2
  rw [hr] at this
  rw [e, this]
theorem hp_rkAll {N : Nt} (hs : N.1 ≤ 24) (H : HpB 0 N.1 N.2.2) (D : ∀ x, cP (fun y => decide (y.1 = x)) N.2.2 N.1 ≤ 1) : ∀ (r k : Nat), k + r = N.1 → rkAg N r k = true
  | 0, _, _ => rfl
  | r + 1, k, h => by
    rw [rkAg, if_pos (by rw [hp_rkAg hs H D (by omega)]), hp_rkAll hs H D r (k + 1) (by omega)]
