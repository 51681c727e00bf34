/-! ===== pure: counting pens ===== -/
def b2n (b : Bool) : Nat := if b = true then 1 else 0
theorem cnt_ext {f g : Nat → Bool} : ∀ (r i : Nat), (∀ k, i ≤ k → k < i + r → f k = g k) → cnt f r i = cnt g r i
  | 0, _, _ => rfl
  | r + 1, i, h => by
    rw [cnt, cnt, h i (Nat.le_refl _) (by omega), cnt_ext r (i + 1) (fun k h1 h2 => h k (by omega) (by omega))]
theorem cnt_split (f : Nat → Bool) : ∀ (r s i : Nat), cnt f (r + s) i = cnt f r i + cnt f s (i + r)
  | 0, s, i => by rw [Nat.zero_add, cnt, Nat.zero_add, Nat.add_zero]
  | r + 1, s, i => by
    rw [show r + 1 + s = (r + s) + 1 from by omega, cnt, cnt, cnt_split f r s (i + 1), show i + 1 + r = i + (r + 1) from by omega]
    omega
theorem cnt_one (f : Nat → Bool) (i : Nat) : cnt f 1 i = b2n (f i) := rfl
theorem cnt_last (f : Nat → Bool) (r : Nat) : cnt f (r + 1) 0 = cnt f r 0 + b2n (f r) := by
  rw [cnt_split, cnt_one, Nat.zero_add]
theorem cnt_all {f : Nat → Bool} : ∀ (r i : Nat), (∀ k, i ≤ k → k < i + r → f k = true) → cnt f r i = r
  | 0, _, _ => rfl
  | r + 1, i, h => by
    rw [cnt, if_pos (h i (Nat.le_refl _) (by omega)), cnt_all r (i + 1) (fun k h1 h2 => h k (by omega) (by omega))]; omega
theorem cnt_none {f : Nat → Bool} : ∀ (r i : Nat), (∀ k, i ≤ k → k < i + r → ¬ f k = true) → cnt f r i = 0
  | 0, _, _ => rfl
  | r + 1, i, h => by
    rw [cnt, if_neg (h i (Nat.le_refl _) (by omega)), cnt_none r (i + 1) (fun k h1 h2 => h k (by omega) (by omega))]
theorem cnt_mem {f : Nat → Bool} : ∀ {r i k : Nat}, i ≤ k → k < i + r → f k = true → 0 < cnt f r i
  | 0, _, _, h1, h2, _ => by omega
  | r + 1, i, k, h1, h2, h => by
    rw [cnt]
    by_cases e : k = i
    · subst e; rw [if_pos h]; omega
    · have := cnt_mem (i := i + 1) (r := r) (k := k) (by omega) (by omega) h
      omega
theorem cnt_ex {f : Nat → Bool} : ∀ {r i : Nat}, 0 < cnt f r i → ∃ k, i ≤ k ∧ k < i + r ∧ f k = true
  | 0, _, h => absurd h (Nat.lt_irrefl _)
  | r + 1, i, h => by
    rw [cnt] at h
    by_cases e : f i = true
    · exact ⟨i, Nat.le_refl _, by omega, e⟩
    · rw [if_neg e] at h
      obtain ⟨k, h1, h2, h3⟩ := cnt_ex (f := f) (r := r) (i := i + 1) (by omega)
      exact ⟨k, by omega, by omega, h3⟩
theorem cnt_zero {f : Nat → Bool} {r i k : Nat} (h : cnt f r i = 0) (h1 : i ≤ k) (h2 : k < i + r) : ¬ f k = true := fun e => by
  have := cnt_mem h1 h2 e; omega
theorem cnt_two {f : Nat → Bool} {r : Nat} {j k : Nat} (h : cnt f r 0 ≤ 1) (hj : j < r) (hk : k < r) (ej : f j = true) (ek : f k = true) : j = k := by
  have key : ∀ a b, a < b → b < r → f a = true → f b = true → False := fun a b hab hb ea eb => by
    obtain ⟨m, rfl⟩ : ∃ m, r = (a + 1) + m := ⟨r - (a + 1), by omega⟩
    rw [cnt_split, cnt_last, Nat.zero_add] at h
    have h1 : b2n (f a) = 1 := if_pos ea
    have h2 := cnt_mem (f := f) (i := a + 1) (r := m) (k := b) (by omega) (by omega) eb
    omega
  rcases Nat.lt_trichotomy j k with c | c | c
  · exact (key j k c hk ej ek).elim
  · exact c
  · exact (key k j c hj ek ej).elim
/-- a change at one place -/
theorem cnt_put {f g : Nat → Bool} {r t : Nat} (ht : t < r) (h : ∀ k, k ≠ t → g k = f k) : cnt g r 0 + b2n (f t) = cnt f r 0 + b2n (g t) := by
  obtain ⟨m, rfl⟩ : ∃ m, r = t + (1 + m) := ⟨r - (t + 1), by omega⟩
  rw [cnt_split g, cnt_split f, cnt_split g, cnt_split f, cnt_one, cnt_one, Nat.zero_add, cnt_ext (f := g) (g := f) t 0 (fun k _ h2 => h k (by omega)), cnt_ext (f := g) (g := f) m (t + 1) (fun k h1 _ => h k (by omega))]
  omega
/-- pens of a kind among the first sz -/
def cP (P : Pen → Bool) (p : Pens) (sz : Nat) : Nat := cnt (fun k => P (p k)) sz 0
theorem cP_le (P : Pen → Bool) (p : Pens) (sz : Nat) : cP P p sz ≤ sz := cnt_le _ _ _
theorem cP_last (P : Pen → Bool) (p : Pens) (sz : Nat) : cP P p (sz + 1) = cP P p sz + b2n (P (p sz)) := cnt_last _ _
theorem cP_ext {P : Pen → Bool} {p q : Pens} {sz : Nat} (h : ∀ k, k < sz → p k = q k) : cP P p sz = cP P q sz := cnt_ext _ _ (fun k _ h2 => by rw [h k (by omega)])
theorem cP_lput {P : Pen → Bool} {p : Pens} {sz t : Nat} {x : Pen} (ht : t < sz) : cP P (lput p t x) sz + b2n (P (p t)) = cP P p sz + b2n (P x) := by
  have h := cnt_put (f := fun k => P (p k)) (g := fun k => P (lput p t x k)) ht (fun k hk => by simp only [lput]; rw [if_neg hk])
  rw [show P (lput p t x t) = P x from by simp only [lput, if_pos]] at h
  exact h
theorem swp_lput (p : Pens) (a b : Nat) : swp p a b = lput (lput p a (p b)) b (p a) := by
  funext k
  simp only [swp, lput]
theorem cP_swp {P : Pen → Bool} {p : Pens} {sz a b : Nat} (ha : a < sz) (hb : b < sz) : cP P (swp p a b) sz = cP P p sz := by
  rw [swp_lput]
  have h1 := cP_lput (P := P) (p := lput p a (p b)) (x := p a) hb
  have h2 := cP_lput (P := P) (p := p) (x := p b) ha
  by_cases e : b = a
  · subst e
    rw [show lput p b (p b) b = p b from if_pos rfl] at h1
    omega
  · rw [show lput p a (p b) b = p b from if_neg e] at h1
    omega
theorem cP_sUp {P : Pen → Bool} {sz : Nat} : ∀ (f : Nat) (p : Pens) (t : Nat), t < sz → cP P (sUp f p t).1 sz = cP P p sz
  | 0, _, _, _ => rfl
  | f + 1, p, t, ht => by
    rw [sUp]; split
    · exact (cP_sUp f _ _ (by omega)).trans (cP_swp ht (by omega))
    · rfl
theorem cP_sDn {P : Pen → Bool} {sz : Nat} : ∀ (f : Nat) (p : Pens) (t : Nat), t < sz → cP P (sDn sz f p t).1 sz = cP P p sz
  | 0, _, _, _ => rfl
  | f + 1, p, t, ht => by
    rw [sDn]; split
    · next c => exact (cP_sDn f _ _ c.1).trans (cP_swp c.1 ht)
    · rfl
theorem cP_ordF {P : Pen → Bool} {sz : Nat} : ∀ (k : Nat) (p : Pens), k ≤ sz → cP P (ordF sz k p).1 sz = cP P p sz
  | 0, _, _ => rfl
  | k + 1, p, h => by
    rw [ordF]
    exact (cP_ordF k _ (by omega)).trans (cP_sDn 5 p k (by omega))
theorem cP_insB {P : Pen → Bool} {lt : Pen → Pen → Bool} {sz : Nat} : ∀ (j : Nat) (p : Pens), j < sz → cP P (insB lt j p) sz = cP P p sz
  | 0, _, _ => rfl
  | j + 1, p, h => by
    rw [insB]; split
    · exact (cP_insB j _ (by omega)).trans (cP_swp h (by omega))
    · rfl
theorem cP_isort {P : Pen → Bool} {lt : Pen → Pen → Bool} {sz : Nat} : ∀ (r i : Nat) (p : Pens), i + r ≤ sz → cP P (isort lt r i p) sz = cP P p sz
  | 0, _, _, _ => rfl
  | r + 1, i, p, h => by
    rw [isort]
    exact (cP_isort r _ _ (by omega)).trans (cP_insB i p (by omega))
theorem cP_tOut {P : Pen → Bool} {p : Pens} {sz i : Nat} (hi : i ≤ sz) (hs : sz < 24) : cP P (tOut sz p i).1 sz + b2n (P (p i)) = cP P p (sz + 1) := by
  rw [cP_last]
  unfold tOut
  by_cases c : i < sz
  · rw [if_pos c]
    have hle := sUp_le i (lput p i (p sz)) i
    dsimp only
    rw [cP_sDn _ _ _ (by omega), cP_sUp _ _ _ c]
    exact cP_lput c
  · rw [if_neg c, show i = sz from by omega]
theorem cP_dF {P : Pen → Bool} (c : Fin 65536) : ∀ (r i k : Nat) (p : Pens), k ≤ i → cP P (dF c r i k p).1 (dF c r i k p).2 = cP P p k + cnt (fun j => P (p j) && !decide ((p j).2.1 = c)) r i
  | 0, _, _, _, _ => (Nat.add_zero _).symm
  | r + 1, i, k, p, h => by
    rw [dF, cnt]
    by_cases e : (p i).2.1 = c
    · rw [if_pos e, cP_dF c r (i + 1) k p (by omega), if_neg (by rw [decide_eq_true e]; simp), Nat.zero_add]
    · rw [if_neg e, cP_dF c r (i + 1) (k + 1) _ (by omega), cP_last, show lput p k (p i) k = p i from if_pos rfl]
      have h1 : cP P (lput p k (p i)) k = cP P p k := cP_ext (fun j hj => if_neg (by omega))
      have h2 : cnt (fun j => P (lput p k (p i) j) && !decide ((lput p k (p i) j).2.1 = c)) r (i + 1) = cnt (fun j => P (p j) && !decide ((p j).2.1 = c)) r (i + 1) := cnt_ext _ _ (fun j h1 _ => by rw [show lput p k (p i) j = p j from if_neg (by omega)])
      rw [h1, h2]
      have h3 : (if (P (p i) && !decide ((p i).2.1 = c)) = true then 1 else 0) = b2n (P (p i)) := by
        rw [decide_eq_false e]; simp [b2n]
      rw [h3]; omega
theorem dF_cnt (c : Fin 65536) (r i k : Nat) (p : Pens) (h : k ≤ i) : (dF c r i k p).2 = k + cnt (fun j => !decide ((p j).2.1 = c)) r i := by
  have h1 := cP_dF (P := fun _ => true) c r i k p h
  have h2 : cP (fun _ => true) (dF c r i k p).1 (dF c r i k p).2 = (dF c r i k p).2 := cnt_all _ _ (fun _ _ _ => rfl)
  have h3 : cP (fun _ => true) p k = k := cnt_all _ _ (fun _ _ _ => rfl)
  rw [h2, h3] at h1
  simpa using h1
theorem swp_a (p : Pens) {a b : Nat} (h : a ≠ b) : swp p a b a = p b := by unfold swp; rw [if_neg h, if_pos rfl]
theorem swp_b (p : Pens) (a b : Nat) : swp p a b b = p a := by unfold swp; rw [if_pos rfl]
theorem swp_o (p : Pens) {a b k : Nat} (h1 : k ≠ a) (h2 : k ≠ b) : swp p a b k = p k := by unfold swp; rw [if_neg h2, if_neg h1]
/-- strictly sorted -/
def Srt (lt : Pen → Pen → Bool) (m : Nat) (p : Pens) : Prop := ∀ a b, a < b → b < m → lt (p a) (p b) = true
def Tot (lt : Pen → Pen → Bool) (m : Nat) (p : Pens) : Prop := ∀ a b, a < m → b < m → a ≠ b → lt (p a) (p b) = true ∨ lt (p b) (p a) = true
def trn (a b k : Nat) : Nat := if k = b then a else if k = a then b else k
theorem swp_trn (p : Pens) (a b k : Nat) : swp p a b k = p (trn a b k) := by
  unfold swp trn; split
  · rfl
  · split <;> rfl
theorem trn_lt {a b k m : Nat} (ha : a < m) (hb : b < m) (hk : k < m) : trn a b k < m := by
  unfold trn; split
  · exact ha
  · split
    · exact hb
    · exact hk
theorem trn_inj {a b i j : Nat} (h : trn a b i = trn a b j) : i = j := by
  unfold trn at h
  split at h <;> split at h <;> (try split at h) <;> (try split at h) <;> omega
theorem tot_swp {lt : Pen → Pen → Bool} {m a b : Nat} {p : Pens} (h : Tot lt m p) (ha : a < m) (hb : b < m) : Tot lt m (swp p a b) := by
  intro i j hi hj hij
  rw [swp_trn, swp_trn]
  exact h _ _ (trn_lt ha hb hi) (trn_lt ha hb hj) (fun e => hij (trn_inj e))
theorem insB_out (lt : Pen → Pen → Bool) : ∀ (j : Nat) (p : Pens) (k : Nat), j < k → insB lt j p k = p k
  | 0, _, _, _ => rfl
  | j + 1, p, k, h => by
    rw [insB]; split
    · rw [insB_out lt j _ k (by omega)]
      simp only [swp]; rw [if_neg (by omega), if_neg (by omega)]
    · rfl
theorem insB_mem (lt : Pen → Pen → Bool) : ∀ (j : Nat) (p : Pens) (k : Nat), k ≤ j → ∃ l, l ≤ j ∧ insB lt j p k = p l
  | 0, _, k, h => ⟨k, h, rfl⟩
  | j + 1, p, k, h => by
    rw [insB]; split
    · by_cases e : k ≤ j
      · obtain ⟨l, h1, h2⟩ := insB_mem lt j (swp p (j + 1) j) k e
        rw [h2, swp_trn]
        exact ⟨_, by unfold trn; split <;> (try split) <;> omega, rfl⟩
      · rw [insB_out lt j _ k (by omega), swp_trn]
        exact ⟨_, by unfold trn; split <;> (try split) <;> omega, rfl⟩
    · exact ⟨k, h, rfl⟩
theorem tot_insB {lt : Pen → Pen → Bool} {m : Nat} : ∀ (j : Nat) (p : Pens), Tot lt m p → j < m → Tot lt m (insB lt j p)
  | 0, _, h, _ => h
  | j + 1, p, h, hj => by
    rw [insB]; split
    · exact tot_insB j _ (tot_swp h hj (by omega)) (by omega)
    · exact h
theorem srt_insB {lt : Pen → Pen → Bool} (tr : ∀ a b c, lt a b = true → lt b c = true → lt a c = true) {m : Nat} : ∀ (j : Nat) (p : Pens), Tot lt m p → j < m → Srt lt j p → Srt lt (j + 1) (insB lt j p)
  | 0, _, _, _, _ => fun a b h1 h2 => by omega
  | j + 1, p, h, hj, s => by
    rw [insB]
    by_cases c : lt (p (j + 1)) (p j) = true
    · rw [if_pos c]
      have q0 : swp p (j + 1) j (j + 1) = p j := swp_a p (by omega)
      have q1 : swp p (j + 1) j j = p (j + 1) := swp_b p _ _
      have qk : ∀ k, k < j → swp p (j + 1) j k = p k := fun k hk => swp_o p (by omega) (by omega)
      have ih := srt_insB tr j (swp p (j + 1) j) (tot_swp h hj (by omega)) (by omega) (fun a b h1 h2 => by rw [qk a (by omega), qk b h2]; exact s a b h1 (by omega))
      intro a b h1 h2
      by_cases e : b ≤ j
      · exact ih a b h1 (by omega)
      · obtain rfl : b = j + 1 := by omega
        rw [insB_out lt j _ (j + 1) (by omega), q0]
        obtain ⟨l, l1, l2⟩ := insB_mem lt j (swp p (j + 1) j) a (by omega)
        rw [l2]
        by_cases e2 : l = j
        · subst e2; rw [q1]; exact c
        · rw [qk l (by omega)]; exact s l j (by omega) (by omega)
    · rw [if_neg c]
      have c' : lt (p j) (p (j + 1)) = true := (h j (j + 1) (by omega) hj (by omega)).resolve_right c
      intro a b h1 h2
      by_cases e : b ≤ j
      · exact s a b h1 (by omega)
      · obtain rfl : b = j + 1 := by omega
        by_cases e2 : a = j
        · subst e2; exact c'
        · exact tr _ _ _ (s a j (by omega) (by omega)) c'
theorem srt_isort {lt : Pen → Pen → Bool} (tr : ∀ a b c, lt a b = true → lt b c = true → lt a c = true) {m : Nat} : ∀ (r i : Nat) (p : Pens), Tot lt m p → i + r = m → Srt lt i p → Srt lt m (isort lt r i p)
  | 0, i, p, _, hi, s => by rw [← hi]; exact s
  | r + 1, i, p, h, hi, s => by
    rw [isort]
    exact srt_isort tr r (i + 1) _ (tot_insB i p h (by omega)) (by omega) (srt_insB tr i p h (by omega) s)
/-- the rank of a pen among the first sz -/
def rnk (lt : Pen → Pen → Bool) (p : Pens) (sz : Nat) (x : Pen) : Nat := cP (fun y => lt y x) p sz
theorem rnk_srt {lt : Pen → Pen → Bool} (asy : ∀ a b, lt a b = true → ¬ lt b a = true) {m t : Nat} {q : Pens} (s : Srt lt m q) (ht : t < m) : rnk lt q m (q t) = t := by
  obtain ⟨r, rfl⟩ : ∃ r, m = t + r := ⟨m - t, by omega⟩
  unfold rnk cP
  rw [cnt_split, cnt_all t 0 (fun k _ h2 => s k t (by omega) (by omega)), cnt_none r (0 + t) (fun k h1 h2 e => ?_), Nat.add_zero]
  by_cases e2 : k = t
  · subst e2; exact asy _ _ e e
  · exact asy _ _ e (s t k (by omega) (by omega))
theorem cP_mem {p q : Pens} {sz j : Nat} (h : ∀ P, cP P q sz = cP P p sz) (hj : j < sz) : ∃ t, t < sz ∧ q t = p j := by
  have h1 : 0 < cP (fun y => decide (y = p j)) p sz := cnt_mem (k := j) (Nat.zero_le _) (by omega) (decide_eq_true rfl)
  rw [← h] at h1
  obtain ⟨t, -, h2, h3⟩ := cnt_ex h1
  exact ⟨t, by omega, of_decide_eq_true h3⟩
theorem isort_rnk {lt : Pen → Pen → Bool} (tr : ∀ a b c, lt a b = true → lt b c = true → lt a c = true) (asy : ∀ a b, lt a b = true → ¬ lt b a = true) {m j : Nat} {p : Pens} (h : Tot lt m p) (hj : j < m) : rnk lt p m (p j) < m ∧ isort lt (m - 1) 1 p (rnk lt p m (p j)) = p j := by
  have hc : ∀ P, cP P (isort lt (m - 1) 1 p) m = cP P p m := fun P => cP_isort (m - 1) 1 p (by omega)
  have s : Srt lt m (isort lt (m - 1) 1 p) := srt_isort tr (m - 1) 1 p h (by omega) (fun a b h1 h2 => by omega)
  obtain ⟨t, ht, e⟩ := cP_mem hc hj
  have e2 : rnk lt p m (p j) = t := by
    have := rnk_srt asy s ht
    rw [e] at this
    unfold rnk at this ⊢
    rw [← hc]
    exact this
  rw [e2]
  exact ⟨ht, e⟩
theorem isort_at {lt : Pen → Pen → Bool} (tr : ∀ a b c, lt a b = true → lt b c = true → lt a c = true) (asy : ∀ a b, lt a b = true → ¬ lt b a = true) {m t : Nat} {p : Pens} (h : Tot lt m p) (ht : t < m) : ∃ j, j < m ∧ isort lt (m - 1) 1 p t = p j ∧ rnk lt p m (p j) = t := by
  have hc : ∀ P, cP P (isort lt (m - 1) 1 p) m = cP P p m := fun P => cP_isort (m - 1) 1 p (by omega)
  have s : Srt lt m (isort lt (m - 1) 1 p) := srt_isort tr (m - 1) 1 p h (by omega) (fun a b h1 h2 => by omega)
  obtain ⟨j, hj, e⟩ := cP_mem (fun P => (hc P).symm) ht
  refine ⟨j, hj, e.symm, ?_⟩
  have := rnk_srt asy s ht
  rw [← e] at this
  unfold rnk at this ⊢
  rw [← hc]
  exact this
/-- no two of the first sz have one number -/
def Dst (sz : Nat) (p : Pens) : Prop := ∀ a b, a < sz → b < sz → (p a).1 = (p b).1 → a = b
theorem sharp_i' (a b : Pen) : sharp a b = true ↔ a.2.2.toInt < b.2.2.toInt ∨ (a.2.2.toInt = b.2.2.toInt ∧ a.1.toInt < b.1.toInt) := by
  unfold sharp
  rw [Bool.or_eq_true, Bool.and_eq_true, decide_eq_true_iff, decide_eq_true_iff, decide_eq_true_iff, Int32.lt_iff_toInt_lt, Int32.lt_iff_toInt_lt, ← Int32.toInt_inj]
theorem numLt_i (a b : Pen) : numLt a b = true ↔ a.1.toInt < b.1.toInt := by
  unfold numLt
  rw [decide_eq_true_iff, Int32.lt_iff_toInt_lt]
theorem tot_sharp {sz : Nat} {p : Pens} (h : Dst sz p) : Tot sharp sz p := by
  intro a b ha hb hab
  rw [sharp_i', sharp_i']
  have : (p a).1.toInt ≠ (p b).1.toInt := fun e => hab (h a b ha hb (Int32.toInt_inj.mp e))
  omega
theorem tot_numLt {sz : Nat} {p : Pens} (h : Dst sz p) : Tot numLt sz p := by
  intro a b ha hb hab
  rw [numLt_i, numLt_i]
  have : (p a).1.toInt ≠ (p b).1.toInt := fun e => hab (h a b ha hb (Int32.toInt_inj.mp e))
  omega
theorem numLt_tr (a b c : Pen) (h1 : numLt a b = true) (h2 : numLt b c = true) : numLt a c = true := by rw [numLt_i] at *; omega
theorem numLt_as (a b : Pen) (h1 : numLt a b = true) : ¬ numLt b a = true := by rw [numLt_i] at *; omega
theorem sharp_as (a b : Pen) (h1 : sharp a b = true) : ¬ sharp b a = true := by rw [sharp_i'] at *; omega
theorem sharp_t (a b c : Pen) (h1 : sharp a b = true) (h2 : sharp b c = true) : sharp a c = true := by rw [sharp_i'] at *; omega
theorem dst_of {sz : Nat} {p : Pens} (h : ∀ x, cP (fun y => decide (y.1 = x)) p sz ≤ 1) : Dst sz p := fun a b ha hb e =>
  cnt_two (h (p b).1) ha hb (decide_eq_true e) (decide_eq_true rfl)
