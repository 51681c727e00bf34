/-! ===== pure: the count by recursion is the count by looking at all ===== -/
def aT (sz : Nat) (g : Nat → Nat) : Nat → Nat → Nat
  | 0, _ => 0
  | f + 1, i => if i < sz then g i + aT sz g f (2 * i + 1) + aT sz g f (2 * i + 2) else 0
theorem cnt_s (f : Nat → Bool) (r i : Nat) : cnt f (r + 1) i = b2n (f i) + cnt f r (i + 1) := rfl
theorem cnt_z (f : Nat → Bool) (i : Nat) : cnt f 0 i = 0 := rfl
theorem aT_cnt (P : Nat → Bool) (sz : Nat) (hs : sz ≤ 24) : aT sz (fun k => b2n (P k)) 5 0 = cnt P sz 0 := by
  have h : sz = 0 ∨ sz = 1 ∨ sz = 2 ∨ sz = 3 ∨ sz = 4 ∨ sz = 5 ∨ sz = 6 ∨ sz = 7 ∨ sz = 8 ∨ sz = 9 ∨ sz = 10 ∨ sz = 11 ∨ sz = 12 ∨ sz = 13 ∨ sz = 14 ∨ sz = 15 ∨ sz = 16 ∨ sz = 17 ∨ sz = 18 ∨ sz = 19 ∨ sz = 20 ∨ sz = 21 ∨ sz = 22 ∨ sz = 23 ∨ sz = 24 := by omega
  rcases h with rfl | rfl | rfl | rfl | rfl | rfl | rfl | rfl | rfl | rfl | rfl | rfl | rfl | rfl | rfl | rfl | rfl | rfl | rfl | rfl | rfl | rfl | rfl | rfl | rfl <;> simp only [aT, cnt_s, cnt_z, Nat.reduceMul, Nat.reduceAdd, Nat.reduceLT, ↓reduceIte, Nat.lt_irrefl, Nat.not_lt_zero, Nat.zero_add, Nat.mul_zero] <;> omega
theorem hp_date {sz : Nat} {p : Pens} {x : Int32} {j : Nat} (h : HpB 0 sz p) (h0 : 0 < j) (hj : j < sz) (hx : (p j).2.2 < x) : (p (par j)).2.2 < x := by
  have := h j h0 hj (Nat.zero_le _)
  rw [sharp_i'] at this
  rw [Int32.lt_iff_toInt_lt] at hx ⊢
  omega
theorem wB_0 {sz : Nat} {p : Pens} {x : Int32} (h : HpB 0 sz p) : ∀ (f i : Nat), wB sz p x 0 f i = aT sz (fun k => b2n (decide ((p k).2.2 < x))) f i := by
  have zero : ∀ (f i : Nat), i < sz → ¬ (p i).2.2 < x → aT sz (fun k => b2n (decide ((p k).2.2 < x))) f i = 0 := by
    intro f
    induction f with
    | zero => intro i _ _; rfl
    | succ f ih =>
      intro i hi hn
      rw [aT, if_pos hi]
      have hb : b2n (decide ((p i).2.2 < x)) = 0 := if_neg (by rw [decide_eq_false hn]; decide)
      have hc : ∀ c, 0 < c → par c = i → aT sz (fun k => b2n (decide ((p k).2.2 < x))) f c = 0 := fun c c0 hp => by
        by_cases hcs : c < sz
        · exact ih c hcs (fun q => hn (by rw [← hp]; exact hp_date h c0 hcs q))
        · cases f with
          | zero => rfl
          | succ f => rw [aT, if_neg hcs]
      try dsimp only
      rw [hb, hc _ (by omega) (par_of i).1, hc _ (by omega) (par_of i).2]
  intro f
  induction f with
  | zero => intro i; rfl
  | succ f ih =>
    intro i
    rw [wB]
    by_cases hi : i < sz
    · rw [if_pos hi]
      by_cases hx : (p i).2.2 < x
      · rw [if_pos hx, aT, if_pos hi, ih, ih]
        have hb : b2n (decide ((p i).2.2 < x)) = 1 := if_pos (decide_eq_true hx)
        try dsimp only
        rw [hb]
      · rw [if_neg hx, zero _ i hi hx]
    · rw [if_neg hi, aT, if_neg hi]
def lkB (p : Pens) (x : Int32) (k : Nat) : Bool := decide (k = 0) || decide ((p (par k)).2.2 < x)
theorem wB_1 {sz : Nat} {p : Pens} {x : Int32} (h : HpB 0 sz p) : ∀ (f i : Nat), lkB p x i = true → wB sz p x 1 f i = aT sz (fun k => b2n (lkB p x k)) f i := by
  have zero : ∀ (f i : Nat), ¬ lkB p x i = true → aT sz (fun k => b2n (lkB p x k)) f i = 0 := by
    intro f
    induction f with
    | zero => intro i _; rfl
    | succ f ih =>
      intro i hn
      rw [aT]
      by_cases hi : i < sz
      · rw [if_pos hi]
        have hb : b2n (lkB p x i) = 0 := if_neg hn
        have h1 : ¬ i = 0 ∧ ¬ (p (par i)).2.2 < x := by
          unfold lkB at hn
          simp at hn
          exact ⟨hn.1, fun q => absurd hn.2 (Int32.not_le.mpr q)⟩
        have hd : ¬ (p i).2.2 < x := fun q => h1.2 (hp_date h (by omega) hi q)
        have hc : ∀ c, 0 < c → par c = i → ¬ lkB p x c = true := fun c c0 hp q => by
          unfold lkB at q
          rw [hp, decide_eq_false (by omega), decide_eq_false hd] at q
          exact absurd q (by decide)
        try dsimp only
        rw [hb, ih _ (hc _ (by omega) (par_of i).1), ih _ (hc _ (by omega) (par_of i).2)]
      · rw [if_neg hi]
  intro f
  induction f with
  | zero => intro i _; rfl
  | succ f ih =>
    intro i hl
    have hb : b2n (lkB p x i) = 1 := if_pos hl
    rw [wB, aT]
    by_cases hi : i < sz
    · rw [if_pos hi, if_pos hi]
      try dsimp only
      rw [hb]
      by_cases hx : (p i).2.2 < x
      · have hc : ∀ c, par c = i → lkB p x c = true := fun c hp => by unfold lkB; rw [hp, decide_eq_true hx, Bool.or_true]
        rw [if_pos hx, ih _ (hc _ (par_of i).1), ih _ (hc _ (par_of i).2)]
      · have hc : ∀ c, 0 < c → par c = i → ¬ lkB p x c = true := fun c c0 hp q => by
          unfold lkB at q
          rw [hp, decide_eq_false (by omega), decide_eq_false hx] at q
          exact absurd q (by decide)
        rw [if_neg hx, zero _ _ (hc _ (by omega) (par_of i).1), zero _ _ (hc _ (by omega) (par_of i).2)]
    · rw [if_neg hi, if_neg hi]
theorem wB_cnt {sz : Nat} {p : Pens} (x : Int32) (h : HpB 0 sz p) (hs : sz ≤ 24) : wB sz p x 0 5 0 = cnt (fun k => decide ((p k).2.2 < x)) sz 0 := by
  rw [wB_0 h, aT_cnt (fun k => decide ((p k).2.2 < x)) sz hs]
theorem wB_lk {sz : Nat} {p : Pens} (x : Int32) (h : HpB 0 sz p) (hs : sz ≤ 24) : wB sz p x 1 5 0 = cnt (fun k => lkB p x k) sz 0 := by
  rw [wB_1 h 5 0 (by unfold lkB; rfl), aT_cnt (fun k => lkB p x k) sz hs]
theorem hp_ctAg {N : Nt} (hs : N.1 ≤ 24) (H : HpB 0 N.1 N.2.2) : ∀ (r t : Nat), ctAg N r t = true
  | 0, _ => rfl
  | r + 1, t => by rw [ctAg, if_pos (by rw [wB_cnt _ H hs]), hp_ctAg hs H r (t + 100)]
theorem hp_okN {N : Nt} (hs : N.1 ≤ 24) (H : HpB 0 N.1 N.2.2) (D : ∀ x, cP (fun y => decide (y.1 = x)) N.2.2 N.1 ≤ 1) : okN N := by
  refine ⟨?_, hp_rkAll hs H D _ 0 (by omega), hp_ctAg hs H 11 0⟩
  by_cases e : N.1 = 0
  · rw [e]; rfl
  · exact hp_isHp H _ 1 (Nat.le_refl _) (by omega)
