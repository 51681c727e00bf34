/-! ===== pure: the class's forms and the model's words come to the same ===== -/
theorem ptS_le {sg : Nat → Fin 65536} {len : Nat} {p : Pt} {s : MS} (h : s.2 ≤ len) : s.2 ≤ (ptS sg len p s).2 ∧ (ptS sg len p s).2 ≤ len := by
  unfold ptS; split
  · exact stL_le h
  · split
    · exact stF_le h
    · exact stN_le h
theorem rnS_le {sg : Nat → Fin 65536} {len : Nat} : ∀ (ps : List Pt) (s : MS), s.2 ≤ len → s.2 ≤ (rnS sg len ps s).2 ∧ (rnS sg len ps s).2 ≤ len
  | [], s, h => ⟨Nat.le_refl _, h⟩
  | p :: ps, s, h => by
    have a := ptS_le (sg := sg) (p := p) h
    have b := rnS_le (sg := sg) ps (ptS sg len p s) a.2
    rw [rnS]; omega
def mlen : List Pt → Nat
  | [] => 0
  | p :: ps => (if p.1 = 0 then p.2.length else 1) + mlen ps
theorem ptS_min {sg : Nat → Fin 65536} {len t : Nat} {p : Pt} (ht : t ≤ len) (ok : OkPt p) (h : (ptS sg len p (false, t)).1 = false) : t + (if p.1 = 0 then p.2.length else 1) ≤ (ptS sg len p (false, t)).2 := by
  unfold ptS at h ⊢
  split
  · rename_i e
    rw [if_pos e] at h
    have h' : (!(litL sg len p.2 t).1) = false := h
    have := (litL_le (sg := sg) p.2 t ht).2.2 (by simpa using h')
    exact Nat.le_of_eq this.symm
  · rename_i e
    rw [if_neg e] at h
    split
    · rename_i e2
      rw [if_pos e2] at h
      have e1 : stF sg len (false, t) = if t < len ∧ inB (nI (sg t).val) 97 104 = true then (false, t + 1) else (true, t) := if_neg nff
      rw [e1] at h ⊢
      by_cases c : t < len ∧ inB (nI (sg t).val) 97 104 = true
      · rw [if_pos c]; exact Nat.le_refl _
      · rw [if_neg c] at h; cases h
    · rename_i e2
      rw [if_neg e2] at h
      have e1 : stN sg len p.1 (false, t) = (decide (¬ t < (rdM sg len p.1 t).1), (rdM sg len p.1 t).1) := if_neg nff
      rw [e1] at h ⊢
      have := of_decide_eq_false h
      show t + 1 ≤ (rdM sg len p.1 t).1
      omega
theorem rnS_min {sg : Nat → Fin 65536} {len : Nat} : ∀ (ps : List Pt) (t : Nat), t ≤ len → (∀ p, p ∈ ps → OkPt p) → (rnS sg len ps (false, t)).1 = false → t + mlen ps ≤ (rnS sg len ps (false, t)).2
  | [], t, h, _, _ => Nat.le_refl _
  | p :: ps, t, h, ok, q => by
    rw [rnS] at q ⊢
    cases e : (ptS sg len p (false, t)).1 with
    | true => rw [ms_eta _ _ e, rnS_w] at q; cases q
    | false =>
      have a := ptS_min h (ok p List.mem_cons_self) e
      have l := (ptS_le (sg := sg) (p := p) (s := (false, t)) h).2
      rw [ms_eta _ _ e] at q ⊢
      have b := rnS_min ps _ l (fun p hp => ok p (List.mem_cons_of_mem _ hp)) q
      unfold mlen
      omega
def flC (j : Nat) : Nat := if j < 2 then 112 else if j = 2 then 115 else if j = 3 then 98 else if j = 4 then 117 else if j < 7 then 109 else if j = 7 then 111 else if j = 8 then 114 else 105
theorem ten {j : Nat} (h : j < 10) : j = 0 ∨ j = 1 ∨ j = 2 ∨ j = 3 ∨ j = 4 ∨ j = 5 ∨ j = 6 ∨ j = 7 ∨ j = 8 ∨ j = 9 := by omega
theorem KP_min {j : Nat} (h : j < 10) : 6 ≤ mlen (KP j) := by
  rcases ten h with e | e | e | e | e | e | e | e | e | e <;> subst e <;> decide
theorem KP_no {sg : Nat → Fin 65536} {len t j : Nat} (h : j < 10) (hn : bhd sg len t ≠ nI (flC j)) : rnS sg len (KP j) (false, t) = (true, t) := by
  rcases ten h with e | e | e | e | e | e | e | e | e | e <;> subst e <;> exact rnS_no hn (by decide)
theorem rnS_step {sg : Nat → Fin 65536} {len t c : Nat} {l : List Nat} {ps : List Pt} (h : bhd sg len t = nI c) (hc : c < 65536) : rnS sg len ((0, c :: l) :: ps) (false, t) = rnS sg len ((0, l) :: ps) (false, t + 1) := by
  have e : ptS sg len (0, c :: l) (false, t) = ptS sg len (0, l) (false, t + 1) := by
    show stL sg len (c :: l) (false, t) = stL sg len l (false, t + 1)
    rw [stL_c, if_pos ((bhd_eq hc).mp h)]
  show rnS sg len ps (ptS sg len (0, c :: l) (false, t)) = rnS sg len ps (ptS sg len (0, l) (false, t + 1))
  rw [e]
theorem bhd_lt {sg : Nat → Fin 65536} {len t c : Nat} (h : bhd sg len t = nI c) (hc : c < 65536) : t < len := ((bhd_eq hc).mp h).1
theorem kOf_lt (sg : Nat → Fin 65536) (len t : Nat) : kOf sg len t < 10 := by
  unfold kOf; repeat' split
  all_goals decide
/-- the other kinds fail, and go no farther -/
theorem oth {sg : Nat → Fin 65536} {len t j : Nat} (ht : t ≤ len) (h : j < 10) (hn : j ≠ kOf sg len t) : (rnS sg len (KP j) (false, t)).1 = true ∧ (rnS sg len (KP j) (false, t)).2 ≤ (rnS sg len (KP (kOf sg len t)) (false, t)).2 := by
  by_cases e : bhd sg len t = nI (flC j)
  · have hlt : t < len := bhd_lt e (by unfold flC; (repeat' split) <;> decide)
    rcases ten h with q | q | q | q | q | q | q | q | q | q
    · subst q
      have e : bhd sg len t = nI 112 := e
      by_cases r : bhd sg len (t + 1) = nI 108
      · exact absurd (by unfold kOf; rw [if_pos e, if_pos r]) hn
      · have hK : kOf sg len t = 1 := by unfold kOf; rw [if_pos e, if_neg r]
        rw [hK]
        have e1 : rnS sg len (KP 0) (false, t) = (true, t + 1) := (rnS_step (c := 112) e (by decide)).trans (rnS_no r (by decide))
        have e2 : rnS sg len (KP 1) (false, t) = _ := rnS_step (c := 112) e (by decide)
        have := (rnS_le (sg := sg) (len := len) ((0, [105, 99, 107, 32]) :: [(1, [])]) (false, t + 1) hlt).1
        rw [e1, e2]
        exact ⟨rfl, this⟩
    · subst q
      have e : bhd sg len t = nI 112 := e
      by_cases r : bhd sg len (t + 1) = nI 108
      · have hK : kOf sg len t = 0 := by unfold kOf; rw [if_pos e, if_pos r]
        rw [hK]
        have e1 : rnS sg len (KP 1) (false, t) = (true, t + 1) := (rnS_step (c := 112) e (by decide)).trans (rnS_no (c := 105) (by rw [r]; decide) (by decide))
        have e2 : rnS sg len (KP 0) (false, t) = _ := rnS_step (c := 112) e (by decide)
        have := (rnS_le (sg := sg) (len := len) ((0, [108, 97, 110, 116, 32]) :: [(1, []), (7, []), (0, [64]), (3, [])]) (false, t + 1) hlt).1
        rw [e1, e2]
        exact ⟨rfl, this⟩
      · exact absurd (by unfold kOf; rw [if_pos e, if_neg r]) hn
    · subst q
      have e : bhd sg len t = nI 115 := e
      exact absurd (by unfold kOf; rw [e]; rfl) hn
    · subst q
      have e : bhd sg len t = nI 98 := e
      exact absurd (by unfold kOf; rw [e]; rfl) hn
    · subst q
      have e : bhd sg len t = nI 117 := e
      exact absurd (by unfold kOf; rw [e]; rfl) hn
    · subst q
      have e : bhd sg len t = nI 109 := e
      by_cases r : bhd sg len (t + 1) = nI 101
      · have hK : kOf sg len t = 6 := by unfold kOf; rw [e, if_pos r]; rfl
        rw [hK]
        have e1 : rnS sg len (KP 5) (false, t) = (true, t + 1) := (rnS_step (c := 109) e (by decide)).trans (rnS_no (c := 111) (by rw [r]; decide) (by decide))
        have e2 : rnS sg len (KP 6) (false, t) = _ := rnS_step (c := 109) e (by decide)
        have := (rnS_le (sg := sg) (len := len) ((0, [101, 114, 103, 101, 32]) :: [(1, []), (0, [62]), (1, [])]) (false, t + 1) hlt).1
        rw [e1, e2]
        exact ⟨rfl, this⟩
      · exact absurd (by unfold kOf; rw [e, if_neg r]; rfl) hn
    · subst q
      have e : bhd sg len t = nI 109 := e
      by_cases r : bhd sg len (t + 1) = nI 101
      · exact absurd (by unfold kOf; rw [e, if_pos r]; rfl) hn
      · have hK : kOf sg len t = 5 := by unfold kOf; rw [e, if_neg r]; rfl
        rw [hK]
        have e1 : rnS sg len (KP 6) (false, t) = (true, t + 1) := (rnS_step (c := 109) e (by decide)).trans (rnS_no r (by decide))
        have e2 : rnS sg len (KP 5) (false, t) = _ := rnS_step (c := 109) e (by decide)
        have := (rnS_le (sg := sg) (len := len) ((0, [111, 118, 101, 32]) :: [(3, []), (0, [62]), (1, [])]) (false, t + 1) hlt).1
        rw [e1, e2]
        exact ⟨rfl, this⟩
    · subst q
      have e : bhd sg len t = nI 111 := e
      exact absurd (by unfold kOf; rw [e]; rfl) hn
    · subst q
      have e : bhd sg len t = nI 114 := e
      exact absurd (by unfold kOf; rw [e]; rfl) hn
    · subst q
      have e : bhd sg len t = nI 105 := e
      exact absurd (by unfold kOf; rw [e]; rfl) hn
  · rw [KP_no h e]
    exact ⟨rfl, (rnS_le (sg := sg) (KP (kOf sg len t)) (false, t) ht).1⟩
/-- one kind's form -/
theorem kd {sg : Nat → Fin 65536} {len t j : Nat} (c : Cmd) : (pForm sg len (kF j) (kL j) 0 (t, c)).1 = !(rnS sg len (KP j) (false, t)).1 ∧ (pForm sg len (kF j) (kL j) 0 (t, c)).2.1 = (rnS sg len (KP j) (false, t)).2 ∧ ((rnS sg len (KP j) (false, t)).1 = false → (pForm sg len (kF j) (kL j) 0 (t, c)).2.2 = rnC sg len (KP j) (false, t) c) := by
  rw [pForm_K]; exact fm_all (KP j) t c (KP_ok j)
theorem pk_bad {sg : Nat → Fin 65536} {len t E : Nat} (hb : ∀ j, j < 10 → (rnS sg len (KP j) (false, t)).1 = true ∧ (rnS sg len (KP j) (false, t)).2 ≤ E) : ∀ (r k er : Nat) (q : PS), k + r = 10 → er ≤ E → (er = E ∨ ∃ j, k ≤ j ∧ j < 10 ∧ (rnS sg len (KP j) (false, t)).2 = E) → (pKinds sg len t kL kF r k er q).1 = false ∧ (pKinds sg len t kL kF r k er q).2.1 = E
  | 0, k, er, q, hk, he, hx => ⟨rfl, by
    rcases hx with e | ⟨j, h1, h2, -⟩
    · exact e
    · omega⟩
  | r + 1, k, er, q, hk, he, hx => by
    have o := kd (sg := sg) (len := len) (t := t) (j := k) (k, q.2.2.1, q.2.2.2.1, q.2.2.2.2.1, 0)
    have b := hb k (by omega)
    rw [b.1] at o
    rw [pKinds, if_neg (by rw [o.1]; decide), o.2.1]
    refine pk_bad hb r (k + 1) _ _ (by omega) (by omega) ?_
    rcases hx with e | ⟨j, h1, h2, h3⟩
    · exact .inl (by omega)
    · by_cases e : j = k
      · subst e; exact .inl (by omega)
      · exact .inr ⟨j, by omega, h2, h3⟩
theorem pk_good {sg : Nat → Fin 65536} {len t κ : Nat} (h : κ < 10) (hg : (rnS sg len (KP κ) (false, t)).1 = false) (hb : ∀ j, j < 10 → j ≠ κ → (rnS sg len (KP j) (false, t)).1 = true) : ∀ (r k er : Nat) (q : PS), k + r = 10 → k ≤ κ → (pKinds sg len t kL kF r k er q).1 = true ∧ (pKinds sg len t kL kF r k er q).2.2.1 = (rnS sg len (KP κ) (false, t)).2 ∧ ∃ a b c, (pKinds sg len t kL kF r k er q).2.2.2 = rnC sg len (KP κ) (false, t) (κ, a, b, c, 0)
  | 0, k, er, q, hk, he => by omega
  | r + 1, k, er, q, hk, he => by
    have o := kd (sg := sg) (len := len) (t := t) (j := k) (k, q.2.2.1, q.2.2.2.1, q.2.2.2.2.1, 0)
    by_cases e : k = κ
    · subst e
      rw [hg] at o
      rw [pKinds, if_pos (show (pForm sg len (kF k) (kL k) 0 (t, (k, q.2.2.1, q.2.2.2.1, q.2.2.2.2.1, 0))).1 = true from o.1)]
      exact ⟨rfl, o.2.1, _, _, _, o.2.2 rfl⟩
    · have b := hb k (by omega) e
      rw [b] at o
      rw [pKinds, if_neg (by rw [o.1]; decide)]
      exact pk_good h hg hb r (k + 1) _ _ (by omega) (by omega)
/-- what the class reads, told by the model's way -/
theorem pCmd_m {sg : Nat → Fin 65536} {len t : Nat} {c : Cmd} (ht : t ≤ len) :
    ((rnS sg len (KP (kOf sg len t)) (false, t)).1 = true → (pCmd sg len kL kF (t, c)).1 = false ∧ (pCmd sg len kL kF (t, c)).2.1 = (rnS sg len (KP (kOf sg len t)) (false, t)).2) ∧
    ((rnS sg len (KP (kOf sg len t)) (false, t)).1 = false → (pCmd sg len kL kF (t, c)).1 = true ∧ (pCmd sg len kL kF (t, c)).2.2.1 = (rnS sg len (KP (kOf sg len t)) (false, t)).2 ∧ ∃ a b e, (pCmd sg len kL kF (t, c)).2.2.2 = rnC sg len (KP (kOf sg len t)) (false, t) (kOf sg len t, a, b, e, 0)) := by
  have hk := kOf_lt sg len t
  have l := (rnS_le (sg := sg) (len := len) (KP (kOf sg len t)) (false, t) ht).1
  refine ⟨fun h => ?_, fun h => ?_⟩
  · refine pk_bad (E := (rnS sg len (KP (kOf sg len t)) (false, t)).2) (fun j hj => ?_) 10 0 t (t, c) (by omega) l (.inr ⟨_, Nat.zero_le _, hk, rfl⟩)
    by_cases e : j = kOf sg len t
    · rw [e]; exact ⟨h, Nat.le_refl _⟩
    · exact oth ht hj e
  · exact pk_good hk h (fun j hj e => (oth ht hj e).1) 10 0 t (t, c) (by omega) (Nat.zero_le _)
