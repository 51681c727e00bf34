/-! ===== pure: the parser by forms ===== -/
/-- letters of a written text -/
def chA (l : List Nat) (k : Nat) : Nat := (l[k]?).getD 0
theorem nff {α : Type} {x : α} : ¬ (false, x).1 = true := fun h => by cases h
/-- the signs l stand at t: whether, and how far -/
def litL (sg : Nat → Fin 65536) (len : Nat) : List Nat → Nat → Bool × Nat
  | [], t => (true, t)
  | c :: l, t => if t < len ∧ (sg t).val = c then litL sg len l (t + 1) else (false, t)
def pFL (sg : Nat → Fin 65536) (len : Nat) : List Nat → PS → Bool × PS
  | [], q => (true, q)
  | c :: l, q => if (pPart sg len (Fin.ofNat 65536 c) q).1 = true then pFL sg len l (pPart sg len (Fin.ofNat 65536 c) q).2 else (false, (pPart sg len (Fin.ofNat 65536 c) q).2)
theorem pForm_L (sg : Nat → Fin 65536) (len : Nat) (l : List Nat) : ∀ (r k : Nat) (q : PS), k + r = l.length → pForm sg len (chA l) r k q = pFL sg len (l.drop k) q
  | 0, k, q, h => by rw [List.drop_of_length_le (by omega)]; rfl
  | r + 1, k, q, h => by
    have hk : k < l.length := by omega
    rw [List.drop_eq_getElem_cons hk, pFL, pForm]
    have e : fc (chA l) k = Fin.ofNat 65536 l[k] := by
      unfold fc chA
      rw [List.getElem?_eq_getElem hk]; rfl
    rw [e]
    split
    · exact pForm_L sg len l r (k + 1) _ (by omega)
    · rfl
/-- plain signs, none of D, N, F -/
def Pl : List Nat → Prop
  | [] => True
  | c :: l => (c < 128 ∧ c ≠ 68 ∧ c ≠ 78 ∧ c ≠ 70) ∧ Pl l
theorem pPart_l {sg : Nat → Fin 65536} {len c : Nat} {q : PS} (h : c < 128 ∧ c ≠ 68 ∧ c ≠ 78 ∧ c ≠ 70) : pPart sg len (Fin.ofNat 65536 c) q = (decide (q.1 < len ∧ (sg q.1).val = c), if q.1 < len ∧ (sg q.1).val = c then (q.1 + 1, q.2) else q) := by
  have hv : (Fin.ofNat 65536 c).val = c := Nat.mod_eq_of_lt (by omega)
  have e : (sg q.1 = Fin.ofNat 65536 c) = ((sg q.1).val = c) := propext ⟨fun e => by rw [e, hv], fun e => Fin.ext (by rw [hv]; exact e)⟩
  unfold pPart
  rw [hv, if_neg h.2.1, if_neg h.2.2.1, if_neg h.2.2.2]
  simp only [e]
theorem sim_L {sg : Nat → Fin 65536} {len : Nat} {rest : List Nat} : ∀ (l : List Nat) (q : PS), Pl l → pFL sg len (l ++ rest) q = if (litL sg len l q.1).1 = true then pFL sg len rest ((litL sg len l q.1).2, q.2) else (false, ((litL sg len l q.1).2, q.2))
  | [], q, _ => by rw [litL, if_pos rfl]; rfl
  | c :: l, q, h => by
    rw [List.cons_append, pFL, pPart_l h.1, litL]
    by_cases e : q.1 < len ∧ (sg q.1).val = c
    · rw [if_pos e, if_pos e, if_pos (decide_eq_true e)]
      exact sim_L l _ h.2
    · rw [if_neg e, if_neg e, if_neg (by rw [decide_eq_false e]; exact nff)]
      rw [if_neg nff]
theorem litL_le {sg : Nat → Fin 65536} {len : Nat} : ∀ (l : List Nat) (t : Nat), t ≤ len → t ≤ (litL sg len l t).2 ∧ (litL sg len l t).2 ≤ len ∧ ((litL sg len l t).1 = true → (litL sg len l t).2 = t + l.length)
  | [], t, h => ⟨Nat.le_refl _, h, fun _ => rfl⟩
  | c :: l, t, h => by
    rw [litL]
    by_cases e : t < len ∧ (sg t).val = c
    · rw [if_pos e]
      obtain ⟨h1, h2, h3⟩ := litL_le (sg := sg) l (t + 1) (show t + 1 ≤ len by omega)
      exact ⟨by omega, h2, fun q => by rw [h3 q, List.length_cons]; omega⟩
    · rw [if_neg e]
      exact ⟨Nat.le_refl _, h, fun q => by cases q⟩
/-- up to m digits at t -/
def rdM (sg : Nat → Fin 65536) (len m t : Nat) : Nat × Int32 := rdN sg (min len (t + m) - t) t (nI 0)
theorem rdM_le {sg : Nat → Fin 65536} {len m t : Nat} (h : t ≤ len) : t ≤ (rdM sg len m t).1 ∧ (rdM sg len m t).1 ≤ len := by
  have := rdN_le sg (min len (t + m) - t) t (nI 0)
  unfold rdM; omega
theorem sim_D {sg : Nat → Fin 65536} {len : Nat} {rest : List Nat} {q : PS} : pFL sg len (68 :: rest) q = if q.1 < (rdM sg len 1 q.1).1 then pFL sg len rest ((rdM sg len 1 q.1).1, gvC q.2 (rdM sg len 1 q.1).2) else (false, ((rdM sg len 1 q.1).1, gvC q.2 (rdM sg len 1 q.1).2)) := by
  rw [pFL]
  unfold pPart
  rw [if_pos (show (Fin.ofNat 65536 68).val = 68 from rfl)]
  by_cases e : q.1 < (rdM sg len 1 q.1).1
  · rw [if_pos e]; exact if_pos (decide_eq_true e)
  · rw [if_neg e]; exact if_neg (by rw [show decide (q.1 < (rdN sg (min len (q.1 + 1) - q.1) q.1 (nI 0)).1) = false from decide_eq_false e]; exact nff)
theorem sim_N {sg : Nat → Fin 65536} {len : Nat} {rest : List Nat} {q : PS} : pFL sg len (78 :: rest) q = if q.1 < (rdM sg len 3 q.1).1 then pFL sg len rest ((rdM sg len 3 q.1).1, gvC q.2 (rdM sg len 3 q.1).2) else (false, ((rdM sg len 3 q.1).1, gvC q.2 (rdM sg len 3 q.1).2)) := by
  rw [pFL]
  unfold pPart
  rw [if_neg (show ¬ (Fin.ofNat 65536 78).val = 68 by decide), if_pos (show (Fin.ofNat 65536 78).val = 78 from rfl)]
  by_cases e : q.1 < (rdM sg len 3 q.1).1
  · rw [if_pos e]; exact if_pos (decide_eq_true e)
  · rw [if_neg e]; exact if_neg (by rw [show decide (q.1 < (rdN sg (min len (q.1 + 3) - q.1) q.1 (nI 0)).1) = false from decide_eq_false e]; exact nff)
/-- a feather at t -/
def okF (sg : Nat → Fin 65536) (len t : Nat) : Prop := t < len ∧ inB (nI (sg t).val) 97 104 = true
theorem sim_F {sg : Nat → Fin 65536} {len : Nat} {rest : List Nat} {q : PS} : (okF sg len q.1 → pFL sg len (70 :: rest) q = pFL sg len rest (q.1 + 1, (q.2.1, q.2.2.1, q.2.2.2.1, sg q.1, q.2.2.2.2.2))) ∧ (¬ okF sg len q.1 → pFL sg len (70 :: rest) q = (false, q)) := by
  rw [pFL]
  unfold pPart okF
  rw [if_neg (show ¬ (Fin.ofNat 65536 70).val = 68 by decide), if_neg (show ¬ (Fin.ofNat 65536 70).val = 78 by decide), if_pos (show (Fin.ofNat 65536 70).val = 70 from rfl)]
  refine ⟨fun e => ?_, fun e => ?_⟩
  · rw [if_pos (decide_eq_true e), if_pos e]
  · rw [if_neg (by rw [decide_eq_false e]; exact nff), if_neg e]
/-- the model's way: whether wrong, place -/
abbrev MS : Type := Bool × Nat
def stL (sg : Nat → Fin 65536) (len : Nat) (l : List Nat) (s : MS) : MS := if s.1 = true then s else (!(litL sg len l s.2).1, (litL sg len l s.2).2)
def stN (sg : Nat → Fin 65536) (len m : Nat) (s : MS) : MS := if s.1 = true then s else (decide (¬ s.2 < (rdM sg len m s.2).1), (rdM sg len m s.2).1)
def vaN (sg : Nat → Fin 65536) (len m : Nat) (s : MS) : Int32 := if s.1 = true then nI 0 else (rdM sg len m s.2).2
def stF (sg : Nat → Fin 65536) (len : Nat) (s : MS) : MS := if s.1 = true then s else if s.2 < len ∧ inB (nI (sg s.2).val) 97 104 = true then (false, s.2 + 1) else (true, s.2)
theorem st_w {sg : Nat → Fin 65536} {len m : Nat} {l : List Nat} {t : Nat} : stL sg len l (true, t) = (true, t) ∧ stN sg len m (true, t) = (true, t) ∧ stF sg len (true, t) = (true, t) := ⟨if_pos rfl, if_pos rfl, if_pos rfl⟩
theorem ms_eta (s : MS) (b : Bool) (h : s.1 = b) : s = (b, s.2) := by rw [← h]
/-- code of a number of up to m digits -/
def cdN (m : Nat) : Nat := if m = 1 then 68 else 78
theorem sim_M {sg : Nat → Fin 65536} {len m : Nat} {rest : List Nat} {q : PS} (hm : m = 1 ∨ m = 3) : ((stN sg len m (false, q.1)).1 = false → pFL sg len (cdN m :: rest) q = pFL sg len rest ((stN sg len m (false, q.1)).2, gvC q.2 (vaN sg len m (false, q.1)))) ∧ ((stN sg len m (false, q.1)).1 = true → pFL sg len (cdN m :: rest) q = (false, ((stN sg len m (false, q.1)).2, gvC q.2 (vaN sg len m (false, q.1))))) := by
  have key : pFL sg len (cdN m :: rest) q = if q.1 < (rdM sg len m q.1).1 then pFL sg len rest ((rdM sg len m q.1).1, gvC q.2 (rdM sg len m q.1).2) else (false, ((rdM sg len m q.1).1, gvC q.2 (rdM sg len m q.1).2)) := by
    rcases hm with rfl | rfl
    · exact sim_D
    · exact sim_N
  have e1 : stN sg len m (false, q.1) = (decide (¬ q.1 < (rdM sg len m q.1).1), (rdM sg len m q.1).1) := if_neg nff
  have e2 : vaN sg len m (false, q.1) = (rdM sg len m q.1).2 := if_neg nff
  rw [e1, e2, key]
  refine ⟨fun h => if_pos ?_, fun h => if_neg ?_⟩
  · have := of_decide_eq_false h; omega
  · exact of_decide_eq_true h
theorem sim_T {sg : Nat → Fin 65536} {len : Nat} {l rest : List Nat} {q : PS} (hl : Pl l) : ((stL sg len l (false, q.1)).1 = false → pFL sg len (l ++ rest) q = pFL sg len rest ((stL sg len l (false, q.1)).2, q.2)) ∧ ((stL sg len l (false, q.1)).1 = true → pFL sg len (l ++ rest) q = (false, ((stL sg len l (false, q.1)).2, q.2))) := by
  have e1 : stL sg len l (false, q.1) = (!(litL sg len l q.1).1, (litL sg len l q.1).2) := if_neg nff
  rw [e1, sim_L l q hl]
  refine ⟨fun h => if_pos ?_, fun h => if_neg ?_⟩
  · simpa using h
  · have : (!(litL sg len l q.1).1) = true := h
    simpa using this
theorem sim_G {sg : Nat → Fin 65536} {len : Nat} {rest : List Nat} {q : PS} : ((stF sg len (false, q.1)).1 = false → pFL sg len (70 :: rest) q = pFL sg len rest ((stF sg len (false, q.1)).2, (q.2.1, q.2.2.1, q.2.2.2.1, sg q.1, q.2.2.2.2.2))) ∧ ((stF sg len (false, q.1)).1 = true → pFL sg len (70 :: rest) q = (false, ((stF sg len (false, q.1)).2, q.2))) := by
  have e1 : stF sg len (false, q.1) = if q.1 < len ∧ inB (nI (sg q.1).val) 97 104 = true then (false, q.1 + 1) else (true, q.1) := if_neg nff
  rw [e1]
  by_cases e : q.1 < len ∧ inB (nI (sg q.1).val) 97 104 = true
  · rw [if_pos e]
    exact ⟨fun _ => sim_F.1 e, fun h => by cases h⟩
  · rw [if_neg e]
    exact ⟨(fun h => by cases h), fun _ => sim_F.2 e⟩
/-- the four shapes of forms: both ways come to the same -/
theorem fm_1 {sg : Nat → Fin 65536} {len m : Nat} {l : List Nat} {i : Nat} {a b : Int32} {c : Fin 65536} {t : Nat} (hl : Pl l) (hm : m = 1 ∨ m = 3) :
    let s1 := stL sg len l (false, t); let s2 := stN sg len m s1; let R := pFL sg len (l ++ [cdN m]) (t, (i, a, b, c, 0))
    R.1 = !s2.1 ∧ R.2.1 = s2.2 ∧ (s2.1 = false → s1.1 = false ∧ R.2.2.1 = i ∧ R.2.2.2.1 = vaN sg len m s1) := by
  intro s1 s2 R
  cases h1 : s1.1 with
  | true =>
    have e : s2 = s1 := by show stN sg len m s1 = s1; rw [ms_eta s1 true h1]; exact (st_w (l := [])).2.1
    have eR : R = (false, (s1.2, _)) := (sim_T (q := (t, (i, a, b, c, 0))) hl).2 h1
    rw [e, eR, h1]
    exact ⟨rfl, rfl, fun q => by cases q⟩
  | false =>
    have es : s1 = (false, s1.2) := ms_eta s1 false h1
    have eR : R = pFL sg len [cdN m] (s1.2, (i, a, b, c, 0)) := (sim_T (q := (t, (i, a, b, c, 0))) hl).1 h1
    have e2 : s2 = stN sg len m (false, s1.2) := by show stN sg len m s1 = _; rw [es]
    cases h2 : s2.1 with
    | true =>
      have := (sim_M (rest := []) (q := (s1.2, (i, a, b, c, 0))) (sg := sg) (len := len) hm).2 (by rw [← e2]; exact h2)
      rw [eR, this, ← e2]
      exact ⟨rfl, rfl, fun q => by cases q⟩
    | false =>
      have := (sim_M (rest := []) (q := (s1.2, (i, a, b, c, 0))) (sg := sg) (len := len) hm).1 (by rw [← e2]; exact h2)
      rw [eR, this, ← e2]
      refine ⟨rfl, rfl, fun _ => ⟨rfl, rfl, ?_⟩⟩
      show vaN sg len m (false, s1.2) = _
      rw [← es]
theorem fm_F {sg : Nat → Fin 65536} {len : Nat} {l : List Nat} {i : Nat} {a b : Int32} {c : Fin 65536} {t : Nat} (hl : Pl l) :
    let s1 := stL sg len l (false, t); let s2 := stF sg len s1; let R := pFL sg len (l ++ [70]) (t, (i, a, b, c, 0))
    R.1 = !s2.1 ∧ R.2.1 = s2.2 ∧ (s2.1 = false → s1.1 = false ∧ R.2.2.1 = i ∧ R.2.2.2.2.2.1 = sg s1.2) := by
  intro s1 s2 R
  cases h1 : s1.1 with
  | true =>
    have e : s2 = s1 := by show stF sg len s1 = s1; rw [ms_eta s1 true h1]; exact (st_w (l := []) (m := 0)).2.2
    have eR : R = (false, (s1.2, _)) := (sim_T (q := (t, (i, a, b, c, 0))) hl).2 h1
    rw [e, eR, h1]
    exact ⟨rfl, rfl, fun q => by cases q⟩
  | false =>
    have es : s1 = (false, s1.2) := ms_eta s1 false h1
    have eR : R = pFL sg len [70] (s1.2, (i, a, b, c, 0)) := (sim_T (q := (t, (i, a, b, c, 0))) hl).1 h1
    have e2 : s2 = stF sg len (false, s1.2) := by show stF sg len s1 = _; rw [es]
    cases h2 : s2.1 with
    | true =>
      have := (sim_G (rest := []) (q := (s1.2, (i, a, b, c, 0))) (sg := sg) (len := len)).2 (by rw [← e2]; exact h2)
      rw [eR, this, ← e2]
      exact ⟨rfl, rfl, fun q => by cases q⟩
    | false =>
      have := (sim_G (rest := []) (q := (s1.2, (i, a, b, c, 0))) (sg := sg) (len := len)).1 (by rw [← e2]; exact h2)
      rw [eR, this, ← e2]
      exact ⟨rfl, rfl, fun _ => ⟨rfl, rfl, rfl⟩⟩
