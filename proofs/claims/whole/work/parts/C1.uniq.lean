/-! ===== the start: lemmas ===== -/
theorem pick9 {α β : Type} (E : α → β → Prop) (hu : ∀ a b b', E a b → E a b' → b = b') : ∃ f : α → Option β, ∀ a b, f a = some b ↔ E a b := by
  have h : ∀ a, ∃ o : Option β, ∀ b, o = some b ↔ E a b := fun a => by
    by_cases c : ∃ b, E a b
    · obtain ⟨b, hb⟩ := c
      exact ⟨some b, fun b' => ⟨fun e => by cases e; exact hb, fun e => congrArg some (hu a b b' hb e)⟩⟩
    · exact ⟨none, fun b' => ⟨fun e => (nomatch e), fun e => absurd ⟨b', e⟩ c⟩⟩
  obtain ⟨f, hf⟩ := Classical.axiomOfChoice h
  exact ⟨f, hf⟩
theorem fits_ar {s : State} (hf : heapFits s = true) {a i : Nat} {cell : Cell} {ty : FieldType} {v : Value} (hc : s.heap[a]? = some cell) (ha : s.isArrayOf cell ty) (hv : cell.slots[i]? = some v) : fits ty v = true := by
  obtain ⟨hs, k, hk, comp, hkind⟩ := ha
  have hm : cell ∈ s.heap := Array.mem_of_getElem? hc
  have h2 := (Array.all_eq_true_iff_forall_mem.mp hf) cell hm
  have hi : i < cell.slots.size := (Array.getElem?_eq_some_iff.mp hv).1
  have h3 := (List.all_eq_true.mp h2) i (List.mem_range.mpr hi)
  have h4 : s.fitsSlot cell.cls cell.vm i v = true := by
    simp only [hv] at h3
    exact h3
  have h5 : s.slotType? cell.cls cell.vm i = some ty := by
    unfold State.slotType?
    rw [hk]
    cases hvm : cell.vm <;> first | exact absurd hvm (hs _) | simp [hkind]
  unfold State.fitsSlot at h4
  rw [h5] at h4
  exact h4
theorem T_uniq {ty ty' : FieldType} {a n n' : Nat} {f f' : Nat → Value} {A A' : Nat → Prop} {U : State} {H : Heap} (hn : n < 2147483648) (hn' : n' < 2147483648) (h : va_T ty a n f A U H) (h' : va_T ty' a n' f' A' U H) : ty = ty' ∧ n = n' ∧ ∀ j, j < n → f j = f' j := by
  obtain ⟨c, h1, ⟨h2, k, h3, comp, h4⟩, h5, h6, h7, h8, h9⟩ := h
  obtain ⟨c', g1, ⟨g2, k', g3, comp', g4⟩, g5, g6, g7, g8, g9⟩ := h'
  obtain rfl : c = c' := Option.some.inj (h1.symm.trans g1)
  obtain rfl : k = k' := Option.some.inj (h3.symm.trans g3)
  have e : ty = ty' := by
    rw [h4] at g4
    cases g4
    rfl
  have en : n = n' := by
    have q : nI n = nI n' := h7.symm.trans g7
    rw [eq_nI hn hn'] at q
    exact q
  exact ⟨e, en, fun j hj => Option.some.inj ((h8 j hj).symm.trans (g8 j (by omega)))⟩
theorem OT_no {s : State} (hf : heapFits s = true) {o nm d : String} {v : Value} {a n : Nat} {ty : FieldType} {f : Nat → Value} {A A' : Nat → Prop} (h : va_OF o nm d v a A s s.heap) (h' : va_T ty a n f A' s s.heap) (hb : fits ty v = false) : False := by
  obtain ⟨cf, k, i, fl, cell, q1, q2, q3, q4, q5, q6⟩ := h
  obtain ⟨c', g1, g2, -⟩ := h'
  obtain rfl : cell = c' := Option.some.inj (q3.symm.trans g1)
  have := fits_ar hf q3 g2 q5
  rw [hb] at this
  cases this
theorem OF_uniq {o nm d : String} {v v' : Value} {a : Nat} {A A' : Nat → Prop} {U : State} {H : Heap} (h : va_OF o nm d v a A U H) (h' : va_OF o nm d v' a A' U H) : v = v' := by
  obtain ⟨cf, k, i, fl, cell, q1, q2, q3, q4, q5, q6⟩ := h
  obtain ⟨cf', k', i', fl', cell', g1, g2, g3, g4, g5, g6⟩ := h'
  obtain rfl : cell = cell' := Option.some.inj (q3.symm.trans g3)
  have e := Option.some.inj (q1.symm.trans g1)
  cases e
  exact Option.some.inj (q5.symm.trans g5)
theorem O_name {C C' : String} {a : Nat} {A A' : Nat → Prop} {U : State} {H : Heap} (h : va_O C a A U H) (h' : va_O C' a A' U H) : C = C' := by
  obtain ⟨cell, q1, q2, q3, q4⟩ := h
  obtain ⟨cell', g1, g2, g3, g4⟩ := h'
  obtain rfl : cell = cell' := Option.some.inj (q1.symm.trans g1)
  obtain ⟨k, k1, k2⟩ := Vm.findClass_spec q3
  obtain ⟨k', k3, k4⟩ := Vm.findClass_spec g3
  obtain rfl : k = k' := Option.some.inj (k1.symm.trans k3)
  first | exact k2.symm.trans k4 | exact k2.trans k4.symm | exact k2.1.symm.trans k4.1
theorem va_T.int {b L : Nat} {xs : Nat → Int32} {U : State} {H : Heap} {A : Nat → Prop} (h : va_X b L xs U H) (hA : ¬ A b) : va_T .int b L (fun j => .int (xs j)) A U H := by
  obtain ⟨scr, h1, h2, h3, h4, h5⟩ := h
  exact ⟨scr, h1, h2, h3, by omega, by rw [h4], h5, hA⟩
/-- an array's rows -/
theorem ar_of {args : Array Value} {s : State} {t : Term} {ty : FieldType} {n : Nat} {f : Nat → Int32} {A : Nat → Prop} (hn : n < 2 ^ 31) (h : ∀ w ∈ arW t ty n f, w.before args s = true) (hA : ∀ a : Nat, a < s.heap.size → ¬ A a) : ∃ a : Nat, t.eval args s none [] s = some (.ref a) ∧ va_T ty a n (fun j => .int (f j)) A s s.heap := by
  refine va_Tof (f := fun j => .int (f j)) hn (h _ (List.mem_cons_self)) (va_eqt (h _ (List.mem_cons_of_mem _ List.mem_cons_self))) (fun j hj => va_eqt (h _ ?_)) hA
  exact List.mem_cons_of_mem _ (List.mem_cons_of_mem _ (List.mem_map.mpr ⟨j, List.mem_range.mpr hj, rfl⟩))
/-- a text's rows -/
theorem st_of {args : Array Value} {s : State} {t : Term} {l : List Nat} {A : Nat → Prop} (hn : l.length < 2 ^ 31) (h : ∀ w ∈ stW t l, w.before args s = true) (hA : ∀ a : Nat, a < s.heap.size → ¬ A a) : ∃ q : Nat × Nat, t.eval args s none [] s = some (.ref q.1) ∧ va_O "java/lang/String" q.1 A s s.heap ∧ va_OF "java/lang/String" "coder" "B" (.int (nI 0)) q.1 A s s.heap ∧ va_OF "java/lang/String" "value" "[B" (.ref q.2) q.1 A s s.heap ∧ va_T .byte q.2 l.length (fun j => .int (nI (chA l j))) A s s.heap := by
  have h0 := h _ List.mem_cons_self
  have h1 := h _ (List.mem_cons_of_mem _ List.mem_cons_self)
  obtain ⟨a, c, cA, kA, q1, q2, q3, q4, q5, q6, -⟩ := Cond.exactly_spec (args := args) (first := s) (o := none) (s := s) (idx := []) (t := t) (cls := "java/lang/String") h0
  obtain ⟨v, ev, hv⟩ := ar_of (A := A) hn (fun w hw => h w (List.mem_cons_of_mem _ (List.mem_cons_of_mem _ hw))) hA
  exact ⟨(a, v), q1, ⟨cA, q3, q5, by rw [q6]; exact q2, hA a (Array.getElem?_eq_some_iff.mp q3).1⟩, vk_OFof q1 (va_eqt h1) hA, vk_OFof q1 ev hA, hv⟩
theorem str_R {args : Array Value} {s : State} {own tx : String} {k : Nat} (h : (Cond.stringRef own k tx).before args s = true) : ∃ q, vk_R own k tx q s := by
  have hcur : ∃ cur, s.vm.findClass own = some cur := by
    have h1 := h
    simp only [Cond.before, Cond.holds, Cond.value] at h1
    cases hc : s.vm.findClass own with
    | none => simp [hc] at h1
    | some cur => exact ⟨cur, rfl⟩
  obtain ⟨cur, hcur⟩ := hcur
  obtain ⟨k', cf, i, a, -, -, -, -, -, he⟩ := Cond.stringRef_spec (args := args) (first := s) (o := none) (s := s) (idx := []) hcur h
  exact ⟨a, vk_R.of h he⟩
/-- the cells that are there from the start and that nobody writes -/
def IA9 (b L : Nat) (xs : Nat → Int32) (sw : Nat) (sb : Nat → Nat) (d1 d2 a t n : Nat) (f : Nat → Int32) : Prop :=
  (a = b ∧ t = 0 ∧ n = L ∧ f = xs) ∨ (a = sw ∧ t = 0 ∧ n = 10 ∧ f = (fun i => if i < 9 then nI (i + 1) else nI 0)) ∨ (∃ i, i < 24 ∧ a = sb i ∧ t = 4 ∧ n = (sTx i).length ∧ f = (fun k => nI (chA (sTx i) k))) ∨ (a = d1 ∧ t = 4 ∧ n = 100 ∧ f = (fun k => nI (48 + k % 10))) ∨ (a = d2 ∧ t = 4 ∧ n = 100 ∧ f = (fun k => nI (48 + k / 10)))
theorem IA9_u {b L : Nat} {xs : Nat → Int32} {sw : Nat} {sb : Nat → Nat} {d1 d2 a t n t' n' : Nat} {f f' : Nat → Int32} (hne : b ≠ sw) (h : IA9 b L xs sw sb d1 d2 a t n f) (h' : IA9 b L xs sw sb d1 d2 a t' n' f') (ht : tyOf t = tyOf t') (hn : n = n') (hj : ∀ j, j < n → f j = f' j) : t = t' ∧ n = n' ∧ f = f' := by
  have hl := yln
  rcases h with ⟨ha, rfl, rfl, rfl⟩ | ⟨ha, rfl, rfl, rfl⟩ | ⟨i, hi, ha, rfl, rfl, rfl⟩ | ⟨ha, rfl, rfl, rfl⟩ | ⟨ha, rfl, rfl, rfl⟩
  · rcases h' with ⟨ha', rfl, rfl, rfl⟩ | ⟨ha', rfl, rfl, rfl⟩ | ⟨i', hi', ha', rfl, rfl, rfl⟩ | ⟨ha', rfl, rfl, rfl⟩ | ⟨ha', rfl, rfl, rfl⟩
    · exact ⟨rfl, rfl, rfl⟩
    · exact absurd (ha.symm.trans ha') hne
    · exact absurd ht (by decide)
    · exact absurd ht (by decide)
    · exact absurd ht (by decide)
  · rcases h' with ⟨ha', rfl, rfl, rfl⟩ | ⟨ha', rfl, rfl, rfl⟩ | ⟨i', hi', ha', rfl, rfl, rfl⟩ | ⟨ha', rfl, rfl, rfl⟩ | ⟨ha', rfl, rfl, rfl⟩
    · exact absurd (ha'.symm.trans ha) hne
    · exact ⟨rfl, rfl, rfl⟩
    · exact absurd ht (by decide)
    · exact absurd ht (by decide)
    · exact absurd ht (by decide)
  · have l1 := (hl i hi).1
    rcases h' with ⟨ha', rfl, rfl, rfl⟩ | ⟨ha', rfl, rfl, rfl⟩ | ⟨i', hi', ha', rfl, rfl, rfl⟩ | ⟨ha', rfl, rfl, rfl⟩ | ⟨ha', rfl, rfl, rfl⟩
    · exact absurd ht (by decide)
    · exact absurd ht (by decide)
    · refine ⟨rfl, hn, funext fun k => ?_⟩
      by_cases hk : k < (sTx i).length
      · exact hj k hk
      · have e1 : chA (sTx i) k = 0 := by
          unfold chA; rw [List.getElem?_eq_none (by omega)]; rfl
        have e2 : chA (sTx i') k = 0 := by
          unfold chA; rw [List.getElem?_eq_none (by omega)]; rfl
        show nI (chA (sTx i) k) = nI (chA (sTx i') k)
        rw [e1, e2]
    · omega
    · omega
  · rcases h' with ⟨ha', rfl, rfl, rfl⟩ | ⟨ha', rfl, rfl, rfl⟩ | ⟨i', hi', ha', rfl, rfl, rfl⟩ | ⟨ha', rfl, rfl, rfl⟩ | ⟨ha', rfl, rfl, rfl⟩
    · exact absurd ht (by decide)
    · exact absurd ht (by decide)
    · have := (hl i' hi').1; omega
    · exact ⟨rfl, rfl, rfl⟩
    · exact absurd (hj 1 (by omega)) (by decide)
  · rcases h' with ⟨ha', rfl, rfl, rfl⟩ | ⟨ha', rfl, rfl, rfl⟩ | ⟨i', hi', ha', rfl, rfl, rfl⟩ | ⟨ha', rfl, rfl, rfl⟩ | ⟨ha', rfl, rfl, rfl⟩
    · exact absurd ht (by decide)
    · exact absurd ht (by decide)
    · have := (hl i' hi').1; omega
    · exact absurd (hj 1 (by omega)) (by decide)
    · exact ⟨rfl, rfl, rfl⟩
def Ent9 (b L : Nat) (xs : Nat → Int32) (sw kr : Nat) (kd sa sb : Nat → Nat) (d1 d2 a : Nat) (e : va_E) : Prop :=
  (∃ t n f, e = .inl (t, n, .inl f) ∧ IA9 b L xs sw sb d1 d2 a t n f) ∨ (a = kr ∧ e = .inl (8, 10, .inr (.inr (.inr (.inr (fun i => some (kd i))))))) ∨ (∃ i, i < 10 ∧ a = kd i ∧ e = .inr (8, [.int (nI i), .ref (sa i)])) ∨ (∃ i, i < 24 ∧ a = sa i ∧ e = .inr (9, [.ref (sb i), .int (nI 0)]))
/-- what is known of them -/
def FS9 (b L : Nat) (xs : Nat → Int32) (sw kr : Nat) (kd sa sb : Nat → Nat) (d1 d2 : Nat) (A : Nat → Prop) (s : State) : Prop :=
  va_T .int b L (fun j => .int (xs j)) A s s.heap ∧ va_T .int sw 10 (fun j => .int ((fun i => if i < 9 then nI (i + 1) else nI 0) j)) A s s.heap ∧ va_T (.object "PenNursery$Kind") kr 10 (fun j => .ref (kd j)) A s s.heap ∧
  (∀ i, i < 10 → va_O "PenNursery$Kind" (kd i) A s s.heap ∧ va_OF "java/lang/Enum" "ordinal" "I" (.int (nI i)) (kd i) A s s.heap ∧ va_OF "PenNursery$Kind" "form" "Ljava/lang/String;" (.ref (sa i)) (kd i) A s s.heap) ∧
  (∀ i, i < 24 → va_O "java/lang/String" (sa i) A s s.heap ∧ va_OF "java/lang/String" "coder" "B" (.int (nI 0)) (sa i) A s s.heap ∧ va_OF "java/lang/String" "value" "[B" (.ref (sb i)) (sa i) A s s.heap ∧ va_T .byte (sb i) (sTx i).length (fun j => .int (nI (chA (sTx i) j))) A s s.heap) ∧
  va_T .byte d1 100 (fun j => .int (nI (48 + j % 10))) A s s.heap ∧ va_T .byte d2 100 (fun j => .int (nI (48 + j / 10))) A s s.heap
theorem IA9_T {b L : Nat} {xs : Nat → Int32} {sw kr : Nat} {kd sa sb : Nat → Nat} {d1 d2 : Nat} {A : Nat → Prop} {s : State} (F : FS9 b L xs sw kr kd sa sb d1 d2 A s) (hL : L ≤ 2048) {a t n : Nat} {f : Nat → Int32} (h : IA9 b L xs sw sb d1 d2 a t n f) : va_T (tyOf t) a n (fun j => .int (f j)) A s s.heap ∧ n < 2147483648 ∧ (t = 0 ∨ t = 4) := by
  obtain ⟨f0, f1, f2, f3, f4, f5, f6⟩ := F
  rcases h with ⟨rfl, rfl, rfl, rfl⟩ | ⟨rfl, rfl, rfl, rfl⟩ | ⟨i, hi, rfl, rfl, rfl, rfl⟩ | ⟨rfl, rfl, rfl, rfl⟩ | ⟨rfl, rfl, rfl, rfl⟩
  · exact ⟨f0, by omega, .inl rfl⟩
  · exact ⟨f1, by omega, .inl rfl⟩
  · exact ⟨(f4 i hi).2.2.2, by have := (yln i hi).1; omega, .inr rfl⟩
  · exact ⟨f5, by omega, .inr rfl⟩
  · exact ⟨f6, by omega, .inr rfl⟩
theorem Ent9_u {b L : Nat} {xs : Nat → Int32} {sw kr : Nat} {kd sa sb : Nat → Nat} {d1 d2 : Nat} {A : Nat → Prop} {s : State} (hf : heapFits s = true) (F : FS9 b L xs sw kr kd sa sb d1 d2 A s) (hL : L ≤ 2048) (hne : b ≠ sw) (a : Nat) (e e' : va_E) (h : Ent9 b L xs sw kr kd sa sb d1 d2 a e) (h' : Ent9 b L xs sw kr kd sa sb d1 d2 a e') : e = e' := by
  have F' := F
  obtain ⟨f0, f1, f2, f3, f4, f5, f6⟩ := F'
  have IR : ∀ {t n f}, IA9 b L xs sw sb d1 d2 a t n f → a = kr → False := fun i e => by
    subst e
    obtain ⟨g1, g2, g3⟩ := IA9_T F hL i
    have := (T_uniq g2 (by omega) g1 f2).1
    rcases g3 with rfl | rfl <;> exact absurd this (by decide)
  have IO : ∀ {t n f o nm d q}, IA9 b L xs sw sb d1 d2 a t n f → va_OF o nm d (.ref q) a A s s.heap → False := fun i h => by
    obtain ⟨g1, g2, g3⟩ := IA9_T F hL i
    exact OT_no hf h g1 (by rcases g3 with rfl | rfl <;> rfl)
  have RO : ∀ {o nm d} {q : Int32}, a = kr → va_OF o nm d (.int q) a A s s.heap → False := fun e hq => by
    rw [← e] at f2
    exact OT_no hf hq f2 rfl
  rcases h with ⟨t, n, f, rfl, hi⟩ | ⟨hr, rfl⟩ | ⟨i, hi, hk, rfl⟩ | ⟨i, hi, hs, rfl⟩
  · rcases h' with ⟨t', n', f', rfl, hi'⟩ | ⟨hr', rfl⟩ | ⟨i', hi', hk', rfl⟩ | ⟨i', hi', hs', rfl⟩
    · obtain ⟨g1, g2, g3⟩ := IA9_T F hL hi
      obtain ⟨k1, k2, k3⟩ := IA9_T F hL hi'
      obtain ⟨u1, u2, u3⟩ := T_uniq g2 k2 g1 k1
      obtain ⟨rfl, rfl, rfl⟩ := IA9_u hne hi hi' u1 u2 (fun j hj => Value.int.inj (u3 j hj))
      rfl
    · exact (IR hi hr').elim
    · subst hk'; exact (IO hi (f3 i' hi').2.2).elim
    · subst hs'; exact (IO hi (f4 i' hi').2.2.1).elim
  · rcases h' with ⟨t', n', f', rfl, hi'⟩ | ⟨hr', rfl⟩ | ⟨i', hi', hk', rfl⟩ | ⟨i', hi', hs', rfl⟩
    · exact (IR hi' hr).elim
    · rfl
    · exact (RO hr (by rw [hk']; exact (f3 i' hi').2.1)).elim
    · exact (RO hr (by rw [hs']; exact (f4 i' hi').2.1)).elim
  · rcases h' with ⟨t', n', f', rfl, hi'⟩ | ⟨hr', rfl⟩ | ⟨i', hi', hk', rfl⟩ | ⟨i', hi', hs', rfl⟩
    · subst hk; exact (IO hi' (f3 i hi).2.2).elim
    · exact (RO hr' (by rw [hk]; exact (f3 i hi).2.1)).elim
    · have e1 := (f3 i hi).2.1
      have e2 := (f3 i' hi').2.1
      rw [← hk] at e1
      rw [← hk'] at e2
      have e3 : nI i = nI i' := Value.int.inj (OF_uniq e1 e2)
      rw [eq_nI (by omega) (by omega)] at e3
      rw [e3]
    · have e1 := (f3 i hi).1
      have e2 := (f4 i' hi').1
      rw [← hk] at e1
      rw [← hs'] at e2
      exact absurd (O_name e1 e2) (by decide)
  · rcases h' with ⟨t', n', f', rfl, hi'⟩ | ⟨hr', rfl⟩ | ⟨i', hi', hk', rfl⟩ | ⟨i', hi', hs', rfl⟩
    · subst hs; exact (IO hi' (f4 i hi).2.2.1).elim
    · exact (RO hr' (by rw [hs]; exact (f4 i hi).2.1)).elim
    · have e1 := (f4 i hi).1
      have e2 := (f3 i' hi').1
      rw [← hs] at e1
      rw [← hk'] at e2
      exact absurd (O_name e1 e2) (by decide)
    · have e1 := (f4 i hi).2.2.1
      have e2 := (f4 i' hi').2.2.1
      rw [← hs] at e1
      rw [← hs'] at e2
      rw [Value.ref.inj (OF_uniq e1 e2)]
