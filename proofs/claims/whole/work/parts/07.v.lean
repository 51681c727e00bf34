def codeW (y : MD) : Cond := match y.2.2.2.2.1 with
  | none => .code y.1 y.2.1 y.2.2.1 y.2.2.2.1
  | some hh => .codeWith y.1 y.2.1 y.2.2.1 y.2.2.2.1 hh
def WS (y : MD) : List Cond := codeW y :: GW
def tabOf (y : MD) : List ExceptionTableEntry := match y.2.2.2.2.1 with
  | none => []
  | some hh => tableOf hh
/-- what a method's own frame knows all the time -/
def Fr (G : GT) (y : MD) (p : Program) (s : State) (m : MethodId) (args : Array Value) (meth : Method) (c : Code) : Prop :=
  p.tables.exec = Jvm.exec ∧ c.code = y.2.1 ∧ meth.sig.returnType = y.2.2.2.1 ∧ c.maxLocals = y.2.2.1 ∧ s.vm.findClass (RN y.2.2.2.2.2) = some m.cls ∧ (∀ w ∈ GW, w.before args s = true) ∧ meth.locks = false ∧ FV G s ∧ HF G s.heap ∧ c.exceptionTable.toList = tabOf y ∧ meth.name = y.1.name
def QcG (G : GT) (Q : RT → Hp → Prop) : Array Value → State → Outcome → State → Prop := fun _ st o t => ∃ (r : Option Value) (h' : Hp), o = .returned r ∧ Q (.inl r) h' ∧ HR G h' t.heap ∧ va_F (Fz G) st t
def XcG (G : GT) (Q : RT → Hp → Prop) : String → State → State → Prop := fun E st t => ∃ h' : Hp, Q (.inr E) h' ∧ HR G h' t.heap ∧ va_F (Fz G) st t
def PcG (G : GT) (h : Hp) (args : List Value) : Array Value → State → Prop := va_Pc args (fun U => FV G U ∧ HR G h U.heap)
def rmD (d mc ms : Nat) : Room := { frames := d, cells := mc, slots := ms, locals := 45 * d }
/-- METHOD y, called with these arguments in the picture h, ends with Q; d frames deep at most, mc cells of ms slots at most -/
def Ct (G : GT) (y : MD) (d mc ms : Nat) (av : List Value) (h : Hp) (Q : RT → Hp → Prop) : Prop := vx_Met G.1 y.1 (WS y) (rmD d mc ms) (PcG G h av) (QcG G Q) (XcG G Q) mc ms (Fz G)
def EX (G : GT) (y : MD) (Q : RT → Hp → Prop) (p : Program) (e : Env) (R : Room) (s : State) (m : MethodId) (args : Array Value) (below : List Frame) (meth : Method) (c : Code) (mc ms : Nat) (QQ : State → Prop) : Prop :=
  QQ = vx_MQ below (QcG G Q) (XcG G Q) args s mc ms (Fz G) ∨
  (y.2.2.2.1 = some .boolean ∧ y.2.2.2.2.1 = none ∧ (∀ E h', ¬ Q (.inr E) h') ∧ ∀ (v : Int32) (h' : Hp) (H' : Heap) (locs' : List Loc) (pc : Nat) (ls : Array Slot), Q (.inl (some (.int v))) h' → HR G h' H' → va_S (Fz G) s.heap H' locs' → decode y.2.1 pc = .ok (.ireturn, 1) → W p G.1 e R s m args below meth c H' locs' mc ms QQ (F0 m pc ls [.int v]))
/-- locals by their places: what is known of each -/
abbrev LL : Type := List (Option Value)
def asc : Nat → LL → List (Nat × Value)
  | _, [] => []
  | k, some v :: t => (k, v) :: asc (k + 1) t
  | k, none :: t => asc (k + 1) t
def lget : LL → Nat → Option Value
  | [], _ => none
  | a :: _, 0 => a
  | _ :: t, n + 1 => lget t n
def lcat2 : Option Value → Bool
  | some (.long _) => true
  | some (.double _) => true
  | _ => false
def lset1 : LL → Nat → Value → LL
  | [], _, _ => []
  | _ :: t, 0, v => some v :: t
  | a :: t, 1, v => (if lcat2 a = true then none else a) :: lset1 t 0 v
  | a :: t, n + 2, v => a :: lset1 t (n + 1) v
def lset2 : LL → Nat → Value → LL
  | [], _, _ => []
  | [_], 0, _ => []
  | _ :: _ :: t, 0, v => some v :: none :: t
  | a :: t, 1, v => (if lcat2 a = true then none else a) :: lset2 t 0 v
  | a :: t, n + 2, v => a :: lset2 t (n + 1) v
theorem asc_mem : ∀ (L : LL) (k j : Nat) (v : Value), (j, v) ∈ asc k L ↔ ∃ n, j = k + n ∧ lget L n = some v
  | [], k, j, v => by
    constructor
    · intro h; cases h
    · rintro ⟨n, -, h⟩; cases h
  | none :: t, k, j, v => by
    rw [asc, asc_mem t (k + 1) j v]
    constructor
    · rintro ⟨n, h1, h2⟩; exact ⟨n + 1, by omega, h2⟩
    · rintro ⟨n, h1, h2⟩
      cases n with
      | zero => cases h2
      | succ n => exact ⟨n, by omega, h2⟩
  | some w :: t, k, j, v => by
    rw [asc, List.mem_cons, asc_mem t (k + 1) j v]
    constructor
    · rintro (h | ⟨n, h1, h2⟩)
      · cases h; exact ⟨0, rfl, rfl⟩
      · exact ⟨n + 1, by omega, h2⟩
    · rintro ⟨n, h1, h2⟩
      cases n with
      | zero => cases h2; exact Or.inl (by rw [h1]; rfl)
      | succ n => exact Or.inr ⟨n, by omega, h2⟩
theorem asc_of {L : LL} {i : Nat} {v : Value} (h : lget L i = some v) : (i, v) ∈ asc 0 L := (asc_mem L 0 i v).mpr ⟨i, by omega, h⟩
theorem lset1_get : ∀ (L : LL) (i n : Nat) (v w : Value), lget (lset1 L i v) n = some w → (n = i ∧ w = v) ∨ (n ≠ i ∧ lget L n = some w ∧ ¬ (n + 1 = i ∧ w.category = 2))
  | [], i, n, v, w, h => by simp [lset1, lget] at h
  | a :: t, 0, n, v, w, h => by
    cases n with
    | zero => cases h; exact Or.inl ⟨rfl, rfl⟩
    | succ n => exact Or.inr ⟨by omega, h, by omega⟩
  | a :: t, 1, n, v, w, h => by
    cases n with
    | zero =>
      rw [lset1, lget] at h
      by_cases hc : lcat2 a = true
      · rw [if_pos hc] at h; cases h
      · rw [if_neg hc] at h
        refine Or.inr ⟨by omega, h, fun q => hc ?_⟩
        rw [h]
        cases w <;> first | rfl | (have h9 := q.2; simp [Value.category] at h9)
    | succ n =>
      rcases lset1_get t 0 n v w h with ⟨h1, h2⟩ | ⟨h1, h2, h3⟩
      · exact Or.inl ⟨by omega, h2⟩
      · exact Or.inr ⟨by omega, h2, by omega⟩
  | a :: t, i + 2, n, v, w, h => by
    cases n with
    | zero => exact Or.inr ⟨by omega, h, by omega⟩
    | succ n =>
      rcases lset1_get t (i + 1) n v w h with ⟨h1, h2⟩ | ⟨h1, h2, h3⟩
      · exact Or.inl ⟨by omega, h2⟩
      · exact Or.inr ⟨by omega, h2, fun q => h3 ⟨by omega, q.2⟩⟩
theorem lset2_get : ∀ (L : LL) (i n : Nat) (v w : Value), lget (lset2 L i v) n = some w → (n = i ∧ w = v) ∨ (n ≠ i ∧ n ≠ i + 1 ∧ lget L n = some w ∧ ¬ (n + 1 = i ∧ w.category = 2))
  | [], i, n, v, w, h => by simp [lset2, lget] at h
  | [a], 0, n, v, w, h => by simp [lset2, lget] at h
  | a :: b :: t, 0, n, v, w, h => by
    match n, h with
    | 0, h => cases h; exact Or.inl ⟨rfl, rfl⟩
    | 1, h => cases h
    | n + 2, h => exact Or.inr ⟨by omega, by omega, h, by omega⟩
  | a :: t, 1, n, v, w, h => by
    cases n with
    | zero =>
      rw [lset2, lget] at h
      by_cases hc : lcat2 a = true
      · rw [if_pos hc] at h; cases h
      · rw [if_neg hc] at h
        refine Or.inr ⟨by omega, by omega, h, fun q => hc ?_⟩
        rw [h]
        cases w <;> first | rfl | (have h9 := q.2; simp [Value.category] at h9)
    | succ n =>
      rw [lset2, lget] at h
      rcases lset2_get t 0 n v w h with ⟨h1, h2⟩ | ⟨h1, h2, h3, h4⟩
      · exact Or.inl ⟨by omega, h2⟩
      · exact Or.inr ⟨by omega, by omega, h3, by omega⟩
  | a :: t, i + 2, n, v, w, h => by
    cases n with
    | zero => rw [lset2, lget] at h; exact Or.inr ⟨by omega, by omega, h, by omega⟩
    | succ n =>
      rw [lset2, lget] at h
      rcases lset2_get t (i + 1) n v w h with ⟨h1, h2⟩ | ⟨h1, h2, h3, h4⟩
      · exact Or.inl ⟨by omega, h2⟩
      · exact Or.inr ⟨by omega, by omega, h3, fun q => h4 ⟨by omega, q.2⟩⟩
/-- fewer locals -/
def Lsub (L' L : LL) : Prop := ∀ n v, lget L' n = some v → lget L n = some v
theorem lv_has_of {ls : Array Slot} {nL : Nat} {l l' : List (Nat × Value)} (h : lv_has ls nL l) (hs : ∀ q ∈ l', q ∈ l) : lv_has ls nL l' := ⟨h.1, h.2.1, fun q hq => h.2.2 q (hs q hq)⟩
/-- the locals at the entry -/
def pargs : Nat → List Value → LL
  | n, [] => List.replicate n none
  | n, v :: t => if v.category = 2 then some v :: none :: pargs (n - 2) t else some v :: pargs (n - 1) t
/-- from this place of method y, with these locals, stack and picture, the method ends with Q -/
def V (G : GT) (y : MD) (d rc rs pc : Nat) (lv : LL) (st : List Value) (h : Hp) (Q : RT → Hp → Prop) : Prop :=
  ∀ (p : Program) (e : Env) (R : Room) (s : State) (m : MethodId) (args : Array Value) (below : List Frame) (meth : Method) (c : Code) (H : Heap) (locs : List Loc) (cells slots mc ms : Nat) (ls : Array Slot) (QQ : State → Prop),
    Fr G y p s m args meth c → (d ≤ R.frames ∧ 45 * d ≤ R.locals ∧ mc ≤ R.cells ∧ ms ≤ R.slots) → cells + rc ≤ mc → slots + rs ≤ ms → EX G y Q p e R s m args below meth c mc ms QQ →
    lv_has ls y.2.2.1 (asc 0 lv) → HR G h H → va_S (Fz G) s.heap H locs → W p G.1 e R s m args below meth c H locs cells slots QQ (F0 m pc ls st)
/-- .. with an exception of class E thrown here -/
def VX (G : GT) (y : MD) (d rc rs pc : Nat) (lv : LL) (E : String) (h : Hp) (Q : RT → Hp → Prop) : Prop :=
  ∀ (p : Program) (e : Env) (R : Room) (s : State) (m : MethodId) (args : Array Value) (below : List Frame) (meth : Method) (c : Code) (H : Heap) (locs : List Loc) (cells slots mc ms : Nat) (ls : Array Slot) (QQ : State → Prop) (q : Addr) (ce : Cell) (rest : List Value),
    Fr G y p s m args meth c → (d ≤ R.frames ∧ 45 * d ≤ R.locals ∧ mc ≤ R.cells ∧ ms ≤ R.slots) → cells + rc ≤ mc → slots + rs ≤ ms → EX G y Q p e R s m args below meth c mc ms QQ →
    lv_has ls y.2.2.1 (asc 0 lv) → HR G h H → va_S (Fz G) s.heap H locs → H[q]? = some ce → ce.vm = .none → s.vm.findClass E = some ce.cls → vx_W p G.1 e R s m args below meth c H locs cells slots QQ (F0 m pc ls rest) q
theorem MetFree_mono {l : Launch} {x : MethodName} {S : Spec} {P P' : Array Value → State → Prop} {K : Program → Env → List Frame → State → Array Value → Prop} {Q Q' : Array Value → State → Outcome → State → Prop} (h : MetFree l x S P K Q) (hP : ∀ a s, P' a s → P a s) (hQ : ∀ a s o t, Q a s o t → Q' a s o t) : MetFree l x S P' K Q' := by
  intro p e h1 h2 h3 s m args below h4 h5 h6 h7
  obtain ⟨k, o, a1, a2, a3, a4⟩ := h p e h1 h2 h3 s m args below h4 h5 (hP _ _ h6) h7
  exact ⟨k, o, a1, a2, a3, hQ _ _ _ _ a4⟩
theorem Ct.mono {G : GT} {y : MD} {d mc ms : Nat} {av : List Value} {h : Hp} {Q Q' : RT → Hp → Prop} (hc : Ct G y d mc ms av h Q) (hq : ∀ o h', Q o h' → Q' o h') : Ct G y d mc ms av h Q' := by
  refine MetFree_mono hc (fun _ _ h => h) (fun a st o t ho => ?_)
  rcases ho with ⟨⟨r, h', h1, h2, h3, h4⟩, hF⟩ | ⟨q, h1, E, ce, L, ⟨h', h2, h3, h4⟩, h5⟩
  · exact Or.inl ⟨⟨r, h', h1, hq _ _ h2, h3, h4⟩, hF⟩
  · exact Or.inr ⟨q, h1, E, ce, L, ⟨h', hq _ _ h2, h3, h4⟩, h5⟩
theorem asc_rep : ∀ (n k : Nat), asc k (List.replicate n none) = []
  | 0, k => rfl
  | n + 1, k => by rw [List.replicate_succ, asc]; exact asc_rep n (k + 1)
theorem pargs_in : ∀ (av : List Value) (n k : Nat), ∀ q ∈ asc k (pargs n av), q ∈ lv_args k av := by
  intro av
  induction av with
  | nil => intro n k q hq; rw [pargs, asc_rep] at hq; cases hq
  | cons v t ih =>
    intro n k q hq
    rw [pargs] at hq
    rw [lv_args]
    by_cases hc : v.category = 2
    · rw [if_pos hc, asc, asc] at hq
      rcases List.mem_cons.mp hq with rfl | hq
      · exact List.mem_cons_self
      · refine List.mem_cons_of_mem _ ?_
        have := ih (n - 2) (k + 1 + 1) q hq
        rw [hc]
        exact this
    · rw [if_neg hc, asc] at hq
      rcases List.mem_cons.mp hq with rfl | hq
      · exact List.mem_cons_self
      · refine List.mem_cons_of_mem _ ?_
        have := ih (n - 1) (k + 1) q hq
        rw [(lv_cat v).resolve_right hc]
        exact this
/-- a method's contract out of its body -/
theorem Ct.of {G : GT} {y : MD} {d mc ms : Nat} {av : List Value} {h : Hp} {Q : RT → Hp → Prop} (hy : plainName y.1.cls = true) (hcn : y.1.cls = RN y.2.2.2.2.2) (hfit : (lg_sl av).length ≤ y.2.2.1)
    (k : V G y d mc ms 0 (pargs y.2.2.1 av) [] h Q) : Ct G y d mc ms av h Q := by
  have body : ∀ p e s m args below meth c s₁, BodyLoose p G.1 y.1 (headSpec (WS y) (rmD d mc ms)) y.2.1 y.2.2.1 y.2.2.2.1 e s m args below meth c s₁ → c.maxLocals = y.2.2.1 → c.exceptionTable.toList = tabOf y → PcG G h av args s →
      W p G.1 e (headSpec (WS y) (rmD d mc ms)).room s m args below meth c s.heap [] 0 0 (vx_MQ below (QcG G Q) (XcG G Q) args s mc ms (Fz G)) (entryFrame m args y.2.2.1) := by
    intro p e s m args below meth c s₁ B hml htab hP
    obtain ⟨rfl, hfv, hr⟩ := hP
    have hts : ∀ w ∈ WS y, w.before av.toArray s = true := atoms_spec (ws := WS y) B.pre
    rw [lg_entry_eq]
    refine k p e _ s m _ below meth c s.heap [] 0 0 mc ms _ _ ⟨B.exec, B.bytes, B.returns, hml, ?_, fun w hw => hts w (List.mem_cons_of_mem _ hw), B.notSynchronized, hfv, hr.2.1, htab, (name_of_methodNamed B.named B.method).1⟩ ⟨Nat.le_refl _, Nat.le_refl _, Nat.le_refl _, Nat.le_refl _⟩ (by omega) (by omega) (Or.inl rfl) (lv_has_of (lv_entry av hfit) (pargs_in av _ 0)) hr va_S.rf
    rw [← hcn]
    exact findClass_of_methodNamed B.named
  unfold Ct
  cases ht : y.2.2.2.2.1 with
  | none =>
    refine vx_ofW (cc := y.2.1) (maxL := y.2.2.1) (ret := y.2.2.2.1) (ws' := GW) hy (by unfold WS codeW; rw [ht]) ?_
    intro p e s m args below meth c s₁ B hml hno hP
    refine body p e s m args below meth c s₁ B hml ?_ hP
    unfold tabOf
    rw [ht]
    cases hc : c.exceptionTable.toList with
    | nil => rfl
    | cons x xs => exact (hno x (by rw [hc]; exact List.mem_cons_self)).elim
  | some hh =>
    have hw : WS y = Cond.codeWith y.1 y.2.1 y.2.2.1 y.2.2.2.1 hh :: GW := by unfold WS codeW; rw [ht]
    refine vx_ofWH (cc := y.2.1) (maxL := y.2.2.1) (ret := y.2.2.2.1) (ws' := GW) (hh := hh) hy hw ?_
    intro p e s m args below meth c s₁ B hml hP
    refine body p e s m args below meth c s₁ B hml ?_ hP
    have hts : ∀ w ∈ WS y, w.before args s = true := atoms_spec (ws := WS y) B.pre
    rw [vx_table (x := y.1) B (hts _ (by rw [hw]; exact List.mem_cons_self))]
    unfold tabOf
    rw [ht]
