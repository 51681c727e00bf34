/-! ===== THE CLEAN MACHINE: heaps as partial pictures, one judgement V a frame, one contract Ct a method ===== -/
/-- a heap's picture: its size, and what is known of its cells (a row's class by its tag) -/
abbrev Hp : Type := Nat × (Nat → Option va_E)
/-- how a method ends: a value or nothing, or an exception by its class -/
abbrev RT : Type := Option Value ⊕ String
/-- what stays the same all the time: launch, classes, the law's first heap, row classes by tag, read-only cells, statics by class and index, texts by class and index -/
abbrev GT : Type := Launch × va_G × Heap × (Nat → ClassId) × (Nat → Option va_E) × (Nat → Nat → Option Value) × (Nat → Nat → Option Nat)
def b0 (G : GT) : Nat := G.2.2.1.size
def acG (G : GT) : Nat → ClassId := G.2.2.2.1
def smG (G : GT) : Nat → Option va_E := G.2.2.2.2.1
def svG (G : GT) : Nat → Nat → Option Value := G.2.2.2.2.2.1
def ssG (G : GT) : Nat → Nat → Option Nat := G.2.2.2.2.2.2
def RN : Nat → String
  | 0 => RX0 | 1 => RX1 | 2 => RX2 | 3 => RX3 | 4 => RX4 | 5 => RX5 | 6 => RX6 | 7 => RX7 | 8 => RX8 | 9 => RL
  | 10 => RJ0 | 11 => RJ1 | 12 => RJ2 | 13 => RJ3 | 14 => RJ4 | 15 => RJ5 | 16 => RJ6 | 17 => RJ7 | 18 => RJ8 | 19 => RJ9 | 20 => RJ10 | _ => RJx29ce0
/-- the classes whose objects a picture may hold; behind them those of read-only cells -/
abbrev CL : List vw_C := [(RX1, TX1, 5), (RX2, TX2, 3), (RX4, TX4, 5), (RX5, TX5, 5), (RX6, TX6, 4), (RX7, TX7, 9), (RX8, TX8, 18), (RJ4, TJ4, 4)]
def TKind : u_T := fun k => match k with
  | 0 => ("java/lang/Enum", "ordinal", "I", true)
  | _ => ("PenNursery$Kind", "form", "Ljava/lang/String;", true)
abbrev SCL : List vw_C := [(RX3, TKind, 2), (RJ0, TJ0, 4)]
/-- class number (as RN has it) of the place ci in CL, of 8 + ci in SCL -/
def cnOf : Nat → Nat
  | 0 => 1 | 1 => 2 | 2 => 4 | 3 => 5 | 4 => 6 | 5 => 7 | 6 => 8 | 7 => 14 | 8 => 3 | _ => 10
def tyOf : Nat → FieldType
  | 0 => .int | 1 => .char | 2 => .long | 3 => .double | 4 => .byte | 5 => .object RX4 | 6 => .object RX6 | 7 => .object RX1 | _ => .object RX3
def tysG (G : GT) : List (ClassId × FieldType) := [(acG G 0, tyOf 0), (acG G 1, tyOf 1), (acG G 2, tyOf 2), (acG G 3, tyOf 3), (acG G 4, tyOf 4), (acG G 5, tyOf 5), (acG G 6, tyOf 6), (acG G 7, tyOf 7)]
def rE (G : GT) (e : va_E) : va_E := match e with
  | .inl (t, a) => .inl (acG G t, a)
  | .inr o => .inr o
def Fz (G : GT) : Nat → Prop := fun q => b0 G ≤ q
def HF (G : GT) (H : Heap) : Prop := b0 G ≤ H.size ∧ ∀ q, q < b0 G → H[q]? = G.2.2.1[q]?
def HR (G : GT) (h : Hp) (H : Heap) : Prop := H.size = h.1 ∧ HF G H ∧ ∀ a e, h.2 a = some e → b0 G ≤ a ∧ va_at G.2.1 CL (a, rE G e) H
def hput (h : Hp) (a : Nat) (e : va_E) : Hp := (h.1, fun b => if b = a then some e else h.2 b)
def hnew (h : Hp) (e : va_E) : Hp := (h.1 + 1, fun b => if b = h.1 then some e else h.2 b)
theorem hput_1 (h : Hp) (a : Nat) (e : va_E) : (hput h a e).1 = h.1 := rfl
theorem hput_eq (h : Hp) (a : Nat) (e : va_E) : (hput h a e).2 a = some e := if_pos rfl
theorem hput_ne {h : Hp} {a b : Nat} {e : va_E} (hne : b ≠ a) : (hput h a e).2 b = h.2 b := if_neg hne
theorem hput_if (h : Hp) (a b : Nat) (e : va_E) : (hput h a e).2 b = if b = a then some e else h.2 b := rfl
theorem hnew_1 (h : Hp) (e : va_E) : (hnew h e).1 = h.1 + 1 := rfl
theorem hnew_if (h : Hp) (b : Nat) (e : va_E) : (hnew h e).2 b = if b = h.1 then some e else h.2 b := rfl
theorem hput_put (h : Hp) (a : Nat) (e e' : va_E) : hput (hput h a e) a e' = hput h a e' := by
  unfold hput
  refine Prod.ext rfl (funext fun b => ?_)
  show (if b = a then some e' else if b = a then some e else h.2 b) = if b = a then some e' else h.2 b
  by_cases hb : b = a
  · rw [if_pos hb, if_pos hb]
  · rw [if_neg hb, if_neg hb, if_neg hb]
theorem hput_comm {h : Hp} {a b : Nat} {e e' : va_E} (hne : a ≠ b) : hput (hput h a e) b e' = hput (hput h b e') a e := by
  unfold hput
  refine Prod.ext rfl (funext fun c => ?_)
  show (if c = b then some e' else if c = a then some e else h.2 c) = if c = a then some e else if c = b then some e' else h.2 c
  by_cases h1 : c = b
  · by_cases h2 : c = a
    · exact absurd (h2.symm.trans h1) hne
    · rw [if_pos h1, if_neg h2, if_pos h1]
  · rw [if_neg h1, if_neg h1]
theorem hput_self {h : Hp} {a : Nat} {e : va_E} (he : h.2 a = some e) : hput h a e = h := by
  unfold hput
  refine Prod.ext rfl (funext fun c => ?_)
  show (if c = a then some e else h.2 c) = h.2 c
  by_cases h1 : c = a
  · rw [if_pos h1, h1, he]
  · rw [if_neg h1]
/-- the cell of a picture is known: read -/
def cellOf (G : GT) (h : Hp) (a : Nat) : Option va_E := match h.2 a with
  | some e => some e
  | none => smG G a
/-- a read-only cell is as told -/
def sta (G : GT) (U : State) (a : Nat) (e : va_E) : Prop := match e with
  | .inr (ci, fs) => ∃ (j : Nat) (r : vw_C), ci = 8 + j ∧ SCL[j]? = some r ∧ va_O r.1 a (Fz G) U G.2.2.1 ∧ ∀ k v, k < r.2.2 → fs[k]? = some v → va_OF (r.2.1 k).1 (r.2.1 k).2.1 (r.2.1 k).2.2.1 v a (Fz G) U G.2.2.1
  | .inl (t, n, .inl f) => va_T (tyOf t) a n (fun j => .int (f j)) (Fz G) U G.2.2.1
  | .inl (t, n, .inr (.inr (.inr (.inr f)))) => (tyOf t).isReference = true ∧ va_T (tyOf t) a n (fun j => va_rf (f j)) (Fz G) U G.2.2.1
  | _ => False
def NWL : List (String × Nat × MethodName × String) := [(RX6, 28, yX4_init, RX7), (RX5, 31, yX1_init, RX7), (RX7, 35, yX4_init, RX7), (RX6, 101, yX7_isNest, RX7), (RX6, 105, yX7_isFeather, RX7), (RX5, 87, yX7_isDigit, RX7), (RX5, 94, yX7_isFeather, RX7)]
def svf (G : GT) (cn idx : Nat) (v : Value) (U : State) : Prop := ∃ C n d, va_Z C n d v (Fz G) U G.2.2.1 ∧ (Cond.fieldLink (RN cn) idx C n d ∈ GW ∨ ∃ host, va_Nw (.fieldLinkNest (RN cn) idx C n d host) U)
/-- the exceptions that are thrown: class, index of its class, of its constructor (all in PenNursery) -/
def XCL : List (String × Nat × Nat) := [("java/lang/IndexOutOfBoundsException", 229, 233), ("java/util/NoSuchElementException", 122, 126), ("java/lang/IllegalArgumentException", 253, 257), ("java/lang/UnsupportedOperationException", 261, 265), ("java/lang/IllegalStateException", 240, 244), ("java/lang/ArithmeticException", 189, 191)]
abbrev XNM : List String := ["java/lang/RuntimeException", "java/lang/Exception"]
def NCL : List (String × String) := XCL.flatMap fun x => XCL.map fun y => (x.1, y.1)
/-- private methods of AbstractStringBuilder, called on a StringBuilder -/
def PVL : List MethodName := [yJ5_ensureCapacityInternal_d00df, yJ5_newCapacity_0f7a4]
def AOL : List String := [RX4, RX6, RX1]
def FX (G : GT) (U : State) : Prop :=
  (∀ x ∈ XCL, ∀ w ∈ vx_at9 RX7 x.2.2 x.1, w.before #[] U = true) ∧ vx_Zq Bundle.tN "UNASSIGNED_STACK" Bundle.steD (Fz G) U G.2.2.1 ∧ vx_Zq Bundle.tN "SUPPRESSED_SENTINEL" Bundle.listD (Fz G) U G.2.2.1 ∧
  (∀ q ∈ NCL, if q.1 = q.2 then va_Nw (.castable q.1 q.2) U else va_Nc q.1 q.2 U) ∧ (∀ y ∈ PVL, (Cond.selects RJ4 y y).before #[] U = true) ∧ (∀ C ∈ AOL, va_AO C U)
/-- what the tables say, at every state -/
def FV (G : GT) (U : State) : Prop :=
  va_K G.2.1 CL (tysG G) U ∧ (∀ q ∈ NWL, va_Nw (.methodLinkNest q.1 q.2.1 q.2.2.1 q.2.2.2) U) ∧ (∀ a e, smG G a = some e → sta G U a e) ∧
  (∀ cn idx v, svG G cn idx = some v → svf G cn idx v U) ∧ (∀ cn idx q, ssG G cn idx = some q → ∃ tx, vk_R (RN cn) idx tx q U) ∧ FX G U ∧ G.1.stackTraces = false
