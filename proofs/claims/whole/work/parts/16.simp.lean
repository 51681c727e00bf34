/-! ===== printed by a program: the walk as rewriting ===== -/
theorem WR0 : (∀ (G : GT) (y : MD) (d : Nat) (Q : RT → Hp → Prop) (K : KT) (rc rs pc : Nat) (lv : LL) (h : Hp) (st : List Value) (n : Int), ws G y d Q K rc rs pc lv st h (.iconst n) = (K rc rs (pc + 1) lv (.int (kI n) :: st) h)) ∧
  (∀ (G : GT) (y : MD) (d : Nat) (Q : RT → Hp → Prop) (K : KT) (rc rs pc : Nat) (lv : LL) (h : Hp) (st : List Value) (n : Int), ws G y d Q K rc rs pc lv st h (.bipush n) = (K rc rs (pc + 2) lv (.int (bI n) :: st) h)) ∧
  (∀ (G : GT) (y : MD) (d : Nat) (Q : RT → Hp → Prop) (K : KT) (rc rs pc : Nat) (lv : LL) (h : Hp) (st : List Value) (n : Int), ws G y d Q K rc rs pc lv st h (.sipush n) = (K rc rs (pc + 3) lv (.int (sI n) :: st) h)) ∧
  (∀ (G : GT) (y : MD) (d : Nat) (Q : RT → Hp → Prop) (K : KT) (rc rs pc : Nat) (lv : LL) (h : Hp) (st : List Value) (n : Fin 2), ws G y d Q K rc rs pc lv st h (.lconst n) = (K rc rs (pc + 1) lv (.long (lkI n) :: st) h)) ∧
  (∀ (G : GT) (y : MD) (d : Nat) (Q : RT → Hp → Prop) (K : KT) (rc rs pc : Nat) (lv : LL) (h : Hp) (st : List Value) , ws G y d Q K rc rs pc lv st h (.aconst_null) = (K rc rs (pc + 1) lv (.null :: st) h)) ∧
  (∀ (G : GT) (y : MD) (d : Nat) (Q : RT → Hp → Prop) (K : KT) (rc rs pc : Nat) (lv : LL) (h : Hp) (st : List Value) (n : Fin 3), ws G y d Q K rc rs pc lv st h (.fconst n) = (n = 0 ∧ K rc rs (pc + 1) lv (.float FP.fconst0 :: st) h)) ∧
  (∀ (G : GT) (y : MD) (d : Nat) (Q : RT → Hp → Prop) (K : KT) (rc rs pc : Nat) (lv : LL) (h : Hp) (st : List Value) (n : Fin 2), ws G y d Q K rc rs pc lv st h (.dconst n) = (n = 0 ∧ K rc rs (pc + 1) lv (.double FP.dconst0 :: st) h)) ∧
  (∀ (G : GT) (y : MD) (d : Nat) (Q : RT → Hp → Prop) (K : KT) (rc rs pc : Nat) (lv : LL) (h : Hp) (st : List Value) (i : Fin 4), ws G y d Q K rc rs pc lv st h (.iload_n i) = (match lget lv (fv i) with
    | some (.int x) => K rc rs (pc + 1) lv (.int x :: st) h
    | _ => False)) := ⟨by intros; rfl, by intros; rfl, by intros; rfl, by intros; rfl, by intros; rfl, by intros; rfl, by intros; rfl, by intros; rfl⟩
theorem WR1 : (∀ (G : GT) (y : MD) (d : Nat) (Q : RT → Hp → Prop) (K : KT) (rc rs pc : Nat) (lv : LL) (h : Hp) (st : List Value) (i : Nat), ws G y d Q K rc rs pc lv st h (.iload i) = (match lget lv i with
    | some (.int x) => K rc rs (pc + 2) lv (.int x :: st) h
    | _ => False)) ∧
  (∀ (G : GT) (y : MD) (d : Nat) (Q : RT → Hp → Prop) (K : KT) (rc rs pc : Nat) (lv : LL) (h : Hp) (i : Fin 4) (x : Int32) (r : List Value), ws G y d Q K rc rs pc lv (.int x :: r) h (.istore_n i) = (fv i < y.2.2.1 ∧ K rc rs (pc + 1) (lset1 lv (fv i) (.int x)) r h)) ∧
  (∀ (G : GT) (y : MD) (d : Nat) (Q : RT → Hp → Prop) (K : KT) (rc rs pc : Nat) (lv : LL) (h : Hp) (i : Nat) (x : Int32) (r : List Value), ws G y d Q K rc rs pc lv (.int x :: r) h (.istore i) = (i < y.2.2.1 ∧ K rc rs (pc + 2) (lset1 lv i (.int x)) r h)) ∧
  (∀ (G : GT) (y : MD) (d : Nat) (Q : RT → Hp → Prop) (K : KT) (rc rs pc : Nat) (lv : LL) (h : Hp) (st : List Value) (i : Fin 4), ws G y d Q K rc rs pc lv st h (.lload_n i) = (match lget lv (fv i) with
    | some (.long x) => K rc rs (pc + 1) lv (.long x :: st) h
    | _ => False)) ∧
  (∀ (G : GT) (y : MD) (d : Nat) (Q : RT → Hp → Prop) (K : KT) (rc rs pc : Nat) (lv : LL) (h : Hp) (st : List Value) (i : Nat), ws G y d Q K rc rs pc lv st h (.lload i) = (match lget lv i with
    | some (.long x) => K rc rs (pc + 2) lv (.long x :: st) h
    | _ => False)) ∧
  (∀ (G : GT) (y : MD) (d : Nat) (Q : RT → Hp → Prop) (K : KT) (rc rs pc : Nat) (lv : LL) (h : Hp) (i : Fin 4) (x : Int64) (r : List Value), ws G y d Q K rc rs pc lv (.long x :: r) h (.lstore_n i) = (fv i + 1 < y.2.2.1 ∧ K rc rs (pc + 1) (lset2 lv (fv i) (.long x)) r h)) ∧
  (∀ (G : GT) (y : MD) (d : Nat) (Q : RT → Hp → Prop) (K : KT) (rc rs pc : Nat) (lv : LL) (h : Hp) (i : Nat) (x : Int64) (r : List Value), ws G y d Q K rc rs pc lv (.long x :: r) h (.lstore i) = (i + 1 < y.2.2.1 ∧ K rc rs (pc + 2) (lset2 lv i (.long x)) r h)) ∧
  (∀ (G : GT) (y : MD) (d : Nat) (Q : RT → Hp → Prop) (K : KT) (rc rs pc : Nat) (lv : LL) (h : Hp) (st : List Value) (i : Fin 4), ws G y d Q K rc rs pc lv st h (.fload_n i) = (match lget lv (fv i) with
    | some (.float x) => K rc rs (pc + 1) lv (.float x :: st) h
    | _ => False)) := ⟨by intros; rfl, by intros; rfl, by intros; rfl, by intros; rfl, by intros; rfl, by intros; rfl, by intros; rfl, by intros; rfl⟩
theorem WR2 : (∀ (G : GT) (y : MD) (d : Nat) (Q : RT → Hp → Prop) (K : KT) (rc rs pc : Nat) (lv : LL) (h : Hp) (st : List Value) (i : Nat), ws G y d Q K rc rs pc lv st h (.fload i) = (match lget lv i with
    | some (.float x) => K rc rs (pc + 2) lv (.float x :: st) h
    | _ => False)) ∧
  (∀ (G : GT) (y : MD) (d : Nat) (Q : RT → Hp → Prop) (K : KT) (rc rs pc : Nat) (lv : LL) (h : Hp) (i : Fin 4) (x : UInt32) (r : List Value), ws G y d Q K rc rs pc lv (.float x :: r) h (.fstore_n i) = (fv i < y.2.2.1 ∧ K rc rs (pc + 1) (lset1 lv (fv i) (.float x)) r h)) ∧
  (∀ (G : GT) (y : MD) (d : Nat) (Q : RT → Hp → Prop) (K : KT) (rc rs pc : Nat) (lv : LL) (h : Hp) (i : Nat) (x : UInt32) (r : List Value), ws G y d Q K rc rs pc lv (.float x :: r) h (.fstore i) = (i < y.2.2.1 ∧ K rc rs (pc + 2) (lset1 lv i (.float x)) r h)) ∧
  (∀ (G : GT) (y : MD) (d : Nat) (Q : RT → Hp → Prop) (K : KT) (rc rs pc : Nat) (lv : LL) (h : Hp) (st : List Value) (i : Fin 4), ws G y d Q K rc rs pc lv st h (.dload_n i) = (match lget lv (fv i) with
    | some (.double x) => K rc rs (pc + 1) lv (.double x :: st) h
    | _ => False)) ∧
  (∀ (G : GT) (y : MD) (d : Nat) (Q : RT → Hp → Prop) (K : KT) (rc rs pc : Nat) (lv : LL) (h : Hp) (st : List Value) (i : Nat), ws G y d Q K rc rs pc lv st h (.dload i) = (match lget lv i with
    | some (.double x) => K rc rs (pc + 2) lv (.double x :: st) h
    | _ => False)) ∧
  (∀ (G : GT) (y : MD) (d : Nat) (Q : RT → Hp → Prop) (K : KT) (rc rs pc : Nat) (lv : LL) (h : Hp) (i : Fin 4) (x : UInt64) (r : List Value), ws G y d Q K rc rs pc lv (.double x :: r) h (.dstore_n i) = (fv i + 1 < y.2.2.1 ∧ K rc rs (pc + 1) (lset2 lv (fv i) (.double x)) r h)) ∧
  (∀ (G : GT) (y : MD) (d : Nat) (Q : RT → Hp → Prop) (K : KT) (rc rs pc : Nat) (lv : LL) (h : Hp) (i : Nat) (x : UInt64) (r : List Value), ws G y d Q K rc rs pc lv (.double x :: r) h (.dstore i) = (i + 1 < y.2.2.1 ∧ K rc rs (pc + 2) (lset2 lv i (.double x)) r h)) ∧
  (∀ (G : GT) (y : MD) (d : Nat) (Q : RT → Hp → Prop) (K : KT) (rc rs pc : Nat) (lv : LL) (h : Hp) (st : List Value) (i : Fin 4), ws G y d Q K rc rs pc lv st h (.aload_n i) = (match lget lv (fv i) with
    | some (.ref x) => K rc rs (pc + 1) lv (.ref x :: st) h
    | _ => False)) := ⟨by intros; rfl, by intros; rfl, by intros; rfl, by intros; rfl, by intros; rfl, by intros; rfl, by intros; rfl, by intros; rfl⟩
theorem WR3 : (∀ (G : GT) (y : MD) (d : Nat) (Q : RT → Hp → Prop) (K : KT) (rc rs pc : Nat) (lv : LL) (h : Hp) (st : List Value) (i : Nat), ws G y d Q K rc rs pc lv st h (.aload i) = (match lget lv i with
    | some (.ref x) => K rc rs (pc + 2) lv (.ref x :: st) h
    | _ => False)) ∧
  (∀ (G : GT) (y : MD) (d : Nat) (Q : RT → Hp → Prop) (K : KT) (rc rs pc : Nat) (lv : LL) (h : Hp) (i : Fin 4) (x : Nat) (r : List Value), ws G y d Q K rc rs pc lv (.ref x :: r) h (.astore_n i) = (fv i < y.2.2.1 ∧ K rc rs (pc + 1) (lset1 lv (fv i) (.ref x)) r h)) ∧
  (∀ (G : GT) (y : MD) (d : Nat) (Q : RT → Hp → Prop) (K : KT) (rc rs pc : Nat) (lv : LL) (h : Hp) (i : Nat) (x : Nat) (r : List Value), ws G y d Q K rc rs pc lv (.ref x :: r) h (.astore i) = (i < y.2.2.1 ∧ K rc rs (pc + 2) (lset1 lv i (.ref x)) r h)) ∧
  (∀ (G : GT) (y : MD) (d : Nat) (Q : RT → Hp → Prop) (K : KT) (rc rs pc : Nat) (lv : LL) (h : Hp) (st : List Value) (i : Nat) (n : Int), ws G y d Q K rc rs pc lv st h (.iinc i n) = (match lget lv i with
    | some (.int x) => i < y.2.2.1 ∧ K rc rs (pc + 3) (lset1 lv i (.int (x + kI n))) st h
    | _ => False)) ∧
  (∀ (G : GT) (y : MD) (d : Nat) (Q : RT → Hp → Prop) (K : KT) (rc rs pc : Nat) (lv : LL) (h : Hp)  (b : Int32) (a : Int32) (r : List Value), ws G y d Q K rc rs pc lv (.int b :: .int a :: r) h (.iadd) = (K rc rs (pc + 1) lv (.int (a + b) :: r) h)) ∧
  (∀ (G : GT) (y : MD) (d : Nat) (Q : RT → Hp → Prop) (K : KT) (rc rs pc : Nat) (lv : LL) (h : Hp)  (b : Int32) (a : Int32) (r : List Value), ws G y d Q K rc rs pc lv (.int b :: .int a :: r) h (.isub) = (K rc rs (pc + 1) lv (.int (a - b) :: r) h)) ∧
  (∀ (G : GT) (y : MD) (d : Nat) (Q : RT → Hp → Prop) (K : KT) (rc rs pc : Nat) (lv : LL) (h : Hp)  (b : Int32) (a : Int32) (r : List Value), ws G y d Q K rc rs pc lv (.int b :: .int a :: r) h (.imul) = (K rc rs (pc + 1) lv (.int (a * b) :: r) h)) ∧
  (∀ (G : GT) (y : MD) (d : Nat) (Q : RT → Hp → Prop) (K : KT) (rc rs pc : Nat) (lv : LL) (h : Hp)  (b : Int32) (a : Int32) (r : List Value), ws G y d Q K rc rs pc lv (.int b :: .int a :: r) h (.iand) = (K rc rs (pc + 1) lv (.int (a &&& b) :: r) h)) := ⟨by intros; rfl, by intros; rfl, by intros; rfl, by intros; rfl, by intros; rfl, by intros; rfl, by intros; rfl, by intros; rfl⟩
theorem WR4 : (∀ (G : GT) (y : MD) (d : Nat) (Q : RT → Hp → Prop) (K : KT) (rc rs pc : Nat) (lv : LL) (h : Hp)  (b : Int32) (a : Int32) (r : List Value), ws G y d Q K rc rs pc lv (.int b :: .int a :: r) h (.ior) = (K rc rs (pc + 1) lv (.int (a ||| b) :: r) h)) ∧
  (∀ (G : GT) (y : MD) (d : Nat) (Q : RT → Hp → Prop) (K : KT) (rc rs pc : Nat) (lv : LL) (h : Hp)  (b : Int32) (a : Int32) (r : List Value), ws G y d Q K rc rs pc lv (.int b :: .int a :: r) h (.ixor) = (K rc rs (pc + 1) lv (.int (a ^^^ b) :: r) h)) ∧
  (∀ (G : GT) (y : MD) (d : Nat) (Q : RT → Hp → Prop) (K : KT) (rc rs pc : Nat) (lv : LL) (h : Hp)  (b : Int32) (a : Int32) (r : List Value), ws G y d Q K rc rs pc lv (.int b :: .int a :: r) h (.idiv) = (¬ b = 0 ∧ K rc rs (pc + 1) lv (.int (a / b) :: r) h)) ∧
  (∀ (G : GT) (y : MD) (d : Nat) (Q : RT → Hp → Prop) (K : KT) (rc rs pc : Nat) (lv : LL) (h : Hp)  (b : Int32) (a : Int32) (r : List Value), ws G y d Q K rc rs pc lv (.int b :: .int a :: r) h (.irem) = (¬ b = 0 ∧ K rc rs (pc + 1) lv (.int (a - a / b * b) :: r) h)) ∧
  (∀ (G : GT) (y : MD) (d : Nat) (Q : RT → Hp → Prop) (K : KT) (rc rs pc : Nat) (lv : LL) (h : Hp)  (b : Int32) (a : Int32) (r : List Value), ws G y d Q K rc rs pc lv (.int b :: .int a :: r) h (.ishl) = (K rc rs (pc + 1) lv (.int (a <<< (b &&& 31)) :: r) h)) ∧
  (∀ (G : GT) (y : MD) (d : Nat) (Q : RT → Hp → Prop) (K : KT) (rc rs pc : Nat) (lv : LL) (h : Hp)  (b : Int32) (a : Int32) (r : List Value), ws G y d Q K rc rs pc lv (.int b :: .int a :: r) h (.ishr) = (K rc rs (pc + 1) lv (.int (a >>> (b &&& 31)) :: r) h)) ∧
  (∀ (G : GT) (y : MD) (d : Nat) (Q : RT → Hp → Prop) (K : KT) (rc rs pc : Nat) (lv : LL) (h : Hp)  (b : Int64) (a : Int64) (r : List Value), ws G y d Q K rc rs pc lv (.long b :: .long a :: r) h (.ladd) = (K rc rs (pc + 1) lv (.long (a + b) :: r) h)) ∧
  (∀ (G : GT) (y : MD) (d : Nat) (Q : RT → Hp → Prop) (K : KT) (rc rs pc : Nat) (lv : LL) (h : Hp)  (b : Int64) (a : Int64) (r : List Value), ws G y d Q K rc rs pc lv (.long b :: .long a :: r) h (.lsub) = (K rc rs (pc + 1) lv (.long (a - b) :: r) h)) := ⟨by intros; rfl, by intros; rfl, by intros; rfl, by intros; rfl, by intros; rfl, by intros; rfl, by intros; rfl, by intros; rfl⟩
theorem WR5 : (∀ (G : GT) (y : MD) (d : Nat) (Q : RT → Hp → Prop) (K : KT) (rc rs pc : Nat) (lv : LL) (h : Hp)  (b : Int64) (a : Int64) (r : List Value), ws G y d Q K rc rs pc lv (.long b :: .long a :: r) h (.lcmp) = (K rc rs (pc + 1) lv (.int (lg_cmp a b) :: r) h)) ∧
  (∀ (G : GT) (y : MD) (d : Nat) (Q : RT → Hp → Prop) (K : KT) (rc rs pc : Nat) (lv : LL) (h : Hp)  (b : UInt32) (a : UInt32) (r : List Value), ws G y d Q K rc rs pc lv (.float b :: .float a :: r) h (.fdiv) = (vf_n32 (FP.fdiv a b) ∧ K rc rs (pc + 1) lv (.float (FP.fdiv a b) :: r) h)) ∧
  (∀ (G : GT) (y : MD) (d : Nat) (Q : RT → Hp → Prop) (K : KT) (rc rs pc : Nat) (lv : LL) (h : Hp)  (b : UInt64) (a : UInt64) (r : List Value), ws G y d Q K rc rs pc lv (.double b :: .double a :: r) h (.ddiv) = (vf_n64 (FP.ddiv a b) ∧ K rc rs (pc + 1) lv (.double (FP.ddiv a b) :: r) h)) ∧
  (∀ (G : GT) (y : MD) (d : Nat) (Q : RT → Hp → Prop) (K : KT) (rc rs pc : Nat) (lv : LL) (h : Hp) (op : CmpOp) (b : UInt32) (a : UInt32) (r : List Value), ws G y d Q K rc rs pc lv (.float b :: .float a :: r) h (.fcmp op) = (K rc rs (pc + 1) lv (.int (Op.cmpValue (FP.fcmp a b) op) :: r) h)) ∧
  (∀ (G : GT) (y : MD) (d : Nat) (Q : RT → Hp → Prop) (K : KT) (rc rs pc : Nat) (lv : LL) (h : Hp) (op : CmpOp) (b : UInt64) (a : UInt64) (r : List Value), ws G y d Q K rc rs pc lv (.double b :: .double a :: r) h (.dcmp op) = (K rc rs (pc + 1) lv (.int (Op.cmpValue (FP.dcmp a b) op) :: r) h)) ∧
  (∀ (G : GT) (y : MD) (d : Nat) (Q : RT → Hp → Prop) (K : KT) (rc rs pc : Nat) (lv : LL) (h : Hp)  (a : Int32) (r : List Value), ws G y d Q K rc rs pc lv (.int a :: r) h (.ineg) = (K rc rs (pc + 1) lv (.int (-a) :: r) h)) ∧
  (∀ (G : GT) (y : MD) (d : Nat) (Q : RT → Hp → Prop) (K : KT) (rc rs pc : Nat) (lv : LL) (h : Hp)  (a : Int32) (r : List Value), ws G y d Q K rc rs pc lv (.int a :: r) h (.i2l) = (K rc rs (pc + 1) lv (.long (a.toInt64) :: r) h)) ∧
  (∀ (G : GT) (y : MD) (d : Nat) (Q : RT → Hp → Prop) (K : KT) (rc rs pc : Nat) (lv : LL) (h : Hp)  (a : Int64) (r : List Value), ws G y d Q K rc rs pc lv (.long a :: r) h (.l2i) = (K rc rs (pc + 1) lv (.int (a.toInt32) :: r) h)) := ⟨by intros; rfl, by intros; rfl, by intros; rfl, by intros; rfl, by intros; rfl, by intros; rfl, by intros; rfl, by intros; rfl⟩
theorem WR6 : (∀ (G : GT) (y : MD) (d : Nat) (Q : RT → Hp → Prop) (K : KT) (rc rs pc : Nat) (lv : LL) (h : Hp)  (a : Int32) (r : List Value), ws G y d Q K rc rs pc lv (.int a :: r) h (.i2c) = (K rc rs (pc + 1) lv (.int ((a.toUInt32 % 65536).toInt32) :: r) h)) ∧
  (∀ (G : GT) (y : MD) (d : Nat) (Q : RT → Hp → Prop) (K : KT) (rc rs pc : Nat) (lv : LL) (h : Hp)  (a : Int32) (r : List Value), ws G y d Q K rc rs pc lv (.int a :: r) h (.i2b) = (K rc rs (pc + 1) lv (.int (a.toInt8.toInt32) :: r) h)) ∧
  (∀ (G : GT) (y : MD) (d : Nat) (Q : RT → Hp → Prop) (K : KT) (rc rs pc : Nat) (lv : LL) (h : Hp)  (a : Int32) (r : List Value), ws G y d Q K rc rs pc lv (.int a :: r) h (.i2f) = (K rc rs (pc + 1) lv (.float (FP.i2f a) :: r) h)) ∧
  (∀ (G : GT) (y : MD) (d : Nat) (Q : RT → Hp → Prop) (K : KT) (rc rs pc : Nat) (lv : LL) (h : Hp)  (a : Int32) (r : List Value), ws G y d Q K rc rs pc lv (.int a :: r) h (.i2d) = (K rc rs (pc + 1) lv (.double (FP.i2d a) :: r) h)) ∧
  (∀ (G : GT) (y : MD) (d : Nat) (Q : RT → Hp → Prop) (K : KT) (rc rs pc : Nat) (lv : LL) (h : Hp)  (a : UInt32) (r : List Value), ws G y d Q K rc rs pc lv (.float a :: r) h (.f2d) = (vf_n64 (FP.f2d a) ∧ K rc rs (pc + 1) lv (.double (FP.f2d a) :: r) h)) ∧
  (∀ (G : GT) (y : MD) (d : Nat) (Q : RT → Hp → Prop) (K : KT) (rc rs pc : Nat) (lv : LL) (h : Hp)  (v : Value) (r : List Value), ws G y d Q K rc rs pc lv (v :: r) h (.dup) = (v.category = 1 ∧ K rc rs (pc + 1) lv (v :: v :: r) h)) ∧
  (∀ (G : GT) (y : MD) (d : Nat) (Q : RT → Hp → Prop) (K : KT) (rc rs pc : Nat) (lv : LL) (h : Hp)  (v : Value) (w : Value) (r : List Value), ws G y d Q K rc rs pc lv (v :: w :: r) h (.dup2) = ((v.category = 1 ∧ w.category = 1) ∧ K rc rs (pc + 1) lv (v :: w :: v :: w :: r) h)) ∧
  (∀ (G : GT) (y : MD) (d : Nat) (Q : RT → Hp → Prop) (K : KT) (rc rs pc : Nat) (lv : LL) (h : Hp)  (v : Value) (r : List Value), ws G y d Q K rc rs pc lv (v :: r) h (.pop) = (v.category = 1 ∧ K rc rs (pc + 1) lv r h)) := ⟨by intros; rfl, by intros; rfl, by intros; rfl, by intros; rfl, by intros; rfl, by intros; rfl, by intros; rfl, by intros; rfl⟩
theorem WR7 : (∀ (G : GT) (y : MD) (d : Nat) (Q : RT → Hp → Prop) (K : KT) (rc rs pc : Nat) (lv : LL) (h : Hp) (off : Int) (b : Int32) (a : Int32) (r : List Value), ws G y d Q K rc rs pc lv (.int b :: .int a :: r) h (.if_icmp .eq off) = (tok pc off ∧ (a = b → K rc rs (tgt pc off) lv r h) ∧ (¬ a = b → K rc rs (pc + 3) lv r h))) ∧
  (∀ (G : GT) (y : MD) (d : Nat) (Q : RT → Hp → Prop) (K : KT) (rc rs pc : Nat) (lv : LL) (h : Hp) (off : Int) (b : Int32) (a : Int32) (r : List Value), ws G y d Q K rc rs pc lv (.int b :: .int a :: r) h (.if_icmp .ne off) = (tok pc off ∧ (¬ a = b → K rc rs (tgt pc off) lv r h) ∧ (a = b → K rc rs (pc + 3) lv r h))) ∧
  (∀ (G : GT) (y : MD) (d : Nat) (Q : RT → Hp → Prop) (K : KT) (rc rs pc : Nat) (lv : LL) (h : Hp) (off : Int) (b : Int32) (a : Int32) (r : List Value), ws G y d Q K rc rs pc lv (.int b :: .int a :: r) h (.if_icmp .lt off) = (tok pc off ∧ (a < b → K rc rs (tgt pc off) lv r h) ∧ (¬ a < b → K rc rs (pc + 3) lv r h))) ∧
  (∀ (G : GT) (y : MD) (d : Nat) (Q : RT → Hp → Prop) (K : KT) (rc rs pc : Nat) (lv : LL) (h : Hp) (off : Int) (b : Int32) (a : Int32) (r : List Value), ws G y d Q K rc rs pc lv (.int b :: .int a :: r) h (.if_icmp .ge off) = (tok pc off ∧ (b ≤ a → K rc rs (tgt pc off) lv r h) ∧ (¬ b ≤ a → K rc rs (pc + 3) lv r h))) ∧
  (∀ (G : GT) (y : MD) (d : Nat) (Q : RT → Hp → Prop) (K : KT) (rc rs pc : Nat) (lv : LL) (h : Hp) (off : Int) (b : Int32) (a : Int32) (r : List Value), ws G y d Q K rc rs pc lv (.int b :: .int a :: r) h (.if_icmp .gt off) = (tok pc off ∧ (b < a → K rc rs (tgt pc off) lv r h) ∧ (¬ b < a → K rc rs (pc + 3) lv r h))) ∧
  (∀ (G : GT) (y : MD) (d : Nat) (Q : RT → Hp → Prop) (K : KT) (rc rs pc : Nat) (lv : LL) (h : Hp) (off : Int) (b : Int32) (a : Int32) (r : List Value), ws G y d Q K rc rs pc lv (.int b :: .int a :: r) h (.if_icmp .le off) = (tok pc off ∧ (a ≤ b → K rc rs (tgt pc off) lv r h) ∧ (¬ a ≤ b → K rc rs (pc + 3) lv r h))) ∧
  (∀ (G : GT) (y : MD) (d : Nat) (Q : RT → Hp → Prop) (K : KT) (rc rs pc : Nat) (lv : LL) (h : Hp) (off : Int) (a : Int32) (r : List Value), ws G y d Q K rc rs pc lv (.int a :: r) h (.ifCond .eq off) = (tok pc off ∧ (a = 0 → K rc rs (tgt pc off) lv r h) ∧ (¬ a = 0 → K rc rs (pc + 3) lv r h))) ∧
  (∀ (G : GT) (y : MD) (d : Nat) (Q : RT → Hp → Prop) (K : KT) (rc rs pc : Nat) (lv : LL) (h : Hp) (off : Int) (a : Int32) (r : List Value), ws G y d Q K rc rs pc lv (.int a :: r) h (.ifCond .ne off) = (tok pc off ∧ (¬ a = 0 → K rc rs (tgt pc off) lv r h) ∧ (a = 0 → K rc rs (pc + 3) lv r h))) := ⟨by intros; rfl, by intros; rfl, by intros; rfl, by intros; rfl, by intros; rfl, by intros; rfl, by intros; rfl, by intros; rfl⟩
theorem WR8 : (∀ (G : GT) (y : MD) (d : Nat) (Q : RT → Hp → Prop) (K : KT) (rc rs pc : Nat) (lv : LL) (h : Hp) (off : Int) (a : Int32) (r : List Value), ws G y d Q K rc rs pc lv (.int a :: r) h (.ifCond .lt off) = (tok pc off ∧ (a < 0 → K rc rs (tgt pc off) lv r h) ∧ (¬ a < 0 → K rc rs (pc + 3) lv r h))) ∧
  (∀ (G : GT) (y : MD) (d : Nat) (Q : RT → Hp → Prop) (K : KT) (rc rs pc : Nat) (lv : LL) (h : Hp) (off : Int) (a : Int32) (r : List Value), ws G y d Q K rc rs pc lv (.int a :: r) h (.ifCond .ge off) = (tok pc off ∧ (0 ≤ a → K rc rs (tgt pc off) lv r h) ∧ (¬ 0 ≤ a → K rc rs (pc + 3) lv r h))) ∧
  (∀ (G : GT) (y : MD) (d : Nat) (Q : RT → Hp → Prop) (K : KT) (rc rs pc : Nat) (lv : LL) (h : Hp) (off : Int) (a : Int32) (r : List Value), ws G y d Q K rc rs pc lv (.int a :: r) h (.ifCond .gt off) = (tok pc off ∧ (0 < a → K rc rs (tgt pc off) lv r h) ∧ (¬ 0 < a → K rc rs (pc + 3) lv r h))) ∧
  (∀ (G : GT) (y : MD) (d : Nat) (Q : RT → Hp → Prop) (K : KT) (rc rs pc : Nat) (lv : LL) (h : Hp) (off : Int) (a : Int32) (r : List Value), ws G y d Q K rc rs pc lv (.int a :: r) h (.ifCond .le off) = (tok pc off ∧ (a ≤ 0 → K rc rs (tgt pc off) lv r h) ∧ (¬ a ≤ 0 → K rc rs (pc + 3) lv r h))) ∧
  (∀ (G : GT) (y : MD) (d : Nat) (Q : RT → Hp → Prop) (K : KT) (rc rs pc : Nat) (lv : LL) (h : Hp) (st : List Value) (off : Int), ws G y d Q K rc rs pc lv st h (.goto off) = (tok pc off ∧ K rc rs (tgt pc off) lv st h)) ∧
  (∀ (G : GT) (y : MD) (d : Nat) (Q : RT → Hp → Prop) (K : KT) (rc rs pc : Nat) (lv : LL) (h : Hp) (st : List Value) (idx : Nat), ws G y d Q K rc rs pc lv st h (.getfield idx) = (match FT y.2.2.2.2.2 idx, st with
    | some (ci, k, _, _), .ref a :: r => ws_get (if ci < 8 then h.2 a else smG G a) ci k (fun v => K rc rs (pc + 3) lv (v :: r) h)
    | _, _ => False)) ∧
  (∀ (G : GT) (y : MD) (d : Nat) (Q : RT → Hp → Prop) (K : KT) (rc rs pc : Nat) (lv : LL) (h : Hp) (st : List Value) (idx : Nat), ws G y d Q K rc rs pc lv st h (.putfield idx) = (match FT y.2.2.2.2.2 idx, st with
    | some (ci, k, tc, fin), v :: .ref a :: r => tc ≠ 9 ∧ nokc tc v ∧ (fin = true → y.1.name = "<init>") ∧ ci < 8 ∧ ws_put (h.2 a) ci k (fun fs => K rc rs (pc + 3) lv r (hput h a (.inr (ci, fs.set k v))))
    | _, _ => False)) ∧
  (∀ (G : GT) (y : MD) (d : Nat) (Q : RT → Hp → Prop) (K : KT) (rc rs pc : Nat) (lv : LL) (h : Hp) (st : List Value) , ws G y d Q K rc rs pc lv st h (.iaload) = (match st, ws_cell G h st with
    | .int i :: .ref a :: r, some (.inl (0, n, .inl f)) => vp_in i n ∧ K rc rs (pc + 1) lv (.int (f i.toNatClampNeg) :: r) h
    | _, _ => False)) := ⟨by intros; rfl, by intros; rfl, by intros; rfl, by intros; rfl, by intros; rfl, by intros; rfl, by intros; rfl, by intros; rfl⟩
theorem WR9 : (∀ (G : GT) (y : MD) (d : Nat) (Q : RT → Hp → Prop) (K : KT) (rc rs pc : Nat) (lv : LL) (h : Hp) (st : List Value) , ws G y d Q K rc rs pc lv st h (.caload) = (match st, ws_hcell h st with
    | .int i :: .ref a :: r, some (.inl (1, n, .inl f)) => vp_in i n ∧ K rc rs (pc + 1) lv (.int (f i.toNatClampNeg) :: r) h
    | _, _ => False)) ∧
  (∀ (G : GT) (y : MD) (d : Nat) (Q : RT → Hp → Prop) (K : KT) (rc rs pc : Nat) (lv : LL) (h : Hp) (st : List Value) , ws G y d Q K rc rs pc lv st h (.laload) = (match st, ws_hcell h st with
    | .int i :: .ref a :: r, some (.inl (2, n, .inr (.inl f))) => vp_in i n ∧ K rc rs (pc + 1) lv (.long (f i.toNatClampNeg) :: r) h
    | _, _ => False)) ∧
  (∀ (G : GT) (y : MD) (d : Nat) (Q : RT → Hp → Prop) (K : KT) (rc rs pc : Nat) (lv : LL) (h : Hp) (st : List Value) , ws G y d Q K rc rs pc lv st h (.daload) = (match st, ws_hcell h st with
    | .int i :: .ref a :: r, some (.inl (3, n, .inr (.inr (.inr (.inl f))))) => vp_in i n ∧ K rc rs (pc + 1) lv (.double (f i.toNatClampNeg) :: r) h
    | _, _ => False)) ∧
  (∀ (G : GT) (y : MD) (d : Nat) (Q : RT → Hp → Prop) (K : KT) (rc rs pc : Nat) (lv : LL) (h : Hp) (st : List Value) , ws G y d Q K rc rs pc lv st h (.baload) = (match st, ws_cell G h st with
    | .int i :: .ref a :: r, some (.inl (4, n, .inl f)) => vp_in i n ∧ K rc rs (pc + 1) lv (.int (f i.toNatClampNeg) :: r) h
    | _, _ => False)) ∧
  (∀ (G : GT) (y : MD) (d : Nat) (Q : RT → Hp → Prop) (K : KT) (rc rs pc : Nat) (lv : LL) (h : Hp) (st : List Value) , ws G y d Q K rc rs pc lv st h (.aaload) = (match st, ws_cell G h st with
    | .int i :: .ref a :: r, some (.inl (t, n, .inr (.inr (.inr (.inr f))))) => vp_in i n ∧ (t = 5 ∨ t = 6 ∨ t = 7 ∨ h.2 a = none) ∧ K rc rs (pc + 1) lv (va_rf (f i.toNatClampNeg) :: r) h
    | _, _ => False)) ∧
  (∀ (G : GT) (y : MD) (d : Nat) (Q : RT → Hp → Prop) (K : KT) (rc rs pc : Nat) (lv : LL) (h : Hp) (st : List Value) , ws G y d Q K rc rs pc lv st h (.iastore) = (match st, ws_hcell3 h st with
    | .int x :: .int i :: .ref a :: r, some (.inl (0, n, .inl f)) => vp_in i n ∧ K rc rs (pc + 1) lv r (hput h a (.inl (0, n, .inl (upd f i.toNatClampNeg x))))
    | _, _ => False)) ∧
  (∀ (G : GT) (y : MD) (d : Nat) (Q : RT → Hp → Prop) (K : KT) (rc rs pc : Nat) (lv : LL) (h : Hp) (st : List Value) , ws G y d Q K rc rs pc lv st h (.castore) = (match st, ws_hcell3 h st with
    | .int x :: .int i :: .ref a :: r, some (.inl (1, n, .inl f)) => vp_in i n ∧ K rc rs (pc + 1) lv r (hput h a (.inl (1, n, .inl (upd f i.toNatClampNeg (vp_nar .char x)))))
    | _, _ => False)) ∧
  (∀ (G : GT) (y : MD) (d : Nat) (Q : RT → Hp → Prop) (K : KT) (rc rs pc : Nat) (lv : LL) (h : Hp) (st : List Value) , ws G y d Q K rc rs pc lv st h (.bastore) = (match st, ws_hcell3 h st with
    | .int x :: .int i :: .ref a :: r, some (.inl (4, n, .inl f)) => vp_in i n ∧ K rc rs (pc + 1) lv r (hput h a (.inl (4, n, .inl (upd f i.toNatClampNeg (vp_nar .byte x)))))
    | _, _ => False)) := ⟨by intros; rfl, by intros; rfl, by intros; rfl, by intros; rfl, by intros; rfl, by intros; rfl, by intros; rfl, by intros; rfl⟩
theorem WR10 : (∀ (G : GT) (y : MD) (d : Nat) (Q : RT → Hp → Prop) (K : KT) (rc rs pc : Nat) (lv : LL) (h : Hp) (st : List Value) , ws G y d Q K rc rs pc lv st h (.lastore) = (match st, ws_hcell3 h st with
    | .long x :: .int i :: .ref a :: r, some (.inl (2, n, .inr (.inl f))) => vp_in i n ∧ K rc rs (pc + 1) lv r (hput h a (.inl (2, n, .inr (.inl (vp_updL f i.toNatClampNeg x)))))
    | _, _ => False)) ∧
  (∀ (G : GT) (y : MD) (d : Nat) (Q : RT → Hp → Prop) (K : KT) (rc rs pc : Nat) (lv : LL) (h : Hp) (st : List Value) , ws G y d Q K rc rs pc lv st h (.dastore) = (match st, ws_hcell3 h st with
    | .double x :: .int i :: .ref a :: r, some (.inl (3, n, .inr (.inr (.inr (.inl f))))) => vp_in i n ∧ K rc rs (pc + 1) lv r (hput h a (.inl (3, n, .inr (.inr (.inr (.inl (vf_upd f i.toNatClampNeg x)))))))
    | _, _ => False)) ∧
  (∀ (G : GT) (y : MD) (d : Nat) (Q : RT → Hp → Prop) (K : KT) (rc rs pc : Nat) (lv : LL) (h : Hp) (st : List Value) , ws G y d Q K rc rs pc lv st h (.aastore) = (match st, ws_hcell3 h st, ws_hcell1 h st with
    | .ref v :: .int i :: .ref a :: r, some (.inl (t, n, .inr (.inr (.inr (.inr f))))), some (.inr (ci, vs)) => ((t = 5 ∧ ci = 2) ∨ (t = 6 ∧ ci = 4) ∨ (t = 7 ∧ ci = 0)) ∧ vp_in i n ∧ K rc rs (pc + 1) lv r (hput h a (.inl (t, n, .inr (.inr (.inr (.inr (va_up f i.toNatClampNeg (some v))))))))
    | _, _, _ => False)) ∧
  (∀ (G : GT) (y : MD) (d : Nat) (Q : RT → Hp → Prop) (K : KT) (rc rs pc : Nat) (lv : LL) (h : Hp) (st : List Value) , ws G y d Q K rc rs pc lv st h (.arraylength) = (match st, ws_cell1 G h st with
    | .ref a :: r, some (.inl (t, n, f)) => (t < 8 ∨ h.2 a = none) ∧ K rc rs (pc + 1) lv (.int (nI n) :: r) h
    | _, _ => False)) ∧
  (∀ (G : GT) (y : MD) (d : Nat) (Q : RT → Hp → Prop) (K : KT) (rc rs pc : Nat) (lv : LL) (h : Hp) (st : List Value) (a9 : ArrayType), ws G y d Q K rc rs pc lv st h (.newarray a9) = (match st, atNo a9 with
    | .int n :: r, some t => ∃ k : Nat, n = nI k ∧ k < 65536 ∧ 1 ≤ rc ∧ k ≤ rs ∧ K (rc - 1) (rs - k) (pc + 2) lv (.ref h.1 :: r) (hnew h (.inl (t, zrow t k)))
    | _, _ => False)) ∧
  (∀ (G : GT) (y : MD) (d : Nat) (Q : RT → Hp → Prop) (K : KT) (rc rs pc : Nat) (lv : LL) (h : Hp) (st : List Value) (idx : Nat), ws G y d Q K rc rs pc lv st h (.anewarray idx) = (match st, AN y.2.2.2.2.2 idx with
    | .int n :: r, some t => ∃ k : Nat, n = nI k ∧ k < 65536 ∧ 1 ≤ rc ∧ k ≤ rs ∧ K (rc - 1) (rs - k) (pc + 3) lv (.ref h.1 :: r) (hnew h (.inl (t, k, .inr (.inr (.inr (.inr (fun _ => none)))))))
    | _, _ => False)) ∧
  (∀ (G : GT) (y : MD) (d : Nat) (Q : RT → Hp → Prop) (K : KT) (rc rs pc : Nat) (lv : LL) (h : Hp) (st : List Value) (idx : Nat), ws G y d Q K rc rs pc lv st h (.new idx) = (match NT y.2.2.2.2.2 idx, XL y.2.2.2.2.2 idx with
    | some (ci, fs, N), _ => 1 ≤ rc ∧ N ≤ rs ∧ K (rc - 1) (rs - N) (pc + 3) lv (.ref h.1 :: st) (hnew h (.inr (ci, fs)))
    | none, some (E, ic) => ws_throw G y d Q rc rs pc st h idx E ic
    | _, _ => False)) ∧
  (∀ (G : GT) (y : MD) (d : Nat) (Q : RT → Hp → Prop) (K : KT) (rc rs pc : Nat) (lv : LL) (h : Hp) (st : List Value) (idx : Nat), ws G y d Q K rc rs pc lv st h (.getstatic idx) = (match svG G y.2.2.2.2.2 idx with
    | some v => K rc rs (pc + 3) lv (v :: st) h
    | _ => False)) := ⟨by intros; rfl, by intros; rfl, by intros; rfl, by intros; rfl, by intros; rfl, by intros; rfl, by intros; rfl, by intros; rfl⟩
theorem WR11 : (∀ (G : GT) (y : MD) (d : Nat) (Q : RT → Hp → Prop) (K : KT) (rc rs pc : Nat) (lv : LL) (h : Hp) (st : List Value) (idx : Nat), ws G y d Q K rc rs pc lv st h (.ldc idx) = (match CT y.2.2.2.2.2 idx, ssG G y.2.2.2.2.2 idx with
    | some v, _ => K rc rs (pc + 2) lv (.int v :: st) h
    | none, some q => K rc rs (pc + 2) lv (.ref q :: st) h
    | _, _ => False)) ∧
  (∀ (G : GT) (y : MD) (d : Nat) (Q : RT → Hp → Prop) (K : KT) (rc rs pc : Nat) (lv : LL) (h : Hp) (st : List Value) (idx : Nat), ws G y d Q K rc rs pc lv st h (.invokevirtual idx) = (ws_call G y d Q K rc rs pc lv st h (fun k => k = 0 ∨ k = 6 ∨ k = 8) (MT y.2.2.2.2.2 idx))) ∧
  (∀ (G : GT) (y : MD) (d : Nat) (Q : RT → Hp → Prop) (K : KT) (rc rs pc : Nat) (lv : LL) (h : Hp) (st : List Value) (idx : Nat), ws G y d Q K rc rs pc lv st h (.invokespecial idx) = ((OI y.2.2.2.2.2 idx = true ∧ ws_oi d K rc rs pc lv st h) ∨ (OI y.2.2.2.2.2 idx = false ∧ ws_call G y d Q K rc rs pc lv st h (fun k => k = 2 ∨ k = 4 ∨ k = 7) (MT y.2.2.2.2.2 idx)))) ∧
  (∀ (G : GT) (y : MD) (d : Nat) (Q : RT → Hp → Prop) (K : KT) (rc rs pc : Nat) (lv : LL) (h : Hp) (st : List Value) (idx : Nat), ws G y d Q K rc rs pc lv st h (.invokestatic idx) = ((AC y.2.2.2.2.2 idx = true ∧ ws_ac d K rc rs pc lv st h) ∨ (MN y.2.2.2.2.2 idx = true ∧ ws_mm (fun a b => if b < a then b else a) d K rc rs pc lv st h) ∨ (MX y.2.2.2.2.2 idx = true ∧ ws_mm (fun a b => if a < b then b else a) d K rc rs pc lv st h) ∨ ((AC y.2.2.2.2.2 idx = false ∧ MN y.2.2.2.2.2 idx = false ∧ MX y.2.2.2.2.2 idx = false) ∧ ws_callS G y d Q K rc rs pc lv st h (MT y.2.2.2.2.2 idx)))) ∧
  (∀ (G : GT) (y : MD) (d : Nat) (Q : RT → Hp → Prop) (K : KT) (rc rs pc : Nat) (lv : LL) (h : Hp) (st : List Value) , ws G y d Q K rc rs pc lv st h (.ireturn) = (match st, y.2.2.2.1 with
    | [.int x], some ty => retok ty x ∧ Q (.inl (some (.int x))) h
    | _, _ => False)) ∧
  (∀ (G : GT) (y : MD) (d : Nat) (Q : RT → Hp → Prop) (K : KT) (rc rs pc : Nat) (lv : LL) (h : Hp) (st : List Value) , ws G y d Q K rc rs pc lv st h (.return_) = (match st, y.2.2.2.1 with
    | [], none => Q (.inl none) h
    | _, _ => False)) ∧
  (∀ (G : GT) (y : MD) (d : Nat) (Q : RT → Hp → Prop) (K : KT) (rc rs pc : Nat) (lv : LL) (h : Hp) (st : List Value) , ws G y d Q K rc rs pc lv st h (.lreturn) = (match st, y.2.2.2.1 with
    | [.long x], some .long => Q (.inl (some (.long x))) h
    | _, _ => False)) ∧
  (∀ (G : GT) (y : MD) (d : Nat) (Q : RT → Hp → Prop) (K : KT) (rc rs pc : Nat) (lv : LL) (h : Hp) (st : List Value) , ws G y d Q K rc rs pc lv st h (.freturn) = (match st, y.2.2.2.1 with
    | [.float x], some .float => Q (.inl (some (.float x))) h
    | _, _ => False)) := ⟨by intros; rfl, by intros; rfl, by intros; rfl, by intros; rfl, by intros; rfl, by intros; rfl, by intros; rfl, by intros; rfl⟩
theorem WR12 : (∀ (G : GT) (y : MD) (d : Nat) (Q : RT → Hp → Prop) (K : KT) (rc rs pc : Nat) (lv : LL) (h : Hp) (st : List Value) , ws G y d Q K rc rs pc lv st h (.dreturn) = (match st, y.2.2.2.1 with
    | [.double x], some .double => Q (.inl (some (.double x))) h
    | _, _ => False)) ∧
  (∀ (G : GT) (y : MD) (d : Nat) (Q : RT → Hp → Prop) (K : KT) (rc rs pc : Nat) (lv : LL) (h : Hp) (st : List Value) , ws G y d Q K rc rs pc lv st h (.areturn) = (match st, y.2.2.2.1 with
    | [.ref x], some ty => isRefT ty = true ∧ Q (.inl (some (.ref x))) h
    | _, _ => False)) := ⟨by intros; rfl, by intros; rfl⟩
theorem WI0 : (∀ (n : Int), ilen (.iconst n) = 1) ∧ (∀ (n : Int), ilen (.bipush n) = 2) ∧ (∀ (n : Int), ilen (.sipush n) = 3) ∧ (∀ (n : Fin 2), ilen (.lconst n) = 1) ∧ (ilen (.aconst_null) = 1) ∧ (∀ (n : Fin 3), ilen (.fconst n) = 1) ∧ (∀ (n : Fin 2), ilen (.dconst n) = 1) ∧ (∀ (i : Fin 4), ilen (.iload_n i) = 1) ∧ (∀ (i : Nat), ilen (.iload i) = 2) ∧ (∀ (i : Fin 4), ilen (.istore_n i) = 1) ∧ (∀ (i : Nat), ilen (.istore i) = 2) ∧ (∀ (i : Fin 4), ilen (.lload_n i) = 1) ∧ (∀ (i : Nat), ilen (.lload i) = 2) ∧ (∀ (i : Fin 4), ilen (.lstore_n i) = 1) ∧ (∀ (i : Nat), ilen (.lstore i) = 2) ∧ (∀ (i : Fin 4), ilen (.fload_n i) = 1) ∧ (∀ (i : Nat), ilen (.fload i) = 2) ∧ (∀ (i : Fin 4), ilen (.fstore_n i) = 1) ∧ (∀ (i : Nat), ilen (.fstore i) = 2) ∧ (∀ (i : Fin 4), ilen (.dload_n i) = 1) ∧ (∀ (i : Nat), ilen (.dload i) = 2) ∧ (∀ (i : Fin 4), ilen (.dstore_n i) = 1) ∧ (∀ (i : Nat), ilen (.dstore i) = 2) ∧ (∀ (i : Fin 4), ilen (.aload_n i) = 1) ∧ (∀ (i : Nat), ilen (.aload i) = 2) ∧ (∀ (i : Fin 4), ilen (.astore_n i) = 1) ∧ (∀ (i : Nat), ilen (.astore i) = 2) ∧ (∀ (i : Nat) (n : Int), ilen (.iinc i n) = 3) ∧ (ilen (.iadd) = 1) ∧ (ilen (.isub) = 1) := ⟨by intros; rfl, by intros; rfl, by intros; rfl, by intros; rfl, by intros; rfl, by intros; rfl, by intros; rfl, by intros; rfl, by intros; rfl, by intros; rfl, by intros; rfl, by intros; rfl, by intros; rfl, by intros; rfl, by intros; rfl, by intros; rfl, by intros; rfl, by intros; rfl, by intros; rfl, by intros; rfl, by intros; rfl, by intros; rfl, by intros; rfl, by intros; rfl, by intros; rfl, by intros; rfl, by intros; rfl, by intros; rfl, by intros; rfl, by intros; rfl⟩
theorem WI1 : (ilen (.imul) = 1) ∧ (ilen (.iand) = 1) ∧ (ilen (.ior) = 1) ∧ (ilen (.ixor) = 1) ∧ (ilen (.idiv) = 1) ∧ (ilen (.irem) = 1) ∧ (ilen (.ishl) = 1) ∧ (ilen (.ishr) = 1) ∧ (ilen (.ladd) = 1) ∧ (ilen (.lsub) = 1) ∧ (ilen (.lcmp) = 1) ∧ (ilen (.fdiv) = 1) ∧ (ilen (.ddiv) = 1) ∧ (∀ (op : CmpOp), ilen (.fcmp op) = 1) ∧ (∀ (op : CmpOp), ilen (.dcmp op) = 1) ∧ (ilen (.ineg) = 1) ∧ (ilen (.i2l) = 1) ∧ (ilen (.l2i) = 1) ∧ (ilen (.i2c) = 1) ∧ (ilen (.i2b) = 1) ∧ (ilen (.i2f) = 1) ∧ (ilen (.i2d) = 1) ∧ (ilen (.f2d) = 1) ∧ (ilen (.dup) = 1) ∧ (ilen (.dup2) = 1) ∧ (ilen (.pop) = 1) ∧ (∀ (off : Int), ilen (.if_icmp .eq off) = 3) ∧ (∀ (off : Int), ilen (.if_icmp .ne off) = 3) ∧ (∀ (off : Int), ilen (.if_icmp .lt off) = 3) ∧ (∀ (off : Int), ilen (.if_icmp .ge off) = 3) := ⟨by intros; rfl, by intros; rfl, by intros; rfl, by intros; rfl, by intros; rfl, by intros; rfl, by intros; rfl, by intros; rfl, by intros; rfl, by intros; rfl, by intros; rfl, by intros; rfl, by intros; rfl, by intros; rfl, by intros; rfl, by intros; rfl, by intros; rfl, by intros; rfl, by intros; rfl, by intros; rfl, by intros; rfl, by intros; rfl, by intros; rfl, by intros; rfl, by intros; rfl, by intros; rfl, by intros; rfl, by intros; rfl, by intros; rfl, by intros; rfl⟩
theorem WI2 : (∀ (off : Int), ilen (.if_icmp .gt off) = 3) ∧ (∀ (off : Int), ilen (.if_icmp .le off) = 3) ∧ (∀ (off : Int), ilen (.ifCond .eq off) = 3) ∧ (∀ (off : Int), ilen (.ifCond .ne off) = 3) ∧ (∀ (off : Int), ilen (.ifCond .lt off) = 3) ∧ (∀ (off : Int), ilen (.ifCond .ge off) = 3) ∧ (∀ (off : Int), ilen (.ifCond .gt off) = 3) ∧ (∀ (off : Int), ilen (.ifCond .le off) = 3) ∧ (∀ (off : Int), ilen (.goto off) = 3) ∧ (∀ (idx : Nat), ilen (.getfield idx) = 3) ∧ (∀ (idx : Nat), ilen (.putfield idx) = 3) ∧ (ilen (.iaload) = 1) ∧ (ilen (.caload) = 1) ∧ (ilen (.laload) = 1) ∧ (ilen (.daload) = 1) ∧ (ilen (.baload) = 1) ∧ (ilen (.aaload) = 1) ∧ (ilen (.iastore) = 1) ∧ (ilen (.castore) = 1) ∧ (ilen (.bastore) = 1) ∧ (ilen (.lastore) = 1) ∧ (ilen (.dastore) = 1) ∧ (ilen (.aastore) = 1) ∧ (ilen (.arraylength) = 1) ∧ (∀ (a9 : ArrayType), ilen (.newarray a9) = 2) ∧ (∀ (idx : Nat), ilen (.anewarray idx) = 3) ∧ (∀ (idx : Nat), ilen (.new idx) = 3) ∧ (∀ (idx : Nat), ilen (.getstatic idx) = 3) ∧ (∀ (idx : Nat), ilen (.ldc idx) = 2) ∧ (∀ (idx : Nat), ilen (.invokevirtual idx) = 3) := ⟨by intros; rfl, by intros; rfl, by intros; rfl, by intros; rfl, by intros; rfl, by intros; rfl, by intros; rfl, by intros; rfl, by intros; rfl, by intros; rfl, by intros; rfl, by intros; rfl, by intros; rfl, by intros; rfl, by intros; rfl, by intros; rfl, by intros; rfl, by intros; rfl, by intros; rfl, by intros; rfl, by intros; rfl, by intros; rfl, by intros; rfl, by intros; rfl, by intros; rfl, by intros; rfl, by intros; rfl, by intros; rfl, by intros; rfl, by intros; rfl⟩
theorem WI3 : (∀ (idx : Nat), ilen (.invokespecial idx) = 3) ∧ (∀ (idx : Nat), ilen (.invokestatic idx) = 3) ∧ (ilen (.ireturn) = 1) ∧ (ilen (.return_) = 1) ∧ (ilen (.lreturn) = 1) ∧ (ilen (.freturn) = 1) ∧ (ilen (.dreturn) = 1) ∧ (ilen (.areturn) = 1) := ⟨by intros; rfl, by intros; rfl, by intros; rfl, by intros; rfl, by intros; rfl, by intros; rfl, by intros; rfl, by intros; rfl⟩
