/-! ===== rows of V: one an instruction ===== -/
def tgt (pc : Nat) (off : Int) : Nat := match off with
  | .ofNat k => pc + k
  | .negSucc k => pc - (k + 1)
def tok (pc : Nat) (off : Int) : Prop := match off with
  | .ofNat _ => True
  | .negSucc k => k + 1 ≤ pc
theorem tgt_ok {pc : Nat} {off : Int} (h : tok pc off) : (pc : Int) + off = (tgt pc off : Int) := by
  cases off with
  | ofNat k => simp [tgt]
  | negSucc k =>
    have h' : k + 1 ≤ pc := h
    simp only [tgt]
    omega
theorem tgt_pos (pc n : Nat) : tgt pc (@OfNat.ofNat Int n instOfNat) = pc + n := rfl
theorem tok_pos (pc n : Nat) : tok pc (@OfNat.ofNat Int n instOfNat) = True := rfl
theorem tgt_neg (pc n : Nat) : tgt pc (-(@OfNat.ofNat Int (n + 1) instOfNat)) = pc - (n + 1) := rfl
theorem tok_neg (pc n : Nat) : tok pc (-(@OfNat.ofNat Int (n + 1) instOfNat)) = (n + 1 ≤ pc) := rfl
def kI (n : Int) : Int32 := match n with
  | .ofNat k => nI k
  | .negSucc k => -nI (k + 1)
theorem kI_pos (n : Nat) : kI (@OfNat.ofNat Int n instOfNat) = nI n := rfl
theorem kI_neg (n : Nat) : kI (-(@OfNat.ofNat Int (n + 1) instOfNat)) = -nI (n + 1) := rfl
theorem kI_eq (n : Int) : Int32.ofInt n = kI n := by
  cases n with
  | ofNat k => rfl
  | negSucc k =>
    show Int32.ofInt (Int.negSucc k) = -nI (k + 1)
    rw [Int.negSucc_eq, Int32.ofInt_neg]
    rfl
def catS (st : List Value) : Nat := (st.map fun v => v.category).sum
theorem catS_nil : catS [] = 0 := rfl
theorem catS_i (x : Int32) (st : List Value) : catS (.int x :: st) = 1 + catS st := rfl
theorem catS_r (x : Nat) (st : List Value) : catS (.ref x :: st) = 1 + catS st := rfl
theorem catS_n (st : List Value) : catS (.null :: st) = 1 + catS st := rfl
theorem catS_l (x : Int64) (st : List Value) : catS (.long x :: st) = 2 + catS st := rfl
theorem catS_d (x : UInt64) (st : List Value) : catS (.double x :: st) = 2 + catS st := rfl
theorem catS_f (x : UInt32) (st : List Value) : catS (.float x :: st) = 1 + catS st := rfl
theorem asc_set1 {L : LL} {i : Nat} {v : Value} : ∀ q ∈ asc 0 (lset1 L i v), q ∈ (i, v) :: (asc 0 L).filter (fun q => !(q.1 == i) && !(q.1 + 1 == i && q.2.category == 2)) := by
  rintro ⟨j, w⟩ hq
  obtain ⟨n, h1, h2⟩ := (asc_mem _ 0 j w).mp hq
  rw [Nat.zero_add] at h1
  subst h1
  rcases lset1_get L i j v w h2 with ⟨h3, h4⟩ | ⟨h3, h4, h5⟩
  · subst h3; subst h4; exact List.mem_cons_self
  · refine List.mem_cons_of_mem _ (List.mem_filter.mpr ⟨asc_of h4, ?_⟩)
    by_cases h6 : j + 1 = i
    · have : ¬ w.category = 2 := fun q => h5 ⟨h6, q⟩
      simp [h3, this]
    · simp [h3, h6]
theorem asc_set2 {L : LL} {i : Nat} {v : Value} : ∀ q ∈ asc 0 (lset2 L i v), q ∈ (i, v) :: (asc 0 L).filter (fun q => !(q.1 == i) && (!(q.1 == i + 1) && !(q.1 + 1 == i && q.2.category == 2))) := by
  rintro ⟨j, w⟩ hq
  obtain ⟨n, h1, h2⟩ := (asc_mem _ 0 j w).mp hq
  rw [Nat.zero_add] at h1
  subst h1
  rcases lset2_get L i j v w h2 with ⟨h3, h4⟩ | ⟨h3, h3', h4, h5⟩
  · subst h3; subst h4; exact List.mem_cons_self
  · refine List.mem_cons_of_mem _ (List.mem_filter.mpr ⟨asc_of h4, ?_⟩)
    by_cases h6 : j + 1 = i
    · have : ¬ w.category = 2 := fun q => h5 ⟨h6, q⟩
      simp [h3, h3', this]
    · simp [h3, h3', h6]
section VROWS
variable {G : GT} {y : MD} {d rc rs pc : Nat} {lv : LL} {st : List Value} {h : Hp} {Q : RT → Hp → Prop}
theorem V.sub {lv' : LL} (hs : Lsub lv' lv) (k : V G y d rc rs pc lv' st h Q) : V G y d rc rs pc lv st h Q := by
  intro p e R s m args below meth c H locs cells slots mc ms ls QQ hF hR hc hs' hE hl hr hS
  refine k p e R s m args below meth c H locs cells slots mc ms ls QQ hF hR hc hs' hE (lv_has_of hl ?_) hr hS
  rintro ⟨j, w⟩ hq
  obtain ⟨n, h1, h2⟩ := (asc_mem _ 0 j w).mp hq
  rw [Nat.zero_add] at h1
  subst h1
  exact asc_of (hs _ _ h2)
theorem V.less {rc' rs' : Nat} (h1 : rc' ≤ rc) (h2 : rs' ≤ rs) (k : V G y d rc' rs' pc lv st h Q) : V G y d rc rs pc lv st h Q := by
  intro p e R s m args below meth c H locs cells slots mc ms ls QQ hF hR hc hs' hE hl hr hS
  exact k p e R s m args below meth c H locs cells slots mc ms ls QQ hF hR (by omega) (by omega) hE hl hr hS

theorem V_iconst {n : Int} (hd : decode y.2.1 pc = .ok (.iconst n, 1)) (k : V G y d rc rs (pc + 1) lv (.int (kI n) :: st) h Q) : V G y d rc rs pc lv st h Q := by
  intro p e R s m args below meth c H locs cells slots mc ms ls QQ hF hR hc hs hE hl hr hS
  exact lv_iconst hF.1 hF.2.1 hd (kI_eq n) (k p e R s m args below meth c H locs cells slots mc ms ls QQ hF hR hc hs hE hl hr hS)
theorem V_bipush {n : Int} (hd : decode y.2.1 pc = .ok (.bipush n, 2)) (k : V G y d rc rs (pc + 2) lv (.int (Int8.ofInt n).toInt32 :: st) h Q) : V G y d rc rs pc lv st h Q := by
  intro p e R s m args below meth c H locs cells slots mc ms ls QQ hF hR hc hs hE hl hr hS
  exact lv_bipush hF.1 hF.2.1 hd rfl (k p e R s m args below meth c H locs cells slots mc ms ls QQ hF hR hc hs hE hl hr hS)
theorem V_sipush {n : Int} (hd : decode y.2.1 pc = .ok (.sipush n, 3)) (k : V G y d rc rs (pc + 3) lv (.int (Int16.ofInt n).toInt32 :: st) h Q) : V G y d rc rs pc lv st h Q := by
  intro p e R s m args below meth c H locs cells slots mc ms ls QQ hF hR hc hs hE hl hr hS
  exact lv_sipush hF.1 hF.2.1 hd rfl (k p e R s m args below meth c H locs cells slots mc ms ls QQ hF hR hc hs hE hl hr hS)
theorem V_lconst {n : Fin 2} (hd : decode y.2.1 pc = .ok (.lconst n, 1)) (k : V G y d rc rs (pc + 1) lv (.long (Int64.ofNat (n : Nat)) :: st) h Q) : V G y d rc rs pc lv st h Q := by
  intro p e R s m args below meth c H locs cells slots mc ms ls QQ hF hR hc hs hE hl hr hS
  exact lv_lconst hF.1 hF.2.1 hd rfl (k p e R s m args below meth c H locs cells slots mc ms ls QQ hF hR hc hs hE hl hr hS)
theorem V_fconst0  (hd : decode y.2.1 pc = .ok (.fconst 0, 1)) (k : V G y d rc rs (pc + 1) lv (.float FP.fconst0 :: st) h Q) : V G y d rc rs pc lv st h Q := by
  intro p e R s m args below meth c H locs cells slots mc ms ls QQ hF hR hc hs hE hl hr hS
  exact lv_fconst0 hF.1 hF.2.1 hd (k p e R s m args below meth c H locs cells slots mc ms ls QQ hF hR hc hs hE hl hr hS)
theorem V_dconst0  (hd : decode y.2.1 pc = .ok (.dconst 0, 1)) (k : V G y d rc rs (pc + 1) lv (.double FP.dconst0 :: st) h Q) : V G y d rc rs pc lv st h Q := by
  intro p e R s m args below meth c H locs cells slots mc ms ls QQ hF hR hc hs hE hl hr hS
  exact lv_dconst0 hF.1 hF.2.1 hd (k p e R s m args below meth c H locs cells slots mc ms ls QQ hF hR hc hs hE hl hr hS)
theorem V_null  (hd : decode y.2.1 pc = .ok (.aconst_null, 1)) (k : V G y d rc rs (pc + 1) lv (.null :: st) h Q) : V G y d rc rs pc lv st h Q := by
  intro p e R s m args below meth c H locs cells slots mc ms ls QQ hF hR hc hs hE hl hr hS
  exact lv_null hF.1 hF.2.1 hd (k p e R s m args below meth c H locs cells slots mc ms ls QQ hF hR hc hs hE hl hr hS)
theorem V_iload_n {i : Fin 4} {x : Int32} (hd : decode y.2.1 pc = .ok (.iload_n i, 1)) (hi : lget lv (i : Nat) = some (.int x)) (k : V G y d rc rs (pc + 1) lv (.int x :: st) h Q) : V G y d rc rs pc lv st h Q := by
  intro p e R s m args below meth c H locs cells slots mc ms ls QQ hF hR hc hs hE hl hr hS
  exact lv_iload_n hF.1 hF.2.1 hd rfl (hl.2.2 (_, _) (asc_of hi)) (k p e R s m args below meth c H locs cells slots mc ms ls QQ hF hR hc hs hE hl hr hS)
theorem V_iload {i : Nat} {x : Int32} (hd : decode y.2.1 pc = .ok (.iload i, 2)) (hi : lget lv i = some (.int x)) (k : V G y d rc rs (pc + 2) lv (.int x :: st) h Q) : V G y d rc rs pc lv st h Q := by
  intro p e R s m args below meth c H locs cells slots mc ms ls QQ hF hR hc hs hE hl hr hS
  exact lv_iload hF.1 hF.2.1 hd (hl.2.2 (_, _) (asc_of hi)) (k p e R s m args below meth c H locs cells slots mc ms ls QQ hF hR hc hs hE hl hr hS)
theorem V_lload_n {i : Fin 4} {x : Int64} (hd : decode y.2.1 pc = .ok (.lload_n i, 1)) (hi : lget lv (i : Nat) = some (.long x)) (k : V G y d rc rs (pc + 1) lv (.long x :: st) h Q) : V G y d rc rs pc lv st h Q := by
  intro p e R s m args below meth c H locs cells slots mc ms ls QQ hF hR hc hs hE hl hr hS
  exact lv_lload_n hF.1 hF.2.1 hd rfl (hl.2.2 (_, _) (asc_of hi)) (k p e R s m args below meth c H locs cells slots mc ms ls QQ hF hR hc hs hE hl hr hS)
theorem V_lload {i : Nat} {x : Int64} (hd : decode y.2.1 pc = .ok (.lload i, 2)) (hi : lget lv i = some (.long x)) (k : V G y d rc rs (pc + 2) lv (.long x :: st) h Q) : V G y d rc rs pc lv st h Q := by
  intro p e R s m args below meth c H locs cells slots mc ms ls QQ hF hR hc hs hE hl hr hS
  exact lv_lload hF.1 hF.2.1 hd (hl.2.2 (_, _) (asc_of hi)) (k p e R s m args below meth c H locs cells slots mc ms ls QQ hF hR hc hs hE hl hr hS)
theorem V_fload_n {i : Fin 4} {x : UInt32} (hd : decode y.2.1 pc = .ok (.fload_n i, 1)) (hi : lget lv (i : Nat) = some (.float x)) (k : V G y d rc rs (pc + 1) lv (.float x :: st) h Q) : V G y d rc rs pc lv st h Q := by
  intro p e R s m args below meth c H locs cells slots mc ms ls QQ hF hR hc hs hE hl hr hS
  exact lv_fload_n hF.1 hF.2.1 hd rfl (hl.2.2 (_, _) (asc_of hi)) (k p e R s m args below meth c H locs cells slots mc ms ls QQ hF hR hc hs hE hl hr hS)
theorem V_fload {i : Nat} {x : UInt32} (hd : decode y.2.1 pc = .ok (.fload i, 2)) (hi : lget lv i = some (.float x)) (k : V G y d rc rs (pc + 2) lv (.float x :: st) h Q) : V G y d rc rs pc lv st h Q := by
  intro p e R s m args below meth c H locs cells slots mc ms ls QQ hF hR hc hs hE hl hr hS
  exact lv_fload hF.1 hF.2.1 hd (hl.2.2 (_, _) (asc_of hi)) (k p e R s m args below meth c H locs cells slots mc ms ls QQ hF hR hc hs hE hl hr hS)
theorem V_dload_n {i : Fin 4} {x : UInt64} (hd : decode y.2.1 pc = .ok (.dload_n i, 1)) (hi : lget lv (i : Nat) = some (.double x)) (k : V G y d rc rs (pc + 1) lv (.double x :: st) h Q) : V G y d rc rs pc lv st h Q := by
  intro p e R s m args below meth c H locs cells slots mc ms ls QQ hF hR hc hs hE hl hr hS
  exact lv_dload_n hF.1 hF.2.1 hd rfl (hl.2.2 (_, _) (asc_of hi)) (k p e R s m args below meth c H locs cells slots mc ms ls QQ hF hR hc hs hE hl hr hS)
theorem V_dload {i : Nat} {x : UInt64} (hd : decode y.2.1 pc = .ok (.dload i, 2)) (hi : lget lv i = some (.double x)) (k : V G y d rc rs (pc + 2) lv (.double x :: st) h Q) : V G y d rc rs pc lv st h Q := by
  intro p e R s m args below meth c H locs cells slots mc ms ls QQ hF hR hc hs hE hl hr hS
  exact lv_dload hF.1 hF.2.1 hd (hl.2.2 (_, _) (asc_of hi)) (k p e R s m args below meth c H locs cells slots mc ms ls QQ hF hR hc hs hE hl hr hS)
theorem V_aload_n {i : Fin 4} {x : Nat} (hd : decode y.2.1 pc = .ok (.aload_n i, 1)) (hi : lget lv (i : Nat) = some (.ref x)) (k : V G y d rc rs (pc + 1) lv (.ref x :: st) h Q) : V G y d rc rs pc lv st h Q := by
  intro p e R s m args below meth c H locs cells slots mc ms ls QQ hF hR hc hs hE hl hr hS
  exact lv_aload_n hF.1 hF.2.1 hd rfl (hl.2.2 (_, _) (asc_of hi)) (k p e R s m args below meth c H locs cells slots mc ms ls QQ hF hR hc hs hE hl hr hS)
theorem V_aload {i : Nat} {x : Nat} (hd : decode y.2.1 pc = .ok (.aload i, 2)) (hi : lget lv i = some (.ref x)) (k : V G y d rc rs (pc + 2) lv (.ref x :: st) h Q) : V G y d rc rs pc lv st h Q := by
  intro p e R s m args below meth c H locs cells slots mc ms ls QQ hF hR hc hs hE hl hr hS
  exact lv_aload hF.1 hF.2.1 hd (hl.2.2 (_, _) (asc_of hi)) (k p e R s m args below meth c H locs cells slots mc ms ls QQ hF hR hc hs hE hl hr hS)
theorem V_istore_n {i : Fin 4} {x : Int32} (hd : decode y.2.1 pc = .ok (.istore_n i, 1)) (hn : (i : Nat) < y.2.2.1) (k : V G y d rc rs (pc + 1) (lset1 lv (i : Nat) (.int x)) st h Q) : V G y d rc rs pc lv ((.int x) :: st) h Q := by
  intro p e R s m args below meth c H locs cells slots mc ms ls QQ hF hR hc hs hE hl hr hS
  exact lv_istore_n hF.1 hF.2.1 hd rfl hl hn rfl (fun ls9 hl9 => k p e R s m args below meth c H locs cells slots mc ms ls9 QQ hF hR hc hs hE (lv_has_of hl9 asc_set1) hr hS)
theorem V_istore {i : Nat} {x : Int32} (hd : decode y.2.1 pc = .ok (.istore i, 2)) (hn : i < y.2.2.1) (k : V G y d rc rs (pc + 2) (lset1 lv i (.int x)) st h Q) : V G y d rc rs pc lv ((.int x) :: st) h Q := by
  intro p e R s m args below meth c H locs cells slots mc ms ls QQ hF hR hc hs hE hl hr hS
  exact lv_istore hF.1 hF.2.1 hd hl hn rfl (fun ls9 hl9 => k p e R s m args below meth c H locs cells slots mc ms ls9 QQ hF hR hc hs hE (lv_has_of hl9 asc_set1) hr hS)
theorem V_lstore_n {i : Fin 4} {x : Int64} (hd : decode y.2.1 pc = .ok (.lstore_n i, 1)) (hn : (i : Nat) + 1 < y.2.2.1) (k : V G y d rc rs (pc + 1) (lset2 lv (i : Nat) (.long x)) st h Q) : V G y d rc rs pc lv ((.long x) :: st) h Q := by
  intro p e R s m args below meth c H locs cells slots mc ms ls QQ hF hR hc hs hE hl hr hS
  exact lv_lstore_n hF.1 hF.2.1 hd rfl hl hn rfl (fun ls9 hl9 => k p e R s m args below meth c H locs cells slots mc ms ls9 QQ hF hR hc hs hE (lv_has_of hl9 asc_set2) hr hS)
theorem V_lstore {i : Nat} {x : Int64} (hd : decode y.2.1 pc = .ok (.lstore i, 2)) (hn : i + 1 < y.2.2.1) (k : V G y d rc rs (pc + 2) (lset2 lv i (.long x)) st h Q) : V G y d rc rs pc lv ((.long x) :: st) h Q := by
  intro p e R s m args below meth c H locs cells slots mc ms ls QQ hF hR hc hs hE hl hr hS
  exact lv_lstore hF.1 hF.2.1 hd hl hn rfl (fun ls9 hl9 => k p e R s m args below meth c H locs cells slots mc ms ls9 QQ hF hR hc hs hE (lv_has_of hl9 asc_set2) hr hS)
theorem V_fstore_n {i : Fin 4} {x : UInt32} (hd : decode y.2.1 pc = .ok (.fstore_n i, 1)) (hn : (i : Nat) < y.2.2.1) (k : V G y d rc rs (pc + 1) (lset1 lv (i : Nat) (.float x)) st h Q) : V G y d rc rs pc lv ((.float x) :: st) h Q := by
  intro p e R s m args below meth c H locs cells slots mc ms ls QQ hF hR hc hs hE hl hr hS
  exact lv_fstore_n hF.1 hF.2.1 hd rfl hl hn rfl (fun ls9 hl9 => k p e R s m args below meth c H locs cells slots mc ms ls9 QQ hF hR hc hs hE (lv_has_of hl9 asc_set1) hr hS)
theorem V_fstore {i : Nat} {x : UInt32} (hd : decode y.2.1 pc = .ok (.fstore i, 2)) (hn : i < y.2.2.1) (k : V G y d rc rs (pc + 2) (lset1 lv i (.float x)) st h Q) : V G y d rc rs pc lv ((.float x) :: st) h Q := by
  intro p e R s m args below meth c H locs cells slots mc ms ls QQ hF hR hc hs hE hl hr hS
  exact lv_fstore hF.1 hF.2.1 hd hl hn rfl (fun ls9 hl9 => k p e R s m args below meth c H locs cells slots mc ms ls9 QQ hF hR hc hs hE (lv_has_of hl9 asc_set1) hr hS)
theorem V_dstore_n {i : Fin 4} {x : UInt64} (hd : decode y.2.1 pc = .ok (.dstore_n i, 1)) (hn : (i : Nat) + 1 < y.2.2.1) (k : V G y d rc rs (pc + 1) (lset2 lv (i : Nat) (.double x)) st h Q) : V G y d rc rs pc lv ((.double x) :: st) h Q := by
  intro p e R s m args below meth c H locs cells slots mc ms ls QQ hF hR hc hs hE hl hr hS
  exact lv_dstore_n hF.1 hF.2.1 hd rfl hl hn rfl (fun ls9 hl9 => k p e R s m args below meth c H locs cells slots mc ms ls9 QQ hF hR hc hs hE (lv_has_of hl9 asc_set2) hr hS)
theorem V_dstore {i : Nat} {x : UInt64} (hd : decode y.2.1 pc = .ok (.dstore i, 2)) (hn : i + 1 < y.2.2.1) (k : V G y d rc rs (pc + 2) (lset2 lv i (.double x)) st h Q) : V G y d rc rs pc lv ((.double x) :: st) h Q := by
  intro p e R s m args below meth c H locs cells slots mc ms ls QQ hF hR hc hs hE hl hr hS
  exact lv_dstore hF.1 hF.2.1 hd hl hn rfl (fun ls9 hl9 => k p e R s m args below meth c H locs cells slots mc ms ls9 QQ hF hR hc hs hE (lv_has_of hl9 asc_set2) hr hS)
theorem V_astore_n {i : Fin 4} {x : Nat} (hd : decode y.2.1 pc = .ok (.astore_n i, 1)) (hn : (i : Nat) < y.2.2.1) (k : V G y d rc rs (pc + 1) (lset1 lv (i : Nat) (.ref x)) st h Q) : V G y d rc rs pc lv ((.ref x) :: st) h Q := by
  intro p e R s m args below meth c H locs cells slots mc ms ls QQ hF hR hc hs hE hl hr hS
  exact lv_astore_n hF.1 hF.2.1 hd rfl hl hn rfl (fun ls9 hl9 => k p e R s m args below meth c H locs cells slots mc ms ls9 QQ hF hR hc hs hE (lv_has_of hl9 asc_set1) hr hS)
theorem V_astore {i : Nat} {x : Nat} (hd : decode y.2.1 pc = .ok (.astore i, 2)) (hn : i < y.2.2.1) (k : V G y d rc rs (pc + 2) (lset1 lv i (.ref x)) st h Q) : V G y d rc rs pc lv ((.ref x) :: st) h Q := by
  intro p e R s m args below meth c H locs cells slots mc ms ls QQ hF hR hc hs hE hl hr hS
  exact lv_astore hF.1 hF.2.1 hd hl hn rfl (fun ls9 hl9 => k p e R s m args below meth c H locs cells slots mc ms ls9 QQ hF hR hc hs hE (lv_has_of hl9 asc_set1) hr hS)
theorem lidx {L : LL} {i : Nat} {v : Value} (hi : lget L i = some v) : ∃ k : Nat, (asc 0 L)[k]? = some (i, v) := List.getElem?_of_mem (asc_of hi)
theorem V_iinc {i : Nat} {n : Int} {x : Int32} (hd : decode y.2.1 pc = .ok (.iinc i n, 3)) (hi : lget lv i = some (.int x)) (hn : i < y.2.2.1) (k : V G y d rc rs (pc + 3) (lset1 lv i (.int (x + kI n))) st h Q) : V G y d rc rs pc lv st h Q := by
  intro p e R s m args below meth c H locs cells slots mc ms ls QQ hF hR hc hs hE hl hr hS
  obtain ⟨k9, hk9⟩ := lidx hi
  exact lv_iinc hF.1 hF.2.1 hd hl hk9 (by rw [kI_eq]) hn rfl (fun ls9 hl9 => k p e R s m args below meth c H locs cells slots mc ms ls9 QQ hF hR hc hs hE (lv_has_of hl9 asc_set1) hr hS)
theorem V_iadd {a b : Int32} (hd : decode y.2.1 pc = .ok (.iadd, 1)) (k : V G y d rc rs (pc + 1) lv (.int (a + b) :: st) h Q) : V G y d rc rs pc lv (.int b :: .int a :: st) h Q := by
  intro p e R s m args below meth c H locs cells slots mc ms ls QQ hF hR hc hs hE hl hr hS
  exact lv_iadd hF.1 hF.2.1 hd (k p e R s m args below meth c H locs cells slots mc ms ls QQ hF hR hc hs hE hl hr hS)
theorem V_isub {a b : Int32} (hd : decode y.2.1 pc = .ok (.isub, 1)) (k : V G y d rc rs (pc + 1) lv (.int (a - b) :: st) h Q) : V G y d rc rs pc lv (.int b :: .int a :: st) h Q := by
  intro p e R s m args below meth c H locs cells slots mc ms ls QQ hF hR hc hs hE hl hr hS
  exact lv_isub hF.1 hF.2.1 hd (k p e R s m args below meth c H locs cells slots mc ms ls QQ hF hR hc hs hE hl hr hS)
theorem V_imul {a b : Int32} (hd : decode y.2.1 pc = .ok (.imul, 1)) (k : V G y d rc rs (pc + 1) lv (.int (a * b) :: st) h Q) : V G y d rc rs pc lv (.int b :: .int a :: st) h Q := by
  intro p e R s m args below meth c H locs cells slots mc ms ls QQ hF hR hc hs hE hl hr hS
  exact lv_imul hF.1 hF.2.1 hd (k p e R s m args below meth c H locs cells slots mc ms ls QQ hF hR hc hs hE hl hr hS)
theorem V_iand {a b : Int32} (hd : decode y.2.1 pc = .ok (.iand, 1)) (k : V G y d rc rs (pc + 1) lv (.int (a &&& b) :: st) h Q) : V G y d rc rs pc lv (.int b :: .int a :: st) h Q := by
  intro p e R s m args below meth c H locs cells slots mc ms ls QQ hF hR hc hs hE hl hr hS
  exact lv_iand hF.1 hF.2.1 hd (k p e R s m args below meth c H locs cells slots mc ms ls QQ hF hR hc hs hE hl hr hS)
theorem V_ior {a b : Int32} (hd : decode y.2.1 pc = .ok (.ior, 1)) (k : V G y d rc rs (pc + 1) lv (.int (a ||| b) :: st) h Q) : V G y d rc rs pc lv (.int b :: .int a :: st) h Q := by
  intro p e R s m args below meth c H locs cells slots mc ms ls QQ hF hR hc hs hE hl hr hS
  exact lv_ior hF.1 hF.2.1 hd (k p e R s m args below meth c H locs cells slots mc ms ls QQ hF hR hc hs hE hl hr hS)
theorem V_ixor {a b : Int32} (hd : decode y.2.1 pc = .ok (.ixor, 1)) (k : V G y d rc rs (pc + 1) lv (.int (a ^^^ b) :: st) h Q) : V G y d rc rs pc lv (.int b :: .int a :: st) h Q := by
  intro p e R s m args below meth c H locs cells slots mc ms ls QQ hF hR hc hs hE hl hr hS
  exact lv_ixor hF.1 hF.2.1 hd (k p e R s m args below meth c H locs cells slots mc ms ls QQ hF hR hc hs hE hl hr hS)
theorem V_idiv {a b : Int32} (hd : decode y.2.1 pc = .ok (.idiv, 1)) (hne : ¬ b = 0) (k : V G y d rc rs (pc + 1) lv (.int (a / b) :: st) h Q) : V G y d rc rs pc lv (.int b :: .int a :: st) h Q := by
  intro p e R s m args below meth c H locs cells slots mc ms ls QQ hF hR hc hs hE hl hr hS
  exact lv_idiv hF.1 hF.2.1 hd hne (k p e R s m args below meth c H locs cells slots mc ms ls QQ hF hR hc hs hE hl hr hS)
theorem V_irem {a b : Int32} (hd : decode y.2.1 pc = .ok (.irem, 1)) (hne : ¬ b = 0) (k : V G y d rc rs (pc + 1) lv (.int (a - a / b * b) :: st) h Q) : V G y d rc rs pc lv (.int b :: .int a :: st) h Q := by
  intro p e R s m args below meth c H locs cells slots mc ms ls QQ hF hR hc hs hE hl hr hS
  exact lv_irem hF.1 hF.2.1 hd hne (k p e R s m args below meth c H locs cells slots mc ms ls QQ hF hR hc hs hE hl hr hS)
theorem V_ishl {a b : Int32} (hd : decode y.2.1 pc = .ok (.ishl, 1)) (k : V G y d rc rs (pc + 1) lv (.int (a <<< (b &&& 31)) :: st) h Q) : V G y d rc rs pc lv (.int b :: .int a :: st) h Q := by
  intro p e R s m args below meth c H locs cells slots mc ms ls QQ hF hR hc hs hE hl hr hS
  exact lv_ishl hF.1 hF.2.1 hd (k p e R s m args below meth c H locs cells slots mc ms ls QQ hF hR hc hs hE hl hr hS)
theorem V_ishr {a b : Int32} (hd : decode y.2.1 pc = .ok (.ishr, 1)) (k : V G y d rc rs (pc + 1) lv (.int (a >>> (b &&& 31)) :: st) h Q) : V G y d rc rs pc lv (.int b :: .int a :: st) h Q := by
  intro p e R s m args below meth c H locs cells slots mc ms ls QQ hF hR hc hs hE hl hr hS
  exact lv_ishr hF.1 hF.2.1 hd (k p e R s m args below meth c H locs cells slots mc ms ls QQ hF hR hc hs hE hl hr hS)
theorem V_ladd {a b : Int64} (hd : decode y.2.1 pc = .ok (.ladd, 1)) (k : V G y d rc rs (pc + 1) lv (.long (a + b) :: st) h Q) : V G y d rc rs pc lv (.long b :: .long a :: st) h Q := by
  intro p e R s m args below meth c H locs cells slots mc ms ls QQ hF hR hc hs hE hl hr hS
  exact lv_ladd hF.1 hF.2.1 hd (k p e R s m args below meth c H locs cells slots mc ms ls QQ hF hR hc hs hE hl hr hS)
theorem V_lsub {a b : Int64} (hd : decode y.2.1 pc = .ok (.lsub, 1)) (k : V G y d rc rs (pc + 1) lv (.long (a - b) :: st) h Q) : V G y d rc rs pc lv (.long b :: .long a :: st) h Q := by
  intro p e R s m args below meth c H locs cells slots mc ms ls QQ hF hR hc hs hE hl hr hS
  exact lv_lsub hF.1 hF.2.1 hd (k p e R s m args below meth c H locs cells slots mc ms ls QQ hF hR hc hs hE hl hr hS)
theorem V_ineg {a : Int32} (hd : decode y.2.1 pc = .ok (.ineg, 1)) (k : V G y d rc rs (pc + 1) lv (.int (-a) :: st) h Q) : V G y d rc rs pc lv (.int a :: st) h Q := by
  intro p e R s m args below meth c H locs cells slots mc ms ls QQ hF hR hc hs hE hl hr hS
  exact lv_ineg hF.1 hF.2.1 hd (k p e R s m args below meth c H locs cells slots mc ms ls QQ hF hR hc hs hE hl hr hS)
theorem V_i2l {a : Int32} (hd : decode y.2.1 pc = .ok (.i2l, 1)) (k : V G y d rc rs (pc + 1) lv (.long a.toInt64 :: st) h Q) : V G y d rc rs pc lv (.int a :: st) h Q := by
  intro p e R s m args below meth c H locs cells slots mc ms ls QQ hF hR hc hs hE hl hr hS
  exact lv_i2l hF.1 hF.2.1 hd rfl (k p e R s m args below meth c H locs cells slots mc ms ls QQ hF hR hc hs hE hl hr hS)
theorem V_l2i {a : Int64} (hd : decode y.2.1 pc = .ok (.l2i, 1)) (k : V G y d rc rs (pc + 1) lv (.int a.toInt32 :: st) h Q) : V G y d rc rs pc lv (.long a :: st) h Q := by
  intro p e R s m args below meth c H locs cells slots mc ms ls QQ hF hR hc hs hE hl hr hS
  exact lv_l2i hF.1 hF.2.1 hd rfl (k p e R s m args below meth c H locs cells slots mc ms ls QQ hF hR hc hs hE hl hr hS)
theorem V_i2c {a : Int32} (hd : decode y.2.1 pc = .ok (.i2c, 1)) (k : V G y d rc rs (pc + 1) lv (.int (a.toUInt32 % 65536).toInt32 :: st) h Q) : V G y d rc rs pc lv (.int a :: st) h Q := by
  intro p e R s m args below meth c H locs cells slots mc ms ls QQ hF hR hc hs hE hl hr hS
  exact lv_i2c hF.1 hF.2.1 hd rfl (k p e R s m args below meth c H locs cells slots mc ms ls QQ hF hR hc hs hE hl hr hS)
theorem V_i2b {a : Int32} (hd : decode y.2.1 pc = .ok (.i2b, 1)) (k : V G y d rc rs (pc + 1) lv (.int a.toInt8.toInt32 :: st) h Q) : V G y d rc rs pc lv (.int a :: st) h Q := by
  intro p e R s m args below meth c H locs cells slots mc ms ls QQ hF hR hc hs hE hl hr hS
  exact lv_i2b hF.1 hF.2.1 hd rfl (k p e R s m args below meth c H locs cells slots mc ms ls QQ hF hR hc hs hE hl hr hS)
theorem V_i2f {a : Int32} (hd : decode y.2.1 pc = .ok (.i2f, 1)) (k : V G y d rc rs (pc + 1) lv (.float (FP.i2f a) :: st) h Q) : V G y d rc rs pc lv (.int a :: st) h Q := by
  intro p e R s m args below meth c H locs cells slots mc ms ls QQ hF hR hc hs hE hl hr hS
  exact lv_i2f hF.1 hF.2.1 hd (k p e R s m args below meth c H locs cells slots mc ms ls QQ hF hR hc hs hE hl hr hS)
theorem V_i2d {a : Int32} (hd : decode y.2.1 pc = .ok (.i2d, 1)) (k : V G y d rc rs (pc + 1) lv (.double (FP.i2d a) :: st) h Q) : V G y d rc rs pc lv (.int a :: st) h Q := by
  intro p e R s m args below meth c H locs cells slots mc ms ls QQ hF hR hc hs hE hl hr hS
  exact lv_i2d hF.1 hF.2.1 hd (k p e R s m args below meth c H locs cells slots mc ms ls QQ hF hR hc hs hE hl hr hS)
theorem V_f2d {a : UInt32} (hd : decode y.2.1 pc = .ok (.f2d, 1)) (hne : vf_n64 (FP.f2d a)) (k : V G y d rc rs (pc + 1) lv (.double (FP.f2d a) :: st) h Q) : V G y d rc rs pc lv (.float a :: st) h Q := by
  intro p e R s m args below meth c H locs cells slots mc ms ls QQ hF hR hc hs hE hl hr hS
  exact lv_f2d hF.1 hF.2.1 hd hne (k p e R s m args below meth c H locs cells slots mc ms ls QQ hF hR hc hs hE hl hr hS)
theorem V_fdiv {a b : UInt32} (hd : decode y.2.1 pc = .ok (.fdiv, 1)) (hne : vf_n32 (FP.fdiv a b)) (k : V G y d rc rs (pc + 1) lv (.float (FP.fdiv a b) :: st) h Q) : V G y d rc rs pc lv (.float b :: .float a :: st) h Q := by
  intro p e R s m args below meth c H locs cells slots mc ms ls QQ hF hR hc hs hE hl hr hS
  exact lv_fdiv hF.1 hF.2.1 hd hne (k p e R s m args below meth c H locs cells slots mc ms ls QQ hF hR hc hs hE hl hr hS)
theorem V_ddiv {a b : UInt64} (hd : decode y.2.1 pc = .ok (.ddiv, 1)) (hne : vf_n64 (FP.ddiv a b)) (k : V G y d rc rs (pc + 1) lv (.double (FP.ddiv a b) :: st) h Q) : V G y d rc rs pc lv (.double b :: .double a :: st) h Q := by
  intro p e R s m args below meth c H locs cells slots mc ms ls QQ hF hR hc hs hE hl hr hS
  exact lv_ddiv hF.1 hF.2.1 hd hne (k p e R s m args below meth c H locs cells slots mc ms ls QQ hF hR hc hs hE hl hr hS)
theorem V_lcmp {a b : Int64} (hd : decode y.2.1 pc = .ok (.lcmp, 1)) (k : V G y d rc rs (pc + 1) lv (.int (lg_cmp a b) :: st) h Q) : V G y d rc rs pc lv (.long b :: .long a :: st) h Q := by
  intro p e R s m args below meth c H locs cells slots mc ms ls QQ hF hR hc hs hE hl hr hS
  exact W.lcmp hF.1 hF.2.1 hd (k p e R s m args below meth c H locs cells slots mc ms ls QQ hF hR hc hs hE hl hr hS)
theorem V_fcmp {a b : UInt32} {op : CmpOp} (hd : decode y.2.1 pc = .ok (.fcmp op, 1)) (k : V G y d rc rs (pc + 1) lv (.int (Op.cmpValue (FP.fcmp a b) op) :: st) h Q) : V G y d rc rs pc lv (.float b :: .float a :: st) h Q := by
  intro p e R s m args below meth c H locs cells slots mc ms ls QQ hF hR hc hs hE hl hr hS
  exact lv_fcmp hF.1 hF.2.1 hd (k p e R s m args below meth c H locs cells slots mc ms ls QQ hF hR hc hs hE hl hr hS)
theorem V_dcmp {a b : UInt64} {op : CmpOp} (hd : decode y.2.1 pc = .ok (.dcmp op, 1)) (k : V G y d rc rs (pc + 1) lv (.int (Op.cmpValue (FP.dcmp a b) op) :: st) h Q) : V G y d rc rs pc lv (.double b :: .double a :: st) h Q := by
  intro p e R s m args below meth c H locs cells slots mc ms ls QQ hF hR hc hs hE hl hr hS
  exact lv_dcmp hF.1 hF.2.1 hd (k p e R s m args below meth c H locs cells slots mc ms ls QQ hF hR hc hs hE hl hr hS)
theorem V_dup {v : Value} (hd : decode y.2.1 pc = .ok (.dup, 1)) (hv : v.category = 1) (k : V G y d rc rs (pc + 1) lv (v :: v :: st) h Q) : V G y d rc rs pc lv (v :: st) h Q := by
  intro p e R s m args below meth c H locs cells slots mc ms ls QQ hF hR hc hs hE hl hr hS
  exact lv_dup hF.1 hF.2.1 hd hv (k p e R s m args below meth c H locs cells slots mc ms ls QQ hF hR hc hs hE hl hr hS)
theorem V_dup2 {v w : Value} (hd : decode y.2.1 pc = .ok (.dup2, 1)) (hv : v.category = 1) (hw : w.category = 1) (k : V G y d rc rs (pc + 1) lv (v :: w :: v :: w :: st) h Q) : V G y d rc rs pc lv (v :: w :: st) h Q := by
  intro p e R s m args below meth c H locs cells slots mc ms ls QQ hF hR hc hs hE hl hr hS
  exact lv_dup2_11 hF.1 hF.2.1 hd hv hw (k p e R s m args below meth c H locs cells slots mc ms ls QQ hF hR hc hs hE hl hr hS)
theorem V_pop {v : Value} (hd : decode y.2.1 pc = .ok (.pop, 1)) (hv : v.category = 1) (k : V G y d rc rs (pc + 1) lv st h Q) : V G y d rc rs pc lv (v :: st) h Q := by
  intro p e R s m args below meth c H locs cells slots mc ms ls QQ hF hR hc hs hE hl hr hS
  exact lv_pop hF.1 hF.2.1 hd hv (k p e R s m args below meth c H locs cells slots mc ms ls QQ hF hR hc hs hE hl hr hS)
theorem V_icmp_eq {a b : Int32} {off : Int} (hd : decode y.2.1 pc = .ok (.if_icmp .eq off, 3)) (ht : tok pc off) (kt : a = b → V G y d rc rs (tgt pc off) lv st h Q) (kf : ¬ a = b → V G y d rc rs (pc + 3) lv st h Q) : V G y d rc rs pc lv (.int b :: .int a :: st) h Q := by
  intro p e R s m args below meth c H locs cells slots mc ms ls QQ hF hR hc hs hE hl hr hS
  exact lv_icmp_eq hF.1 hF.2.1 hd (tgt_ok ht) (fun c9 => kt c9 p e R s m args below meth c H locs cells slots mc ms ls QQ hF hR hc hs hE hl hr hS) (fun c9 => kf c9 p e R s m args below meth c H locs cells slots mc ms ls QQ hF hR hc hs hE hl hr hS)
theorem V_icmp_ne {a b : Int32} {off : Int} (hd : decode y.2.1 pc = .ok (.if_icmp .ne off, 3)) (ht : tok pc off) (kt : ¬ a = b → V G y d rc rs (tgt pc off) lv st h Q) (kf : a = b → V G y d rc rs (pc + 3) lv st h Q) : V G y d rc rs pc lv (.int b :: .int a :: st) h Q := by
  intro p e R s m args below meth c H locs cells slots mc ms ls QQ hF hR hc hs hE hl hr hS
  exact lv_icmp_ne hF.1 hF.2.1 hd (tgt_ok ht) (fun c9 => kt c9 p e R s m args below meth c H locs cells slots mc ms ls QQ hF hR hc hs hE hl hr hS) (fun c9 => kf c9 p e R s m args below meth c H locs cells slots mc ms ls QQ hF hR hc hs hE hl hr hS)
theorem V_icmp_lt {a b : Int32} {off : Int} (hd : decode y.2.1 pc = .ok (.if_icmp .lt off, 3)) (ht : tok pc off) (kt : a < b → V G y d rc rs (tgt pc off) lv st h Q) (kf : ¬ a < b → V G y d rc rs (pc + 3) lv st h Q) : V G y d rc rs pc lv (.int b :: .int a :: st) h Q := by
  intro p e R s m args below meth c H locs cells slots mc ms ls QQ hF hR hc hs hE hl hr hS
  exact lv_icmp_lt hF.1 hF.2.1 hd (tgt_ok ht) (fun c9 => kt c9 p e R s m args below meth c H locs cells slots mc ms ls QQ hF hR hc hs hE hl hr hS) (fun c9 => kf c9 p e R s m args below meth c H locs cells slots mc ms ls QQ hF hR hc hs hE hl hr hS)
theorem V_icmp_ge {a b : Int32} {off : Int} (hd : decode y.2.1 pc = .ok (.if_icmp .ge off, 3)) (ht : tok pc off) (kt : b ≤ a → V G y d rc rs (tgt pc off) lv st h Q) (kf : ¬ b ≤ a → V G y d rc rs (pc + 3) lv st h Q) : V G y d rc rs pc lv (.int b :: .int a :: st) h Q := by
  intro p e R s m args below meth c H locs cells slots mc ms ls QQ hF hR hc hs hE hl hr hS
  exact lv_icmp_ge hF.1 hF.2.1 hd (tgt_ok ht) (fun c9 => kt c9 p e R s m args below meth c H locs cells slots mc ms ls QQ hF hR hc hs hE hl hr hS) (fun c9 => kf c9 p e R s m args below meth c H locs cells slots mc ms ls QQ hF hR hc hs hE hl hr hS)
theorem V_icmp_gt {a b : Int32} {off : Int} (hd : decode y.2.1 pc = .ok (.if_icmp .gt off, 3)) (ht : tok pc off) (kt : b < a → V G y d rc rs (tgt pc off) lv st h Q) (kf : ¬ b < a → V G y d rc rs (pc + 3) lv st h Q) : V G y d rc rs pc lv (.int b :: .int a :: st) h Q := by
  intro p e R s m args below meth c H locs cells slots mc ms ls QQ hF hR hc hs hE hl hr hS
  exact lv_icmp_gt hF.1 hF.2.1 hd (tgt_ok ht) (fun c9 => kt c9 p e R s m args below meth c H locs cells slots mc ms ls QQ hF hR hc hs hE hl hr hS) (fun c9 => kf c9 p e R s m args below meth c H locs cells slots mc ms ls QQ hF hR hc hs hE hl hr hS)
theorem V_icmp_le {a b : Int32} {off : Int} (hd : decode y.2.1 pc = .ok (.if_icmp .le off, 3)) (ht : tok pc off) (kt : a ≤ b → V G y d rc rs (tgt pc off) lv st h Q) (kf : ¬ a ≤ b → V G y d rc rs (pc + 3) lv st h Q) : V G y d rc rs pc lv (.int b :: .int a :: st) h Q := by
  intro p e R s m args below meth c H locs cells slots mc ms ls QQ hF hR hc hs hE hl hr hS
  exact lv_icmp_le hF.1 hF.2.1 hd (tgt_ok ht) (fun c9 => kt c9 p e R s m args below meth c H locs cells slots mc ms ls QQ hF hR hc hs hE hl hr hS) (fun c9 => kf c9 p e R s m args below meth c H locs cells slots mc ms ls QQ hF hR hc hs hE hl hr hS)
theorem V_if_eq {a : Int32} {off : Int} (hd : decode y.2.1 pc = .ok (.ifCond .eq off, 3)) (ht : tok pc off) (kt : a = 0 → V G y d rc rs (tgt pc off) lv st h Q) (kf : ¬ a = 0 → V G y d rc rs (pc + 3) lv st h Q) : V G y d rc rs pc lv (.int a :: st) h Q := by
  intro p e R s m args below meth c H locs cells slots mc ms ls QQ hF hR hc hs hE hl hr hS
  exact lv_if_eq hF.1 hF.2.1 hd (tgt_ok ht) (fun c9 => kt c9 p e R s m args below meth c H locs cells slots mc ms ls QQ hF hR hc hs hE hl hr hS) (fun c9 => kf c9 p e R s m args below meth c H locs cells slots mc ms ls QQ hF hR hc hs hE hl hr hS)
theorem V_if_ne {a : Int32} {off : Int} (hd : decode y.2.1 pc = .ok (.ifCond .ne off, 3)) (ht : tok pc off) (kt : ¬ a = 0 → V G y d rc rs (tgt pc off) lv st h Q) (kf : a = 0 → V G y d rc rs (pc + 3) lv st h Q) : V G y d rc rs pc lv (.int a :: st) h Q := by
  intro p e R s m args below meth c H locs cells slots mc ms ls QQ hF hR hc hs hE hl hr hS
  exact lv_if_ne hF.1 hF.2.1 hd (tgt_ok ht) (fun c9 => kt c9 p e R s m args below meth c H locs cells slots mc ms ls QQ hF hR hc hs hE hl hr hS) (fun c9 => kf c9 p e R s m args below meth c H locs cells slots mc ms ls QQ hF hR hc hs hE hl hr hS)
theorem V_if_lt {a : Int32} {off : Int} (hd : decode y.2.1 pc = .ok (.ifCond .lt off, 3)) (ht : tok pc off) (kt : a < 0 → V G y d rc rs (tgt pc off) lv st h Q) (kf : ¬ a < 0 → V G y d rc rs (pc + 3) lv st h Q) : V G y d rc rs pc lv (.int a :: st) h Q := by
  intro p e R s m args below meth c H locs cells slots mc ms ls QQ hF hR hc hs hE hl hr hS
  exact lv_if_lt hF.1 hF.2.1 hd (tgt_ok ht) (fun c9 => kt c9 p e R s m args below meth c H locs cells slots mc ms ls QQ hF hR hc hs hE hl hr hS) (fun c9 => kf c9 p e R s m args below meth c H locs cells slots mc ms ls QQ hF hR hc hs hE hl hr hS)
theorem V_if_ge {a : Int32} {off : Int} (hd : decode y.2.1 pc = .ok (.ifCond .ge off, 3)) (ht : tok pc off) (kt : 0 ≤ a → V G y d rc rs (tgt pc off) lv st h Q) (kf : ¬ 0 ≤ a → V G y d rc rs (pc + 3) lv st h Q) : V G y d rc rs pc lv (.int a :: st) h Q := by
  intro p e R s m args below meth c H locs cells slots mc ms ls QQ hF hR hc hs hE hl hr hS
  exact lv_if_ge hF.1 hF.2.1 hd (tgt_ok ht) (fun c9 => kt c9 p e R s m args below meth c H locs cells slots mc ms ls QQ hF hR hc hs hE hl hr hS) (fun c9 => kf c9 p e R s m args below meth c H locs cells slots mc ms ls QQ hF hR hc hs hE hl hr hS)
theorem V_if_gt {a : Int32} {off : Int} (hd : decode y.2.1 pc = .ok (.ifCond .gt off, 3)) (ht : tok pc off) (kt : 0 < a → V G y d rc rs (tgt pc off) lv st h Q) (kf : ¬ 0 < a → V G y d rc rs (pc + 3) lv st h Q) : V G y d rc rs pc lv (.int a :: st) h Q := by
  intro p e R s m args below meth c H locs cells slots mc ms ls QQ hF hR hc hs hE hl hr hS
  exact lv_if_gt hF.1 hF.2.1 hd (tgt_ok ht) (fun c9 => kt c9 p e R s m args below meth c H locs cells slots mc ms ls QQ hF hR hc hs hE hl hr hS) (fun c9 => kf c9 p e R s m args below meth c H locs cells slots mc ms ls QQ hF hR hc hs hE hl hr hS)
theorem V_if_le {a : Int32} {off : Int} (hd : decode y.2.1 pc = .ok (.ifCond .le off, 3)) (ht : tok pc off) (kt : a ≤ 0 → V G y d rc rs (tgt pc off) lv st h Q) (kf : ¬ a ≤ 0 → V G y d rc rs (pc + 3) lv st h Q) : V G y d rc rs pc lv (.int a :: st) h Q := by
  intro p e R s m args below meth c H locs cells slots mc ms ls QQ hF hR hc hs hE hl hr hS
  exact lv_if_le hF.1 hF.2.1 hd (tgt_ok ht) (fun c9 => kt c9 p e R s m args below meth c H locs cells slots mc ms ls QQ hF hR hc hs hE hl hr hS) (fun c9 => kf c9 p e R s m args below meth c H locs cells slots mc ms ls QQ hF hR hc hs hE hl hr hS)
theorem V_goto {off : Int} (hd : decode y.2.1 pc = .ok (.goto off, 3)) (ht : tok pc off) (k : V G y d rc rs (tgt pc off) lv st h Q) : V G y d rc rs pc lv st h Q := by
  intro p e R s m args below meth c H locs cells slots mc ms ls QQ hF hR hc hs hE hl hr hS
  exact lv_goto hF.1 hF.2.1 hd (tgt_ok ht) (k p e R s m args below meth c H locs cells slots mc ms ls QQ hF hR hc hs hE hl hr hS)
theorem V_tableIn {dflt lo hi : Int} {offs : Array Int} {len : Nat} {a : Int32} {off : Int} (hd : decode y.2.1 pc = .ok (.tableswitch dflt lo hi offs, len)) (h1 : ¬ a.toInt < lo) (h2 : ¬ hi < a.toInt) (ho : offs[(a.toInt - lo).toNat]? = some off) (ht : tok pc off) (k : V G y d rc rs (tgt pc off) lv st h Q) : V G y d rc rs pc lv (.int a :: st) h Q := by
  intro p e R s m args below meth c H locs cells slots mc ms ls QQ hF hR hc hs hE hl hr hS
  exact lv_tableIn hF.1 hF.2.1 hd h1 h2 ho (tgt_ok ht) (k p e R s m args below meth c H locs cells slots mc ms ls QQ hF hR hc hs hE hl hr hS)
theorem V_tableOut {dflt lo hi : Int} {offs : Array Int} {len : Nat} {a : Int32} (hd : decode y.2.1 pc = .ok (.tableswitch dflt lo hi offs, len)) (h1 : a.toInt < lo ∨ hi < a.toInt) (ht : tok pc dflt) (k : V G y d rc rs (tgt pc dflt) lv st h Q) : V G y d rc rs pc lv (.int a :: st) h Q := by
  intro p e R s m args below meth c H locs cells slots mc ms ls QQ hF hR hc hs hE hl hr hS
  exact lv_tableOut hF.1 hF.2.1 hd h1 (tgt_ok ht) (k p e R s m args below meth c H locs cells slots mc ms ls QQ hF hR hc hs hE hl hr hS)
theorem V_lookup {dflt : Int} {ps : Array (Int × Int)} {len : Nat} {a : Int32} {off : Int} (hd : decode y.2.1 pc = .ok (.lookupswitch dflt ps, len)) (hp : (ps.toList.zip (ps.toList.drop 1)).all (fun (a, next) => a.1 < next.1) = true) (ho : Op.lookupswitch.offset ps.toList dflt a.toInt = off) (ht : tok pc off) (k : V G y d rc rs (tgt pc off) lv st h Q) : V G y d rc rs pc lv (.int a :: st) h Q := by
  intro p e R s m args below meth c H locs cells slots mc ms ls QQ hF hR hc hs hE hl hr hS
  exact lv_lookup hF.1 hF.2.1 hd hp ho (tgt_ok ht) (k p e R s m args below meth c H locs cells slots mc ms ls QQ hF hR hc hs hE hl hr hS)
end VROWS
