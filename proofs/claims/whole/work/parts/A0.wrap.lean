/-! ===== the law's wrappers ===== -/
theorem rtC_cs (v : Int32) (h : cod v) : (v < nI 0 ∧ rtC v = .inr (exN v)) ∨ (¬ v < nI 0 ∧ rtC v = .inl (some (.int v))) := by
  by_cases c : v < nI 0
  · exact .inl ⟨c, if_pos c⟩
  · exact .inr ⟨c, if_neg c⟩
abbrev EIO : String := "java/lang/IndexOutOfBoundsException"
abbrev EIA : String := "java/lang/IllegalArgumentException"
abbrev EIS : String := "java/lang/IllegalStateException"
abbrev ENS : String := "java/util/NoSuchElementException"
abbrev EUO : String := "java/lang/UnsupportedOperationException"
abbrev EAR : String := "java/lang/ArithmeticException"
theorem ncl_all : ∀ a, a ∈ [EIO, EIA, EIS, ENS, EUO, EAR] → ∀ b, b ∈ [EIO, EIA, EIS, ENS, EUO, EAR] → (a, b) ∈ NCL := by decide +kernel
/-- a row of the law's tables: the class's place and name -/
def LKR (q : Nat × String) : Prop := Cond.classLink RL q.1 q.2 ∈ GW ∧ q.1 ≠ 0 ∧ q.2 ∈ [EIO, EIA, EIS, ENS, EUO, EAR]
theorem lk_io : LKR (13, EIO) := ⟨g4_9, by decide, by decide⟩
theorem lk_ia : LKR (15, EIA) := ⟨g4_12, by decide, by decide⟩
theorem lk_is : LKR (17, EIS) := ⟨g4_13, by decide, by decide⟩
theorem lk_ns : LKR (23, ENS) := ⟨g4_120, by decide, by decide⟩
theorem lk_uo : LKR (25, EUO) := ⟨g4_121, by decide, by decide⟩
theorem lk_ar : LKR (114, EAR) := ⟨g5_164, by decide, by decide⟩
theorem x_catch1 {G : GT} {y : MD} {d rc rs pc a b hp ct : Nat} {lv : LL} {E : String} {h : Hp} {Q : RT → Hp → Prop} {suf : List (Nat × Nat × Nat × Nat)} (hy : y.2.2.2.2.2 = 9) (htab : y.2.2.2.2.1 = some ((a, b, hp, ct) :: suf)) (l : LKR (ct, E)) (hc : covers ⟨a, b, hp, ct⟩ pc = true) (kk : ∀ q : Nat, V G y d rc rs hp lv [.ref q] h Q) : VX G y d rc rs pc lv E h Q :=
  VX_catch (pre := []) htab (fun z hz => nomatch hz) hc l.2.1 (by rw [hy]; exact l.1) (ncl_all _ l.2.2 _ l.2.2) kk
theorem x_catch2 {G : GT} {y : MD} {d rc rs pc a b hp ct a1 b1 hp1 ct1 : Nat} {lv : LL} {E E1 : String} {h : Hp} {Q : RT → Hp → Prop} {suf : List (Nat × Nat × Nat × Nat)} (hy : y.2.2.2.2.2 = 9) (htab : y.2.2.2.2.1 = some ((a1, b1, hp1, ct1) :: (a, b, hp, ct) :: suf)) (l1 : LKR (ct1, E1)) (n1 : E1 ≠ E) (l : LKR (ct, E)) (hc : covers ⟨a, b, hp, ct⟩ pc = true) (kk : ∀ q : Nat, V G y d rc rs hp lv [.ref q] h Q) : VX G y d rc rs pc lv E h Q :=
  VX_catch (pre := [(a1, b1, hp1, ct1)]) htab (fun z hz => by
    obtain rfl := List.mem_singleton.mp hz
    exact ⟨l1.2.1, E1, by rw [hy]; exact l1.1, n1, ncl_all _ l.2.2 _ l1.2.2⟩) hc l.2.1 (by rw [hy]; exact l.1) (ncl_all _ l.2.2 _ l.2.2) kk
theorem x_catch3 {G : GT} {y : MD} {d rc rs pc a b hp ct a1 b1 hp1 ct1 a2 b2 hp2 ct2 : Nat} {lv : LL} {E E1 E2 : String} {h : Hp} {Q : RT → Hp → Prop} {suf : List (Nat × Nat × Nat × Nat)} (hy : y.2.2.2.2.2 = 9) (htab : y.2.2.2.2.1 = some ((a1, b1, hp1, ct1) :: (a2, b2, hp2, ct2) :: (a, b, hp, ct) :: suf)) (l1 : LKR (ct1, E1)) (n1 : E1 ≠ E) (l2 : LKR (ct2, E2)) (n2 : E2 ≠ E) (l : LKR (ct, E)) (hc : covers ⟨a, b, hp, ct⟩ pc = true) (kk : ∀ q : Nat, V G y d rc rs hp lv [.ref q] h Q) : VX G y d rc rs pc lv E h Q :=
  VX_catch (pre := [(a1, b1, hp1, ct1), (a2, b2, hp2, ct2)]) htab (fun z hz => by
    rcases List.mem_cons.mp hz with rfl | hz
    · exact ⟨l1.2.1, E1, by rw [hy]; exact l1.1, n1, ncl_all _ l.2.2 _ l1.2.2⟩
    · obtain rfl := List.mem_singleton.mp hz
      exact ⟨l2.2.1, E2, by rw [hy]; exact l2.1, n2, ncl_all _ l.2.2 _ l2.2.2⟩) hc l.2.1 (by rw [hy]; exact l.1) (ncl_all _ l.2.2 _ l.2.2) kk
/-- the cells are as they were, but for B's own, O and the new ones -/
def Fo (h h' : Hp) (B O : Nat) : Prop := h.1 ≤ h'.1 ∧ ∀ b, b ≠ O → (b < B ∨ (B + 228 ≤ b ∧ b < h.1)) → h'.2 b = h.2 b
def OutL (h : Hp) (O : Nat) : Prop := ∃ f, h.2 O = some (.inl (2, 1, .inr (.inl f)))
def OutV (h : Hp) (O : Nat) (v : Int32) : Prop := ∃ f, h.2 O = some (.inl (2, 1, .inr (.inl f))) ∧ f 0 = v.toInt64
theorem exN_a : exN (-nI 1) = EIO ∧ exN (-nI 2) = ENS ∧ exN (-nI 3) = EIA ∧ exN (-nI 4) = EIS ∧ exN (-nI 5) = EUO := ⟨by decide +kernel, by decide +kernel, by decide +kernel, by decide +kernel, by decide +kernel⟩
theorem tx_a : (nI 0).toInt64 = lN 0 := by decide
theorem AtX.o {K : KT9} {h h' : Hp} {B : Nat} {x : XS} (a : AtX K h B x) (e : ∀ q, B ≤ q → q < B + 228 → h'.2 q = h.2 q) : AtX K h' B x := by
  obtain ⟨a0, a1, a2, a3, a4, a5⟩ := a
  exact ⟨(e _ (by omega) (by omega)).trans a0, a1.of (fun q h1 h2 => e q (by omega) (by omega)), a2.of (fun q h1 h2 => e q (by omega) (by omega)), a3.of (fun q h1 h2 => e q (by omega) (by omega)), a4.of (fun q h1 h2 => e q (by omega) (by omega)), a5.of (fun q h1 h2 => e q (by omega) (by omega))⟩
/-- the out cell is put -/
theorem out_put {K : KT9} {h h1 : Hp} {B O : Nat} {x : XS} {f : Nat → Int64} {v : Int32} (hO : B + 228 ≤ O ∧ O < h.1) (F : Fo h h1 B O) (a : AtX K h1 B x) : Fo h (hput h1 O (.inl (2, 1, .inr (.inl (vp_updL f 0 v.toInt64))))) B O ∧ AtX K (hput h1 O (.inl (2, 1, .inr (.inl (vp_updL f 0 v.toInt64))))) B x ∧ OutL (hput h1 O (.inl (2, 1, .inr (.inl (vp_updL f 0 v.toInt64))))) O ∧ OutV (hput h1 O (.inl (2, 1, .inr (.inl (vp_updL f 0 v.toInt64))))) O v :=
  ⟨⟨F.1, fun q hq h2 => (hput_ne hq).trans (F.2 q hq h2)⟩, a.o (fun q h1 h2 => hput_ne (by omega)), ⟨_, hput_eq _ _ _⟩, ⟨_, hput_eq _ _ _, if_pos rfl⟩⟩
