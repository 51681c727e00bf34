/-! ===== doubles and floats: what is no NaN; means and shares ===== -/
theorem fpB : FP.Core.b64.tails = 2 ^ 52 ∧ FP.Core.b64.exps = 2048 ∧ FP.Core.b32.tails = 2 ^ 23 ∧ FP.Core.b32.exps = 256 := ⟨rfl, rfl, rfl, rfl⟩
/-- the greatest magnitude that is no NaN -/
def mgn (f : FP.Core.Fmt) (n : Nat) : Prop := n % (f.exps * f.tails) ≤ (f.exps - 1) * f.tails
theorem mgn_asm {f : FP.Core.Fmt} {s : Bool} {e t : Nat} (he : e + 1 < f.exps) (ht : t < f.tails) : mgn f (FP.Core.assemble f s e t) := by
  have h1 : (e + 1) * f.tails ≤ (f.exps - 1) * f.tails := Nat.mul_le_mul_right _ (by omega)
  have h2 : (e + 1) * f.tails = e * f.tails + f.tails := Nat.succ_mul _ _
  have h3 : (f.exps - 1) * f.tails + f.tails = f.exps * f.tails := by
    rw [← Nat.succ_mul]; congr 1; omega
  unfold mgn FP.Core.assemble
  rw [Nat.add_mul, Nat.mul_assoc, Nat.add_assoc, Nat.mul_add_mod', Nat.mod_eq_of_lt (by omega)]
  omega
theorem mgn_inf {f : FP.Core.Fmt} {s : Bool} (he : 0 < f.exps) (ht : 0 < f.tails) : mgn f (FP.Core.assemble f s (f.exps - 1) 0) := by
  have h3 : (f.exps - 1) * f.tails + f.tails = f.exps * f.tails := by
    rw [← Nat.succ_mul]; congr 1; omega
  unfold mgn FP.Core.assemble
  rw [Nat.add_mul, Nat.mul_assoc, Nat.add_assoc, Nat.mul_add_mod', Nat.mod_eq_of_lt (by omega)]
  omega
def FmtOk (f : FP.Core.Fmt) : Prop := 2 < f.exps ∧ 0 < f.tails ∧ 2 ^ f.p = f.tails + f.tails ∧ f.qmax - f.qmin + 3 ≤ (f.exps : Int)
theorem ok64 : FmtOk FP.Core.b64 := ⟨by decide +kernel, by decide +kernel, by decide +kernel, by decide +kernel⟩
theorem ok32 : FmtOk FP.Core.b32 := ⟨by decide +kernel, by decide +kernel, by decide +kernel, by decide +kernel⟩
theorem mgn_bound {f : FP.Core.Fmt} {s : Bool} {c : Nat} {q : Int} (ok : FmtOk f) (hc : c < 2 ^ f.p) : mgn f (FP.Core.encode f (FP.Core.bound f s c q)) := by
  obtain ⟨k1, k2, k3, k4⟩ := ok
  unfold FP.Core.bound
  split
  · next h =>
    unfold FP.Core.encode
    dsimp only
    split
    · exact mgn_asm (by omega) (by assumption)
    · exact mgn_asm (by omega) (by omega)
  · exact mgn_inf (by omega) k2
theorem mgn_settle {f : FP.Core.Fmt} {s : Bool} {c : Nat} {q : Int} (ok : FmtOk f) : mgn f (FP.Core.encode f (FP.Core.settle f s c q)) := by
  unfold FP.Core.settle
  split
  · exact mgn_bound ok (by assumption)
  · exact mgn_bound ok (by have := ok.2.1; have := ok.2.2.1; omega)
theorem mgn_ratio {f : FP.Core.Fmt} {s : Bool} {n d : Nat} {e : Int} (ok : FmtOk f) : mgn f (FP.Core.encode f (FP.Core.roundRatio f s n d e)) := by
  unfold FP.Core.roundRatio
  split
  · unfold FP.Core.encode
    dsimp only
    rw [if_pos ok.2.1]
    exact mgn_asm (by have := ok.1; omega) ok.2.1
  · exact mgn_settle ok
theorem mgn_round {f : FP.Core.Fmt} {D : FP.Core.Datum} (ok : FmtOk f) (hD : D ≠ .nan) : mgn f (FP.Core.encode f (FP.Core.round f D)) := by
  cases D with
  | nan => exact absurd rfl hD
  | inf s => exact mgn_inf (by have := ok.1; omega) ok.2.1
  | fin s c q => exact mgn_ratio ok
theorem mgn_not {f : FP.Core.Fmt} {n : Nat} (ok : FmtOk f) (h : mgn f n) : FP.Core.decode f n ≠ .nan := by
  obtain ⟨k1, k2, k3, k4⟩ := ok
  unfold FP.Core.decode
  split
  · next he =>
    split
    · exact fun q => by cases q
    · next ht =>
      exfalso
      unfold FP.Core.fieldE at he
      unfold FP.Core.fieldT at ht
      unfold mgn at h
      have h1 : n % (f.exps * f.tails) = n % f.tails + f.tails * (n / f.tails % f.exps) := by rw [Nat.mul_comm f.exps, Nat.mod_mul]
      rw [h1, he, Nat.mul_comm] at h
      omega
  · split <;> exact fun q => by cases q
theorem mgn_quot {f : FP.Core.Fmt} {x y : Nat} (ok : FmtOk f) (hx : FP.Core.decode f x ≠ .nan) {t : Bool} {d : Nat} {r : Int} (hy : FP.Core.decode f y = .fin t d r) (hd : d ≠ 0) : mgn f (FP.Core.div f x y) := by
  unfold FP.Core.div
  rw [hy]
  cases e : FP.Core.decode f x with
  | nan => exact absurd e hx
  | inf s => exact mgn_inf (by have := ok.1; omega) ok.2.1
  | fin s c q =>
    unfold FP.Core.quotient
    dsimp only
    rw [if_neg hd]
    exact mgn_ratio ok
theorem n64_of {n : Nat} (h : mgn FP.Core.b64 n) : vf_n64 (.ofNat n) := by
  unfold vf_n64
  rw [UInt64.le_iff_toNat_le, UInt64.toNat_and, show (UInt64.ofNat n).toNat = n % 2 ^ 64 from rfl, show (0x7fffffffffffffff : UInt64).toNat = 2 ^ 63 - 1 from rfl, Nat.and_two_pow_sub_one_eq_mod, Nat.mod_mod_of_dvd _ (by decide)]
  exact h
theorem n32_of {n : Nat} (h : mgn FP.Core.b32 n) : vf_n32 (.ofNat n) := by
  unfold vf_n32
  rw [UInt32.le_iff_toNat_le, UInt32.toNat_and, show (UInt32.ofNat n).toNat = n % 2 ^ 32 from rfl, show (0x7fffffff : UInt32).toNat = 2 ^ 31 - 1 from rfl, Nat.and_two_pow_sub_one_eq_mod, Nat.mod_mod_of_dvd _ (by decide)]
  exact h
theorem mg64 {n : Nat} (h : mgn FP.Core.b64 n) : mgn FP.Core.b64 (UInt64.ofNat n).toNat := by
  show (n % 2 ^ 64) % 2 ^ 63 ≤ _
  rw [Nat.mod_mod_of_dvd _ (by decide)]
  exact h
theorem mg32 {n : Nat} (h : mgn FP.Core.b32 n) : mgn FP.Core.b32 (UInt32.ofNat n).toNat := by
  show (n % 2 ^ 32) % 2 ^ 31 ≤ _
  rw [Nat.mod_mod_of_dvd _ (by decide)]
  exact h
theorem i2d_nn (a : Int32) : FP.Core.decode FP.Core.b64 (FP.i2d a).toNat ≠ .nan := mgn_not ok64 (mg64 (mgn_round ok64 (by unfold FP.Core.ofInt; exact fun q => by cases q)))
theorem i2f_nn (a : Int32) : FP.Core.decode FP.Core.b32 (FP.i2f a).toNat ≠ .nan := mgn_not ok32 (mg32 (mgn_round ok32 (by unfold FP.Core.ofInt; exact fun q => by cases q)))
def nzD (D : FP.Core.Datum) : Bool := match D with
  | .fin _ d _ => decide (d ≠ 0)
  | _ => false
def chR (f : Nat → Bool) : Nat → Nat → Bool
  | 0, k => f k
  | d + 1, k => chR f d k && chR f d (k + 2 ^ d)
theorem chR_ok {f : Nat → Bool} : ∀ (d k j : Nat), chR f d k = true → k ≤ j → j < k + 2 ^ d → f j = true
  | 0, k, j, h, h1, h2 => by rw [show j = k from by rw [Nat.pow_zero] at h2; omega]; exact h
  | d + 1, k, j, h, h1, h2 => by
    rw [chR, Bool.and_eq_true] at h
    rw [Nat.pow_succ] at h2
    by_cases q : j < k + 2 ^ d
    · exact chR_ok d k j h.1 h1 q
    · exact chR_ok d (k + 2 ^ d) j h.2 (by omega) (by omega)
theorem ch64 : chR (fun k => nzD (FP.Core.decode FP.Core.b64 (FP.i2d (nI k)).toNat)) 5 1 = true := by decide +kernel
theorem ch32 : chR (fun k => nzD (FP.Core.decode FP.Core.b32 (FP.i2f (nI k)).toNat)) 13 1 = true := by decide +kernel
theorem nzD_ex {D : FP.Core.Datum} (h : nzD D = true) : ∃ t d r, D = .fin t d r ∧ d ≠ 0 := by
  cases D with
  | nan => cases h
  | inf s => cases h
  | fin s c q => exact ⟨s, c, q, rfl, of_decide_eq_true h⟩
theorem ddiv_n (a : Int32) {k : Nat} (h0 : 0 < k) (hk : k < 33) : vf_n64 (FP.ddiv (FP.i2d a) (FP.i2d (nI k))) ∧ mgn FP.Core.b64 (FP.ddiv (FP.i2d a) (FP.i2d (nI k))).toNat := by
  obtain ⟨t, d, r, e, hd⟩ := nzD_ex (chR_ok 5 1 k ch64 (by omega) (by omega))
  have h := mgn_quot ok64 (i2d_nn a) e hd
  exact ⟨n64_of h, mg64 h⟩
theorem fdiv_n (a : Int32) {k : Nat} (h0 : 0 < k) (hk : k < 8192) : vf_n32 (FP.fdiv (FP.i2f a) (FP.i2f (nI k))) ∧ mgn FP.Core.b32 (FP.fdiv (FP.i2f a) (FP.i2f (nI k))).toNat := by
  obtain ⟨t, d, r, e, hd⟩ := nzD_ex (chR_ok 13 1 k ch32 (by omega) (by omega))
  have h := mgn_quot ok32 (i2f_nn a) e hd
  exact ⟨n32_of h, mg32 h⟩
theorem f2d_n {a : UInt32} (h : mgn FP.Core.b32 a.toNat) : vf_n64 (FP.f2d a) ∧ mgn FP.Core.b64 (FP.f2d a).toNat := by
  have h1 := mgn_not ok32 h
  have h2 : FP.f2d a = FP.Core.f2d a := by
    unfold FP.f2d
    rw [if_neg]
    unfold FP.Core.fIsNaN FP.Core.isNaN
    rw [decide_eq_false h1]
    decide
  rw [h2]
  have h3 : mgn FP.Core.b64 (FP.Core.convert FP.Core.b32 FP.Core.b64 a.toNat) := mgn_round ok64 h1
  exact ⟨n64_of h3, mg64 h3⟩
theorem ord_self {D : FP.Core.Datum} (h : D ≠ .nan) : FP.Core.order D D = some .eq := by
  cases D with
  | nan => exact absurd rfl h
  | inf s => cases s <;> rfl
  | fin s c q =>
    unfold FP.Core.order
    simp [compare, compareOfLessAndEq]
theorem dcmp_self {a : UInt64} (h : mgn FP.Core.b64 a.toNat) : FP.dcmp a a = some .eq := ord_self (mgn_not ok64 h)
