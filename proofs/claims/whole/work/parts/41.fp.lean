/-! ===== doubles and floats: what is no NaN; means and shares ===== -/
theorem fpB : FP.Core.b64.tails = 2 ^ 52 ∧ FP.Core.b64.exps = 2048 ∧ FP.Core.b32.tails = 2 ^ 23 ∧ FP.Core.b32.exps = 256 := ⟨rfl, rfl, rfl, rfl⟩
/-- the greatest magnitude that is no NaN -/
def mgn (f : FP.Core.Fmt) (n : Nat) : Prop := n % (f.exps * f.tails) ≤ (f.exps - 1) * f.tails
theorem mgn_asm {f : FP.Core.Fmt} {s : Bool} {e t : Nat} (he : e + 1 < f.exps) (ht : t < f.tails) : mgn f (FP.Core.assemble f s e t) := by
  have h1 : (e + 1) * f.tails ≤ (f.exps - 1) * f.tails := Nat.mul_le_mul_right _ (by omega)
  have h2 : (e + 1) * f.tails = e * f.tails + f.tails := Nat.succ_mul _ _
  have h3 : (f.exps - 1) * f.tails + f.tails = f.exps * f.tails := by
    rw [← Nat.succ_mul]; congr 1; omega
  unfold mgn FP.Core.assemble
  rw [Nat.add_mul, Nat.mul_assoc, Nat.add_assoc, Nat.mul_add_mod', Nat.mod_eq_of_lt (by omega)]
  omega
theorem mgn_inf {f : FP.Core.Fmt} {s : Bool} (he : 0 < f.exps) (ht : 0 < f.tails) : mgn f (FP.Core.assemble f s (f.exps - 1) 0) := by
  have h3 : (f.exps - 1) * f.tails + f.tails = f.exps * f.tails := by
    rw [← Nat.succ_mul]; congr 1; omega
  unfold mgn FP.Core.assemble
  rw [Nat.add_mul, Nat.mul_assoc, Nat.add_assoc, Nat.mul_add_mod', Nat.mod_eq_of_lt (by omega)]
  omega
def FmtOk (f : FP.Core.Fmt) : Prop := 2 < f.exps ∧ 0 < f.tails ∧ 2 ^ f.p = f.tails + f.tails ∧ f.qmax - f.qmin + 3 ≤ (f.exps : Int)
theorem ok64 : FmtOk FP.Core.b64 := ⟨by decide +kernel, by decide +kernel, by decide +kernel, by decide +kernel⟩
theorem ok32 : FmtOk FP.Core.b32 := ⟨by decide +kernel, by decide +kernel, by decide +kernel, by decide +kernel⟩
theorem mgn_bound {f : FP.Core.Fmt} {s : Bool} {c : Nat} {q : Int} (ok : FmtOk f) (hc : c < 2 ^ f.p) : mgn f (FP.Core.encode f (FP.Core.bound f s c q)) := by
  obtain ⟨k1, k2, k3, k4⟩ := ok
  unfold FP.Core.bound
  split
  · next h =>
    unfold FP.Core.encode
    dsimp only
    split
    · exact mgn_asm (by omega) (by assumption)
    · exact mgn_asm (by omega) (by omega)
  · exact mgn_inf (by omega) k2
theorem mgn_settle {f : FP.Core.Fmt} {s : Bool} {c : Nat} {q : Int} (ok : FmtOk f) : mgn f (FP.Core.encode f (FP.Core.settle f s c q)) := by
  unfold FP.Core.settle
  split
  · exact mgn_bound ok (by assumption)
  · exact mgn_bound ok (by have := ok.2.1; have := ok.2.2.1; omega)
theorem mgn_ratio {f : FP.Core.Fmt} {s : Bool} {n d : Nat} {e : Int} (ok : FmtOk f) : mgn f (FP.Core.encode f (FP.Core.roundRatio f s n d e)) := by
  unfold FP.Core.roundRatio
  split
  · unfold FP.Core.encode
    dsimp only
    rw [if_pos ok.2.1]
    exact mgn_asm (by have := ok.1; omega) ok.2.1
  · exact mgn_settle ok
theorem mgn_round {f : FP.Core.Fmt} {D : FP.Core.Datum} (ok : FmtOk f) (hD : D ≠ .nan) : mgn f (FP.Core.encode f (FP.Core.round f D)) := by
  cases D with
  | nan => exact absurd rfl hD
  | inf s => exact mgn_inf (by have := ok.1; omega) ok.2.1
  | fin s c q => exact mgn_ratio ok
theorem mgn_not {f : FP.Core.Fmt} {n : Nat} (ok : FmtOk f) (h : mgn f n) : FP.Core.decode f n ≠ .nan := by
  obtain ⟨k1, k2, k3, k4⟩ := ok
  unfold FP.Core.decode
  split
  · next he =>
    split
    · exact fun q => by cases q
    · next ht =>
      exfalso
      unfold FP.Core.fieldE at he
      unfold FP.Core.fieldT at ht
      unfold mgn at h
      have h1 : n % (f.exps * f.tails) = n % f.tails + f.tails * (n / f.tails % f.exps) := by rw [Nat.mul_comm f.exps, Nat.mod_mul]
      rw [h1, he, Nat.mul_comm] at h
      omega
  · split <;> exact fun q => by cases q
theorem mgn_quot {f : FP.Core.Fmt} {x y : Nat} (ok : FmtOk f) (hx : FP.Core.decode f x ≠ .nan) {t : Bool} {d : Nat} {r : Int} (hy : FP.Core.decode f y = .fin t d r) (hd : d ≠ 0) : mgn f (FP.Core.div f x y) := by
  unfold FP.Core.div
  rw [hy]
  cases e : FP.Core.decode f x with
  | nan => exact absurd e hx
  | inf s => exact mgn_inf (by have := ok.1; omega) ok.2.1
  | fin s c q =>
    unfold FP.Core.quotient
    dsimp only
    rw [if_neg hd]
    exact mgn_ratio ok
theorem n64_of {n : Nat} (h : mgn FP.Core.b64 n) (hn : n < 2 ^ 64) : vf_n64 (.ofNat n) := by
  unfold vf_n64
  rw [UInt64.le_iff_toNat_le, UInt64.toNat_and, UInt64.toNat_ofNat_of_lt' hn, show (0x7fffffffffffffff : UInt64).toNat = 2 ^ 63 - 1 from rfl, Nat.and_two_pow_sub_one_eq_mod]
  exact h
theorem n32_of {n : Nat} (h : mgn FP.Core.b32 n) (hn : n < 2 ^ 32) : vf_n32 (.ofNat n) := by
  unfold vf_n32
  rw [UInt32.le_iff_toNat_le, UInt32.toNat_and, UInt32.toNat_ofNat_of_lt' hn, show (0x7fffffff : UInt32).toNat = 2 ^ 31 - 1 from rfl, Nat.and_two_pow_sub_one_eq_mod]
  exact h
