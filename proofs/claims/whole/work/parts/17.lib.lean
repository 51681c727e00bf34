/-! ===== numerals, and the walk's names ===== -/
theorem tgp (pc n : Nat) : tgt pc (no_index (@OfNat.ofNat Int n instOfNat)) = pc + n := rfl
theorem tkp (pc n : Nat) : tok pc (no_index (@OfNat.ofNat Int n instOfNat)) = True := rfl
theorem tgn (pc n : Nat) : tgt pc (-(no_index (@OfNat.ofNat Int n instOfNat))) = pc - n := by
  cases n with
  | zero => rfl
  | succ n => rfl
theorem tkn (pc n : Nat) : tok pc (-(no_index (@OfNat.ofNat Int n instOfNat))) = (n ≤ pc) := by
  cases n with
  | zero => exact propext ⟨fun _ => Nat.zero_le _, fun _ => trivial⟩
  | succ n => rfl
theorem kip (n : Nat) : kI (no_index (@OfNat.ofNat Int n instOfNat)) = nI n := rfl
theorem kin (n : Nat) : kI (-(no_index (@OfNat.ofNat Int n instOfNat))) = -nI n := by
  cases n with
  | zero => decide
  | succ n => rfl
theorem bip_all : ∀ n, n < 128 → (Int8.ofInt (Int.ofNat n)).toInt32 = Int32.ofNat n := by decide +kernel
theorem bip : bI 8 = nI 8 ∧ bI 9 = nI 9 ∧ bI 10 = nI 10 ∧ bI 11 = nI 11 ∧ bI 15 = nI 15 ∧ bI 16 = nI 16 ∧ bI 24 = nI 24 ∧ bI 32 = nI 32 ∧ bI 44 = nI 44 ∧ bI 45 = nI 45 ∧ bI 48 = nI 48 ∧ bI 57 = nI 57 ∧ bI 59 = nI 59 ∧ bI 60 = nI 60 ∧ bI 63 = nI 63 ∧ bI 72 = nI 72 ∧ bI 97 = nI 97 ∧ bI 98 = nI 98 ∧ bI 100 = nI 100 ∧ bI 101 = nI 101 ∧ bI 104 = nI 104 ∧ bI 108 = nI 108 ∧ bI 109 = nI 109 ∧ bI 112 = nI 112 := ⟨bip_all 8 (by decide), bip_all 9 (by decide), bip_all 10 (by decide), bip_all 11 (by decide), bip_all 15 (by decide), bip_all 16 (by decide), bip_all 24 (by decide), bip_all 32 (by decide), bip_all 44 (by decide), bip_all 45 (by decide), bip_all 48 (by decide), bip_all 57 (by decide), bip_all 59 (by decide), bip_all 60 (by decide), bip_all 63 (by decide), bip_all 72 (by decide), bip_all 97 (by decide), bip_all 98 (by decide), bip_all 100 (by decide), bip_all 101 (by decide), bip_all 104 (by decide), bip_all 108 (by decide), bip_all 109 (by decide), bip_all 112 (by decide)⟩
theorem sip : sI 1000 = nI 1000 ∧ sI 2121 = nI 2121 ∧ sI 240 = nI 240 ∧ sI 2424 = nI 2424 ∧ sI 255 = nI 255 ∧ sI 260 = nI 260 ∧ sI 303 = nI 303 ∧ sI 999 = nI 999 := ⟨by decide +kernel, by decide +kernel, by decide +kernel, by decide +kernel, by decide +kernel, by decide +kernel, by decide +kernel, by decide +kernel⟩
theorem bin : bI (-2) = -nI 2 ∧ bI (-3) = -nI 3 ∧ bI (-4) = -nI 4 ∧ bI (-5) = -nI 5 ∧ bI (-9) = -nI 9 ∧ bI (-10) = -nI 10 ∧ bI (-100) = -nI 100 := ⟨by decide +kernel, by decide +kernel, by decide +kernel, by decide +kernel, by decide +kernel, by decide +kernel, by decide +kernel⟩
theorem cl (n : Nat) (h : n < 2147483648) : (nI n).toNatClampNeg = n := nI_clamp h
theorem lt_nI {a b : Nat} (ha : a < 2147483648) (hb : b < 2147483648) : (nI a < nI b) = (a < b) := propext (nI_ltI ha hb)
theorem le_nI {a b : Nat} (ha : a < 2147483648) (hb : b < 2147483648) : (nI a ≤ nI b) = (a ≤ b) := propext (nI_leI ha hb)
theorem eq_nI {a b : Nat} (ha : a < 2147483648) (hb : b < 2147483648) : (nI a = nI b) = (a = b) := propext (nI_eq ha hb)
theorem z_nI : (0 : Int32) = nI 0 := rfl
theorem in_nI {a b : Nat} (ha : a < b) (hb : b < 2147483648) : vp_in (nI a) b = True := eq_true (vp_in_nI ha hb)
theorem sub_nI {a b : Nat} (h : b ≤ a) : nI a - nI b = nI (a - b) := pk_sub h
theorem div_nI {a b : Nat} (ha : a < 2147483648) (h0 : 0 < b) (hb : b < 2147483648) : nI a / nI b = nI (a / b) := pk_div ha h0 hb
theorem vcat1 : (∀ x : Int32, (Value.int x).category = 1) ∧ (∀ x : Nat, (Value.ref x).category = 1) ∧ (∀ x : UInt32, (Value.float x).category = 1) ∧ Value.null.category = 1 := ⟨fun _ => rfl, fun _ => rfl, fun _ => rfl, rfl⟩
/-- a contract, within what is left -/
theorem CtE.of {G : GT} {y : MD} {d rc rs : Nat} {av : List Value} {h : Hp} {P : Nat → Nat → RT → Hp → Prop} (d' mc' ms' : Nat) (h1 : d' < d) (h2 : mc' ≤ rc) (h3 : ms' ≤ rs) (hC : Ct G y d' mc' ms' av h (P (rc - mc') (rs - ms'))) : CtE G y d rc rs av h P := ⟨d', mc', ms', h1, h2, h3, hC⟩
theorem CtE.of0 {G : GT} {y : MD} {d rc rs : Nat} {av : List Value} {h : Hp} {P : Nat → Nat → RT → Hp → Prop} (h1 : 0 < d) (hC : Ct G y (d - 1) 0 0 av h (P rc rs)) : CtE G y d rc rs av h P := ⟨d - 1, 0, 0, by omega, Nat.zero_le _, Nat.zero_le _, hC⟩
/-- nothing outside lo .. hi - 1 has changed, nothing is new -/
def Fm (h h' : Hp) (lo hi : Nat) : Prop := h'.1 = h.1 ∧ ∀ b, b < lo ∨ hi ≤ b → h'.2 b = h.2 b
theorem Fm.rf {h : Hp} {lo hi : Nat} : Fm h h lo hi := ⟨rfl, fun _ _ => rfl⟩
theorem Fm.tr {h h1 h2 : Hp} {lo hi : Nat} (a : Fm h h1 lo hi) (b : Fm h1 h2 lo hi) : Fm h h2 lo hi := ⟨b.1.trans a.1, fun q hq => (b.2 q hq).trans (a.2 q hq)⟩
theorem Fm.wide {h h' : Hp} {lo hi lo' hi' : Nat} (a : Fm h h' lo hi) (h1 : lo' ≤ lo) (h2 : hi ≤ hi') : Fm h h' lo' hi' := ⟨a.1, fun q hq => a.2 q (by omega)⟩
theorem ini : mX1_init.1.name = "<init>" ∧ mX2_init.1.name = "<init>" ∧ mX4_init.1.name = "<init>" ∧ mX5_init.1.name = "<init>" ∧ mX6_init.1.name = "<init>" ∧ mX7_init.1.name = "<init>" ∧ mX8_init.1.name = "<init>" := ⟨rfl, rfl, rfl, rfl, rfl, rfl, rfl⟩
