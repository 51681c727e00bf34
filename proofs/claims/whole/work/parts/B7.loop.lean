/-! ===== the law's switch and loop ===== -/
theorem k_sw {G : GT} {K : KT9} {A B n i d rc rs J k : Nat} {sc : Nat → Int32} {h : Hp} {x : XS} {L : Tx} {th : Int32} {Q : RT → Hp → Prop} (hd : 13 ≤ d) (hjw : JW G) (hj2 : JW2 G) (w : KW G K kL kF) (ws : KSW G K) (hx : MTX G) (s : SC G A n sc) (hi : i + 3 < n) (hrc : 5 ≤ rc) (hrs : 540 ≤ rs) (hm : MsgW G) (hJ : J < 8000) (g : GX J x) (j : JJ G K h B x x L th) (nx : ∀ rc' rs' h', rc ≤ rc' + 5 → rs ≤ rs' + 540 → (∃ x' L' th', GX (J + 9) x' ∧ JJ G K h' B x' x' L' th') → V G mL_law d rc' rs' 2587 [some (.ref A), some (.ref B), some (.ref (B + 230)), some (.ref (B + 239)), some (.ref (B + 240)), some (.int (nI (i))), none, none, none] [] h' Q) (hk : k < 64) : V G mL_law d rc rs 44 [some (.ref A), some (.ref B), some (.ref (B + 230)), some (.ref (B + 239)), some (.ref (B + 240)), some (.int (nI (i))), none, none, none] [.int (nI k)] h Q := by
  have hJ9 : J < 9000 := by omega
  by_cases hk2 : k < 45
  · have kk : k = 0 ∨ k = 1 ∨ k = 2 ∨ k = 3 ∨ k = 4 ∨ k = 5 ∨ k = 6 ∨ k = 7 ∨ k = 8 ∨ k = 9 ∨ k = 10 ∨ k = 11 ∨ k = 12 ∨ k = 13 ∨ k = 14 ∨ k = 15 ∨ k = 16 ∨ k = 17 ∨ k = 18 ∨ k = 19 ∨ k = 20 ∨ k = 21 ∨ k = 22 ∨ k = 23 ∨ k = 24 ∨ k = 25 ∨ k = 26 ∨ k = 27 ∨ k = 28 ∨ k = 29 ∨ k = 30 ∨ k = 31 ∨ k = 32 ∨ k = 33 ∨ k = 34 ∨ k = 35 ∨ k = 36 ∨ k = 37 ∨ k = 38 ∨ k = 39 ∨ k = 40 ∨ k = 41 ∨ k = 42 ∨ k = 43 ∨ k = 44 := by omega
    rcases kk with rfl | rfl | rfl | rfl | rfl | rfl | rfl | rfl | rfl | rfl | rfl | rfl | rfl | rfl | rfl | rfl | rfl | rfl | rfl | rfl | rfl | rfl | rfl | rfl | rfl | rfl | rfl | rfl | rfl | rfl | rfl | rfl | rfl | rfl | rfl | rfl | rfl | rfl | rfl | rfl | rfl | rfl | rfl | rfl | rfl
    · refine V_tableIn (off := 196) DL_law_p.2.2.2.2.2.2.2.2.2.2.2.2.2.2.2.2.2.2.2.2.2.2.2.2.2.2.2 (by decide +kernel) (by decide +kernel) (by decide +kernel) trivial ?_
      rw [tgp]
      exact kc_0 (hd := by omega) (s := s) (hi := hi) (hrc := hrc) (hrs := hrs) (hm := hm) (hJ := by omega) (g := g) (j := j) (nx := nx)
    · refine V_tableIn (off := 278) DL_law_p.2.2.2.2.2.2.2.2.2.2.2.2.2.2.2.2.2.2.2.2.2.2.2.2.2.2.2 (by decide +kernel) (by decide +kernel) (by decide +kernel) trivial ?_
      rw [tgp]
      exact kc_1 (hd := by omega) (s := s) (hi := hi) (hrc := hrc) (hrs := hrs) (hm := hm) (hJ := by omega) (g := g) (j := j) (nx := nx)
    · refine V_tableIn (off := 334) DL_law_p.2.2.2.2.2.2.2.2.2.2.2.2.2.2.2.2.2.2.2.2.2.2.2.2.2.2.2 (by decide +kernel) (by decide +kernel) (by decide +kernel) trivial ?_
      rw [tgp]
      exact kc_2 (hd := by omega) (s := s) (hi := hi) (hrc := hrc) (hrs := hrs) (hm := hm) (hJ := by omega) (g := g) (j := j) (nx := nx)
    · refine V_tableIn (off := 404) DL_law_p.2.2.2.2.2.2.2.2.2.2.2.2.2.2.2.2.2.2.2.2.2.2.2.2.2.2.2 (by decide +kernel) (by decide +kernel) (by decide +kernel) trivial ?_
      rw [tgp]
      exact kc_3 (hd := by omega) (s := s) (hi := hi) (hrc := hrc) (hrs := hrs) (hm := hm) (hJ := by omega) (g := g) (j := j) (nx := nx)
    · refine V_tableIn (off := 472) DL_law_p.2.2.2.2.2.2.2.2.2.2.2.2.2.2.2.2.2.2.2.2.2.2.2.2.2.2.2 (by decide +kernel) (by decide +kernel) (by decide +kernel) trivial ?_
      rw [tgp]
      exact kc_4 (hd := by omega) (s := s) (hi := hi) (hrc := hrc) (hrs := hrs) (hm := hm) (hJ := by omega) (g := g) (j := j) (nx := nx)
    · refine V_tableIn (off := 540) DL_law_p.2.2.2.2.2.2.2.2.2.2.2.2.2.2.2.2.2.2.2.2.2.2.2.2.2.2.2 (by decide +kernel) (by decide +kernel) (by decide +kernel) trivial ?_
      rw [tgp]
      exact kc_5 (hd := by omega) (s := s) (hi := hi) (hrc := hrc) (hrs := hrs) (hm := hm) (hJ := by omega) (g := g) (j := j) (nx := nx)
    · refine V_tableIn (off := 596) DL_law_p.2.2.2.2.2.2.2.2.2.2.2.2.2.2.2.2.2.2.2.2.2.2.2.2.2.2.2 (by decide +kernel) (by decide +kernel) (by decide +kernel) trivial ?_
      rw [tgp]
      exact kc_6 (hd := by omega) (s := s) (hi := hi) (hrc := hrc) (hrs := hrs) (hm := hm) (hJ := by omega) (g := g) (j := j) (nx := nx)
    · refine V_tableIn (off := 664) DL_law_p.2.2.2.2.2.2.2.2.2.2.2.2.2.2.2.2.2.2.2.2.2.2.2.2.2.2.2 (by decide +kernel) (by decide +kernel) (by decide +kernel) trivial ?_
      rw [tgp]
      exact kc_7 (hd := by omega) (s := s) (hi := hi) (hrc := hrc) (hrs := hrs) (hm := hm) (hJ := by omega) (g := g) (j := j) (nx := nx)
    · refine V_tableIn (off := 732) DL_law_p.2.2.2.2.2.2.2.2.2.2.2.2.2.2.2.2.2.2.2.2.2.2.2.2.2.2.2 (by decide +kernel) (by decide +kernel) (by decide +kernel) trivial ?_
      rw [tgp]
      exact kc_8 (hd := by omega) (s := s) (hi := hi) (hrc := hrc) (hrs := hrs) (hm := hm) (hJ := by omega) (g := g) (j := j) (nx := nx)
    · refine V_tableIn (off := 788) DL_law_p.2.2.2.2.2.2.2.2.2.2.2.2.2.2.2.2.2.2.2.2.2.2.2.2.2.2.2 (by decide +kernel) (by decide +kernel) (by decide +kernel) trivial ?_
      rw [tgp]
      exact kc_9 (hd := by omega) (s := s) (hi := hi) (hrc := hrc) (hrs := hrs) (hm := hm) (hJ := by omega) (g := g) (j := j) (nx := nx)
    · refine V_tableIn (off := 846) DL_law_p.2.2.2.2.2.2.2.2.2.2.2.2.2.2.2.2.2.2.2.2.2.2.2.2.2.2.2 (by decide +kernel) (by decide +kernel) (by decide +kernel) trivial ?_
      rw [tgp]
      exact kc_10 (hd := by omega) (s := s) (hi := hi) (hrc := hrc) (hrs := hrs) (hm := hm) (hJ := by omega) (g := g) (j := j) (nx := nx)
    · refine V_tableIn (off := 859) DL_law_p.2.2.2.2.2.2.2.2.2.2.2.2.2.2.2.2.2.2.2.2.2.2.2.2.2.2.2 (by decide +kernel) (by decide +kernel) (by decide +kernel) trivial ?_
      rw [tgp]
      exact kc_11 (hd := by omega) (s := s) (hi := hi) (hrc := hrc) (hrs := hrs) (hm := hm) (hJ := by omega) (g := g) (j := j) (nx := nx)
    · refine V_tableIn (off := 884) DL_law_p.2.2.2.2.2.2.2.2.2.2.2.2.2.2.2.2.2.2.2.2.2.2.2.2.2.2.2 (by decide +kernel) (by decide +kernel) (by decide +kernel) trivial ?_
      rw [tgp]
      exact kc_12 (hd := by omega) (s := s) (hi := hi) (hrc := hrc) (hrs := hrs) (hm := hm) (hJ := by omega) (g := g) (j := j) (nx := nx)
    · refine V_tableIn (off := 940) DL_law_p.2.2.2.2.2.2.2.2.2.2.2.2.2.2.2.2.2.2.2.2.2.2.2.2.2.2.2 (by decide +kernel) (by decide +kernel) (by decide +kernel) trivial ?_
      rw [tgp]
      exact kc_13 (hd := by omega) (s := s) (hi := hi) (hrc := hrc) (hrs := hrs) (hm := hm) (hJ := by omega) (g := g) (j := j) (nx := nx)
    · refine V_tableIn (off := 996) DL_law_p.2.2.2.2.2.2.2.2.2.2.2.2.2.2.2.2.2.2.2.2.2.2.2.2.2.2.2 (by decide +kernel) (by decide +kernel) (by decide +kernel) trivial ?_
      rw [tgp]
      exact kc_14 (hd := by omega) (s := s) (hi := hi) (hrc := hrc) (hrs := hrs) (hm := hm) (hJ := by omega) (g := g) (j := j) (nx := nx)
    · refine V_tableIn (off := 1052) DL_law_p.2.2.2.2.2.2.2.2.2.2.2.2.2.2.2.2.2.2.2.2.2.2.2.2.2.2.2 (by decide +kernel) (by decide +kernel) (by decide +kernel) trivial ?_
      rw [tgp]
      exact kc_15 (hd := by omega) (s := s) (hi := hi) (hrc := hrc) (hrs := hrs) (hm := hm) (hJ := by omega) (g := g) (j := j) (nx := nx)
    · refine V_tableIn (off := 1108) DL_law_p.2.2.2.2.2.2.2.2.2.2.2.2.2.2.2.2.2.2.2.2.2.2.2.2.2.2.2 (by decide +kernel) (by decide +kernel) (by decide +kernel) trivial ?_
      rw [tgp]
      exact kc_16 (hd := by omega) (s := s) (hi := hi) (hrc := hrc) (hrs := hrs) (hm := hm) (hJ := by omega) (g := g) (j := j) (nx := nx)
    · refine V_tableIn (off := 1164) DL_law_p.2.2.2.2.2.2.2.2.2.2.2.2.2.2.2.2.2.2.2.2.2.2.2.2.2.2.2 (by decide +kernel) (by decide +kernel) (by decide +kernel) trivial ?_
      rw [tgp]
      exact kc_17 (hd := by omega) (s := s) (hi := hi) (hrc := hrc) (hrs := hrs) (hm := hm) (hJ := by omega) (g := g) (j := j) (nx := nx)
    · refine V_tableIn (off := 1220) DL_law_p.2.2.2.2.2.2.2.2.2.2.2.2.2.2.2.2.2.2.2.2.2.2.2.2.2.2.2 (by decide +kernel) (by decide +kernel) (by decide +kernel) trivial ?_
      rw [tgp]
      exact kc_18 (hd := by omega) (s := s) (hi := hi) (hrc := hrc) (hrs := hrs) (hm := hm) (hJ := by omega) (g := g) (j := j) (nx := nx)
    · refine V_tableIn (off := 1276) DL_law_p.2.2.2.2.2.2.2.2.2.2.2.2.2.2.2.2.2.2.2.2.2.2.2.2.2.2.2 (by decide +kernel) (by decide +kernel) (by decide +kernel) trivial ?_
      rw [tgp]
      exact kc_19 (hd := by omega) (s := s) (hi := hi) (hrc := hrc) (hrs := hrs) (hm := hm) (hJ := by omega) (g := g) (j := j) (nx := nx)
    · refine V_tableIn (off := 1332) DL_law_p.2.2.2.2.2.2.2.2.2.2.2.2.2.2.2.2.2.2.2.2.2.2.2.2.2.2.2 (by decide +kernel) (by decide +kernel) (by decide +kernel) trivial ?_
      rw [tgp]
      exact kc_20 (hd := by omega) (s := s) (hi := hi) (hrc := hrc) (hrs := hrs) (hm := hm) (hJ := by omega) (g := g) (j := j) (nx := nx)
    · refine V_tableIn (off := 1400) DL_law_p.2.2.2.2.2.2.2.2.2.2.2.2.2.2.2.2.2.2.2.2.2.2.2.2.2.2.2 (by decide +kernel) (by decide +kernel) (by decide +kernel) trivial ?_
      rw [tgp]
      exact kc_21 (hd := by omega) (s := s) (hi := hi) (hrc := hrc) (hrs := hrs) (hm := hm) (hJ := by omega) (g := g) (j := j) (nx := nx)
    · refine V_tableIn (off := 1468) DL_law_p.2.2.2.2.2.2.2.2.2.2.2.2.2.2.2.2.2.2.2.2.2.2.2.2.2.2.2 (by decide +kernel) (by decide +kernel) (by decide +kernel) trivial ?_
      rw [tgp]
      exact kc_22 (hd := by omega) (s := s) (hi := hi) (hrc := hrc) (hrs := hrs) (hm := hm) (hJ := by omega) (g := g) (j := j) (nx := nx)
    · refine V_tableIn (off := 1536) DL_law_p.2.2.2.2.2.2.2.2.2.2.2.2.2.2.2.2.2.2.2.2.2.2.2.2.2.2.2 (by decide +kernel) (by decide +kernel) (by decide +kernel) trivial ?_
      rw [tgp]
      exact kc_23 (hd := by omega) (s := s) (hi := hi) (hrc := hrc) (hrs := hrs) (hm := hm) (hJ := by omega) (g := g) (j := j) (nx := nx)
    · refine V_tableIn (off := 1604) DL_law_p.2.2.2.2.2.2.2.2.2.2.2.2.2.2.2.2.2.2.2.2.2.2.2.2.2.2.2 (by decide +kernel) (by decide +kernel) (by decide +kernel) trivial ?_
      rw [tgp]
      exact kc_24 (hd := by omega) (s := s) (hi := hi) (hrc := hrc) (hrs := hrs) (hm := hm) (hJ := by omega) (g := g) (j := j) (nx := nx)
    · refine V_tableIn (off := 1672) DL_law_p.2.2.2.2.2.2.2.2.2.2.2.2.2.2.2.2.2.2.2.2.2.2.2.2.2.2.2 (by decide +kernel) (by decide +kernel) (by decide +kernel) trivial ?_
      rw [tgp]
      exact kc_25 (hd := by omega) (s := s) (hi := hi) (hrc := hrc) (hrs := hrs) (hm := hm) (hJ := by omega) (g := g) (j := j) (nx := nx)
    · refine V_tableIn (off := 1740) DL_law_p.2.2.2.2.2.2.2.2.2.2.2.2.2.2.2.2.2.2.2.2.2.2.2.2.2.2.2 (by decide +kernel) (by decide +kernel) (by decide +kernel) trivial ?_
      rw [tgp]
      exact kc_26 (hd := by omega) (s := s) (hi := hi) (hrc := hrc) (hrs := hrs) (hm := hm) (hJ := by omega) (g := g) (j := j) (nx := nx)
    · refine V_tableIn (off := 1796) DL_law_p.2.2.2.2.2.2.2.2.2.2.2.2.2.2.2.2.2.2.2.2.2.2.2.2.2.2.2 (by decide +kernel) (by decide +kernel) (by decide +kernel) trivial ?_
      rw [tgp]
      exact kc_27 (hd := by omega) (s := s) (hi := hi) (hrc := hrc) (hrs := hrs) (hm := hm) (hJ := by omega) (g := g) (j := j) (nx := nx)
    · refine V_tableIn (off := 1854) DL_law_p.2.2.2.2.2.2.2.2.2.2.2.2.2.2.2.2.2.2.2.2.2.2.2.2.2.2.2 (by decide +kernel) (by decide +kernel) (by decide +kernel) trivial ?_
      rw [tgp]
      exact kc_28 (hd := by omega) (s := s) (hi := hi) (hrc := hrc) (hrs := hrs) (hm := hm) (hJ := by omega) (g := g) (j := j) (nx := nx)
    · refine V_tableIn (off := 1912) DL_law_p.2.2.2.2.2.2.2.2.2.2.2.2.2.2.2.2.2.2.2.2.2.2.2.2.2.2.2 (by decide +kernel) (by decide +kernel) (by decide +kernel) trivial ?_
      rw [tgp]
      exact kc_29 (hd := by omega) (s := s) (hi := hi) (hrc := hrc) (hrs := hrs) (hm := hm) (hJ := by omega) (g := g) (j := j) (nx := nx)
    · refine V_tableIn (off := 1956) DL_law_p.2.2.2.2.2.2.2.2.2.2.2.2.2.2.2.2.2.2.2.2.2.2.2.2.2.2.2 (by decide +kernel) (by decide +kernel) (by decide +kernel) trivial ?_
      rw [tgp]
      exact kc_30 (hd := by omega) (s := s) (hi := hi) (hrc := hrc) (hrs := hrs) (hm := hm) (hJ := by omega) (g := g) (j := j) (nx := nx)
    · refine V_tableIn (off := 1969) DL_law_p.2.2.2.2.2.2.2.2.2.2.2.2.2.2.2.2.2.2.2.2.2.2.2.2.2.2.2 (by decide +kernel) (by decide +kernel) (by decide +kernel) trivial ?_
      rw [tgp]
      exact kc_31 (hd := by omega) (s := s) (hi := hi) (hrc := hrc) (hrs := hrs) (hm := hm) (hJ := by omega) (g := g) (j := j) (nx := nx)
    · refine V_tableIn (off := 1983) DL_law_p.2.2.2.2.2.2.2.2.2.2.2.2.2.2.2.2.2.2.2.2.2.2.2.2.2.2.2 (by decide +kernel) (by decide +kernel) (by decide +kernel) trivial ?_
      rw [tgp]
      exact kc_32 (hd := by omega) (s := s) (hi := hi) (hrc := hrc) (hrs := hrs) (hm := hm) (hJ := by omega) (g := g) (j := j) (nx := nx)
    · refine V_tableIn (off := 2048) DL_law_p.2.2.2.2.2.2.2.2.2.2.2.2.2.2.2.2.2.2.2.2.2.2.2.2.2.2.2 (by decide +kernel) (by decide +kernel) (by decide +kernel) trivial ?_
      rw [tgp]
      exact kc_33 (hd := by omega) (s := s) (hi := hi) (hrc := hrc) (hrs := hrs) (hm := hm) (hJ := by omega) (g := g) (j := j) (nx := nx)
    · refine V_tableIn (off := 2114) DL_law_p.2.2.2.2.2.2.2.2.2.2.2.2.2.2.2.2.2.2.2.2.2.2.2.2.2.2.2 (by decide +kernel) (by decide +kernel) (by decide +kernel) trivial ?_
      rw [tgp]
      exact kc_34 (hd := by omega) (s := s) (hi := hi) (hrc := hrc) (hrs := hrs) (hm := hm) (hJ := by omega) (g := g) (j := j) (nx := nx)
    · refine V_tableIn (off := 2127) DL_law_p.2.2.2.2.2.2.2.2.2.2.2.2.2.2.2.2.2.2.2.2.2.2.2.2.2.2.2 (by decide +kernel) (by decide +kernel) (by decide +kernel) trivial ?_
      rw [tgp]
      exact kc_35 (hd := by omega) (hj2 := hj2) (s := s) (hi := hi) (hrc := hrc) (hrs := hrs) (hm := hm) (hJ := by omega) (g := g) (j := j) (nx := nx)
    · refine V_tableIn (off := 2183) DL_law_p.2.2.2.2.2.2.2.2.2.2.2.2.2.2.2.2.2.2.2.2.2.2.2.2.2.2.2 (by decide +kernel) (by decide +kernel) (by decide +kernel) trivial ?_
      rw [tgp]
      exact kc_36 (hd := by omega) (hj2 := hj2) (s := s) (hi := hi) (hrc := hrc) (hrs := hrs) (hm := hm) (hJ := by omega) (g := g) (j := j) (nx := nx)
    · refine V_tableIn (off := 2196) DL_law_p.2.2.2.2.2.2.2.2.2.2.2.2.2.2.2.2.2.2.2.2.2.2.2.2.2.2.2 (by decide +kernel) (by decide +kernel) (by decide +kernel) trivial ?_
      rw [tgp]
      exact kc_37 (hd := by omega) (hjw := hjw) (s := s) (hi := hi) (hrc := hrc) (hrs := hrs) (hm := hm) (hJ := by omega) (g := g) (j := j) (nx := nx)
    · refine V_tableIn (off := 2252) DL_law_p.2.2.2.2.2.2.2.2.2.2.2.2.2.2.2.2.2.2.2.2.2.2.2.2.2.2.2 (by decide +kernel) (by decide +kernel) (by decide +kernel) trivial ?_
      rw [tgp]
      exact kc_38 (hd := by omega) (s := s) (hi := hi) (hrc := hrc) (hrs := hrs) (hm := hm) (hJ := by omega) (g := g) (j := j) (nx := nx)
    · refine V_tableIn (off := 2310) DL_law_p.2.2.2.2.2.2.2.2.2.2.2.2.2.2.2.2.2.2.2.2.2.2.2.2.2.2.2 (by decide +kernel) (by decide +kernel) (by decide +kernel) trivial ?_
      rw [tgp]
      exact kc_39 (hd := by omega) (hj := hjw) (w := w) (ws := ws) (hx := hx) (s := s) (hi := hi) (hrc := hrc) (hrs := hrs) (hm := hm) (hJ := by omega) (g := g) (j := j) (nx := nx)
    · refine V_tableIn (off := 2354) DL_law_p.2.2.2.2.2.2.2.2.2.2.2.2.2.2.2.2.2.2.2.2.2.2.2.2.2.2.2 (by decide +kernel) (by decide +kernel) (by decide +kernel) trivial ?_
      rw [tgp]
      exact kc_40 (hd := by omega) (s := s) (hi := hi) (hrc := hrc) (hrs := hrs) (hm := hm) (hJ := by omega) (g := g) (j := j) (nx := nx)
    · refine V_tableIn (off := 2398) DL_law_p.2.2.2.2.2.2.2.2.2.2.2.2.2.2.2.2.2.2.2.2.2.2.2.2.2.2.2 (by decide +kernel) (by decide +kernel) (by decide +kernel) trivial ?_
      rw [tgp]
      exact kc_41 (hd := by omega) (s := s) (hi := hi) (hrc := hrc) (hrs := hrs) (hm := hm) (hJ := by omega) (g := g) (j := j) (nx := nx)
    · refine V_tableIn (off := 2442) DL_law_p.2.2.2.2.2.2.2.2.2.2.2.2.2.2.2.2.2.2.2.2.2.2.2.2.2.2.2 (by decide +kernel) (by decide +kernel) (by decide +kernel) trivial ?_
      rw [tgp]
      exact kc_42 (hd := by omega) (s := s) (hi := hi) (hrc := hrc) (hrs := hrs) (hm := hm) (hJ := by omega) (g := g) (j := j) (nx := nx)
    · refine V_tableIn (off := 2486) DL_law_p.2.2.2.2.2.2.2.2.2.2.2.2.2.2.2.2.2.2.2.2.2.2.2.2.2.2.2 (by decide +kernel) (by decide +kernel) (by decide +kernel) trivial ?_
      rw [tgp]
      exact kc_43 (hd := by omega) (s := s) (hi := hi) (hrc := hrc) (hrs := hrs) (hm := hm) (hJ := by omega) (g := g) (j := j) (nx := nx)
    · refine V_tableIn (off := 2499) DL_law_p.2.2.2.2.2.2.2.2.2.2.2.2.2.2.2.2.2.2.2.2.2.2.2.2.2.2.2 (by decide +kernel) (by decide +kernel) (by decide +kernel) trivial ?_
      rw [tgp]
      exact kc_44 (hd := by omega) (s := s) (hi := hi) (hrc := hrc) (hrs := hrs) (hm := hm) (hJ := by omega) (g := g) (j := j) (nx := nx)
  · refine V_tableOut DL_law_p.2.2.2.2.2.2.2.2.2.2.2.2.2.2.2.2.2.2.2.2.2.2.2.2.2.2.2 (.inr ?_) trivial ?_
    · have e : (nI k).toInt = k := nI_toInt (by omega)
      rw [e]; omega
    · rw [tgp]
      exact nx rc rs h (by omega) (by omega) ⟨x, L, th, g.up (by omega), j⟩
set_option maxRecDepth 20000 in
set_option maxHeartbeats 4000000 in
theorem l_exit {G : GT} {A B n i d rc rs : Nat} {sc : Nat → Int32} {h : Hp} {Q : RT → Hp → Prop} (s : SC G A n sc) (hz : Zr G h) (hin : n < i + 4) (hi4 : i % 4 = 0) (hn : n ≤ 2048) (hi : i ≤ 2048) (hq : ∀ h', Q (.inl (some (.int (nI 1)))) h') : V G mL_law d rc rs 28 [some (.ref A), some (.ref B), some (.ref (B + 230)), some (.ref (B + 239)), some (.ref (B + 240)), some (.int (nI (i))), none, none, none] [] h Q := by
  obtain ⟨s1, s2, s3⟩ := s
  have z := hz A s1
  by_cases h4 : 4 ≤ n
  · have e := sub_nI h4
    refine V_walk [37] 20 ?_
    simp (disch := first | omega | assumption) only [↓wstep, ↓wq_s, ↓wq_0, stp, ↓WR0, ↓WR1, ↓WR2, ↓WR3, ↓WR4, ↓WR5, ↓WR6, ↓WR7, ↓WR8, ↓WR9, ↓WR10, ↓WR11, ↓WR12, WI0, WI1, WI2, WI3, fv_0, fv_1, fv_2, fv_3, lkI_0, lkI_1, kip, kin, tgp, tkp, tgn, tkn, bip, bin, sip, lget, lset1, lset2, lcat2, ↓ws_get, ↓ws_put, ws_cell, ws_cell1, ws_hcell, ws_hcell3, ws_hcell1, ↓cellOf, ↓ws_call, ↓ws_callS, ↓ws_oi, ↓ws_ac, ↓ws_mm, ↓ws_post, ↓ws_exc, popN, rok, clsAt, cnOf, catS_nil, catS_i, catS_r, catS_n, catS_l, catS_d, catS_f, nokc, Option.toList_none, Option.toList_some, List.cons_append, List.nil_append, List.length_cons, List.length_nil, List.set_cons_zero, List.set_cons_succ, List.getElem?_cons_zero, List.getElem?_cons_succ, Nat.reduceAdd, Nat.reduceSub, Nat.reduceMul, Nat.reduceEqDiff, Nat.reduceLeDiff, Nat.reduceLT, Nat.reduceDiv, Bool.false_eq_true, ↓reduceIte, true_and, and_true, false_and, and_false, reduceCtorEq, if_true, Nat.zero_add, cl, lt_nI, le_nI, eq_nI, in_nI, z_nI, retok, or_true, true_or, false_or, or_false, Nat.one_ne_zero, ne_eq, not_false_eq_true, not_true_eq_false, forall_const, Option.isSome_some, false_implies, implies_true, hput_1, hnew_1, vcat1, Nat.le_refl, Nat.not_lt_zero, Nat.lt_irrefl, hput_eq, hput_ne, hput_put, DL_law, DL_law_p, DL_law_0, DL_law_1, DL_law_2, DL_law_3, DL_law_4, DL_law_5, DL_law_6, DL_law_7, DL_law_8, DL_law_9, DL_law_10, DL_law_11, DL_law_12, DL_law_13, DL_law_14, DL_law_15, DL_law_16, DL_law_17, DL_law_18, DL_law_19, DL_law_20, DL_law_21, DL_law_22, DL_law_23, DL_law_24, DL_law_25, DL_law_26, DL_law_27, DL_law_28, DL_law_29, DL_law_30, DL_law_31, DL_law_32, DL_law_33, DL_law_34, DL_law_35, DL_law_36, DL_law_37, DL_law_38, DL_law_39, DL_law_40, DL_law_41, DL_law_42, DL_law_43, DL_law_44, DL_law_45, TL_law, MT_9, SC_9, DX7_init, DX8_init, DL_plant, DX8_plant, DX8_thrown, DL_pick, DX8_pick, DL_addInk, DX8_addInk, DL_sharpen, DX8_sharpen, DL_blunt, DX8_blunt, DL_uproot, DX8_uproot, DL_move, DX8_move, DL_merge, DX8_merge, DL_reorder, DX8_reorder, DL_recall, DX8_recall, DX7_pens, DX8_pens, DX7_exists, DX8_exists, DL_feather, DX8_feather, DL_date, DX8_date, DL_nestOf, DX8_nestOf, DL_indexOf, DX8_indexOf, DL_parentOf, DX8_parentOf, DL_depth, DX8_depth, DL_rankOf, DX8_rankOf, DL_size, DX8_size, DL_penAt, DX8_penAt, DL_penByRank, DX8_penByRank, DL_penBySorting, DX8_penBySorting, DL_countBefore, DX8_countBefore, DL_countBeforeByScan, DX8_countBeforeByScan, DL_looksBefore, DX8_looksBefore, DL_levels, DX8_levels, DL_pensWith, DX8_pensWith, DL_ink, DX8_ink, DL_commonFeather, DX8_commonFeather, DX7_picked, DX8_picked, DX7_exchanges, DX8_exchanges, DL_meanDate, DX8_meanDate, DL_pickedShare, DX8_pickedShare, DX7_isConsistent, DX8_isConsistent, DL_writeNest, DX8_writeNest, DX7_writeInk, DX8_writeInk, DL_charAt, DX8_charAt, DL_type, DX8_type, DL_run, DX8_run, DL_errorPosition, DX8_errorPosition, DL_failedCommand, DX8_failedCommand, DL_undo, DX8_undo, DX7_save, DX8_save, DL_restore, DX8_restore, OI_a, AC_a, NT_a, z, s3, e]
    refine ⟨fun _ => hq h, fun c => by omega⟩
  · have hh : n = 0 ∨ n = 1 ∨ n = 2 ∨ n = 3 := by omega
    have e : nI n - nI 4 < nI i := by
      have ei : (nI i).toInt = i := nI_toInt (by omega)
      rw [Int32.lt_iff_toInt_lt, ei]
      rcases hh with rfl | rfl | rfl | rfl
      · rw [show (nI 0 - nI 4).toInt = -4 by decide]; omega
      · rw [show (nI 1 - nI 4).toInt = -3 by decide]; omega
      · rw [show (nI 2 - nI 4).toInt = -2 by decide]; omega
      · rw [show (nI 3 - nI 4).toInt = -1 by decide]; omega
    refine V_walk [37] 20 ?_
    simp (disch := first | omega | assumption) only [↓wstep, ↓wq_s, ↓wq_0, stp, ↓WR0, ↓WR1, ↓WR2, ↓WR3, ↓WR4, ↓WR5, ↓WR6, ↓WR7, ↓WR8, ↓WR9, ↓WR10, ↓WR11, ↓WR12, WI0, WI1, WI2, WI3, fv_0, fv_1, fv_2, fv_3, lkI_0, lkI_1, kip, kin, tgp, tkp, tgn, tkn, bip, bin, sip, lget, lset1, lset2, lcat2, ↓ws_get, ↓ws_put, ws_cell, ws_cell1, ws_hcell, ws_hcell3, ws_hcell1, ↓cellOf, ↓ws_call, ↓ws_callS, ↓ws_oi, ↓ws_ac, ↓ws_mm, ↓ws_post, ↓ws_exc, popN, rok, clsAt, cnOf, catS_nil, catS_i, catS_r, catS_n, catS_l, catS_d, catS_f, nokc, Option.toList_none, Option.toList_some, List.cons_append, List.nil_append, List.length_cons, List.length_nil, List.set_cons_zero, List.set_cons_succ, List.getElem?_cons_zero, List.getElem?_cons_succ, Nat.reduceAdd, Nat.reduceSub, Nat.reduceMul, Nat.reduceEqDiff, Nat.reduceLeDiff, Nat.reduceLT, Nat.reduceDiv, Bool.false_eq_true, ↓reduceIte, true_and, and_true, false_and, and_false, reduceCtorEq, if_true, Nat.zero_add, cl, lt_nI, le_nI, eq_nI, in_nI, z_nI, retok, or_true, true_or, false_or, or_false, Nat.one_ne_zero, ne_eq, not_false_eq_true, not_true_eq_false, forall_const, Option.isSome_some, false_implies, implies_true, hput_1, hnew_1, vcat1, Nat.le_refl, Nat.not_lt_zero, Nat.lt_irrefl, hput_eq, hput_ne, hput_put, DL_law, DL_law_p, DL_law_0, DL_law_1, DL_law_2, DL_law_3, DL_law_4, DL_law_5, DL_law_6, DL_law_7, DL_law_8, DL_law_9, DL_law_10, DL_law_11, DL_law_12, DL_law_13, DL_law_14, DL_law_15, DL_law_16, DL_law_17, DL_law_18, DL_law_19, DL_law_20, DL_law_21, DL_law_22, DL_law_23, DL_law_24, DL_law_25, DL_law_26, DL_law_27, DL_law_28, DL_law_29, DL_law_30, DL_law_31, DL_law_32, DL_law_33, DL_law_34, DL_law_35, DL_law_36, DL_law_37, DL_law_38, DL_law_39, DL_law_40, DL_law_41, DL_law_42, DL_law_43, DL_law_44, DL_law_45, TL_law, MT_9, SC_9, DX7_init, DX8_init, DL_plant, DX8_plant, DX8_thrown, DL_pick, DX8_pick, DL_addInk, DX8_addInk, DL_sharpen, DX8_sharpen, DL_blunt, DX8_blunt, DL_uproot, DX8_uproot, DL_move, DX8_move, DL_merge, DX8_merge, DL_reorder, DX8_reorder, DL_recall, DX8_recall, DX7_pens, DX8_pens, DX7_exists, DX8_exists, DL_feather, DX8_feather, DL_date, DX8_date, DL_nestOf, DX8_nestOf, DL_indexOf, DX8_indexOf, DL_parentOf, DX8_parentOf, DL_depth, DX8_depth, DL_rankOf, DX8_rankOf, DL_size, DX8_size, DL_penAt, DX8_penAt, DL_penByRank, DX8_penByRank, DL_penBySorting, DX8_penBySorting, DL_countBefore, DX8_countBefore, DL_countBeforeByScan, DX8_countBeforeByScan, DL_looksBefore, DX8_looksBefore, DL_levels, DX8_levels, DL_pensWith, DX8_pensWith, DL_ink, DX8_ink, DL_commonFeather, DX8_commonFeather, DX7_picked, DX8_picked, DX7_exchanges, DX8_exchanges, DL_meanDate, DX8_meanDate, DL_pickedShare, DX8_pickedShare, DX7_isConsistent, DX8_isConsistent, DL_writeNest, DX8_writeNest, DX7_writeInk, DX8_writeInk, DL_charAt, DX8_charAt, DL_type, DX8_type, DL_run, DX8_run, DL_errorPosition, DX8_errorPosition, DL_failedCommand, DX8_failedCommand, DL_undo, DX8_undo, DX7_save, DX8_save, DL_restore, DX8_restore, OI_a, AC_a, NT_a, z, s3, e]
    exact hq h
set_option maxRecDepth 20000 in
set_option maxHeartbeats 4000000 in
theorem l_law {G : GT} {K : KT9} {A B n d : Nat} {sc : Nat → Int32} {Q : RT → Hp → Prop} (hd : 13 ≤ d) (hjw : JW G) (hj2 : JW2 G) (w : KW G K kL kF) (ws : KSW G K) (hx : MTX G) (hm : MsgW G) (s : SC G A n sc) (hn : n ≤ 2048) (hq : ∀ h', Q (.inl (some (.int (nI 1)))) h') : ∀ (r i J rc rs : Nat) (h : Hp) (x : XS) (L : Tx) (th : Int32), n < i + 4 * r + 4 → i % 4 = 0 → i ≤ 2048 → 5 * r ≤ rc → 540 * r ≤ rs → J + 9 * r < 8000 → GX J x → JJ G K h B x x L th → V G mL_law d rc rs 28 [some (.ref A), some (.ref B), some (.ref (B + 230)), some (.ref (B + 239)), some (.ref (B + 240)), some (.int (nI (i))), none, none, none] [] h Q := by
  intro r
  induction r with
  | zero =>
    intro i J rc rs h x L th h1 h4 h5 h2 h3 hJ g j
    exact l_exit s j.2.2.2.2.2.2.2.2.1 (by omega) h4 hn h5 hq
  | succ r ih =>
    intro i J rc rs h x L th h1 h4 h5 h2 h3 hJ g j
    by_cases hi : i + 3 < n
    · obtain ⟨s1, s2, s3⟩ := id s
      have z := j.2.2.2.2.2.2.2.2.1 A s1
      have e := sub_nI (show 4 ≤ n by omega)
      obtain ⟨k, hk, ek⟩ := pk_andE (sc i) (m := nI 63) 6 (by decide)
      refine V_walk [44] 20 ?_
      simp (disch := first | omega | assumption) only [↓wstep, ↓wq_s, ↓wq_0, stp, ↓WR0, ↓WR1, ↓WR2, ↓WR3, ↓WR4, ↓WR5, ↓WR6, ↓WR7, ↓WR8, ↓WR9, ↓WR10, ↓WR11, ↓WR12, WI0, WI1, WI2, WI3, fv_0, fv_1, fv_2, fv_3, lkI_0, lkI_1, kip, kin, tgp, tkp, tgn, tkn, bip, bin, sip, lget, lset1, lset2, lcat2, ↓ws_get, ↓ws_put, ws_cell, ws_cell1, ws_hcell, ws_hcell3, ws_hcell1, ↓cellOf, ↓ws_call, ↓ws_callS, ↓ws_oi, ↓ws_ac, ↓ws_mm, ↓ws_post, ↓ws_exc, popN, rok, clsAt, cnOf, catS_nil, catS_i, catS_r, catS_n, catS_l, catS_d, catS_f, nokc, Option.toList_none, Option.toList_some, List.cons_append, List.nil_append, List.length_cons, List.length_nil, List.set_cons_zero, List.set_cons_succ, List.getElem?_cons_zero, List.getElem?_cons_succ, Nat.reduceAdd, Nat.reduceSub, Nat.reduceMul, Nat.reduceEqDiff, Nat.reduceLeDiff, Nat.reduceLT, Nat.reduceDiv, Bool.false_eq_true, ↓reduceIte, true_and, and_true, false_and, and_false, reduceCtorEq, if_true, Nat.zero_add, cl, lt_nI, le_nI, eq_nI, in_nI, z_nI, retok, or_true, true_or, false_or, or_false, Nat.one_ne_zero, ne_eq, not_false_eq_true, not_true_eq_false, forall_const, Option.isSome_some, false_implies, implies_true, hput_1, hnew_1, vcat1, Nat.le_refl, Nat.not_lt_zero, Nat.lt_irrefl, hput_eq, hput_ne, hput_put, DL_law, DL_law_p, DL_law_0, DL_law_1, DL_law_2, DL_law_3, DL_law_4, DL_law_5, DL_law_6, DL_law_7, DL_law_8, DL_law_9, DL_law_10, DL_law_11, DL_law_12, DL_law_13, DL_law_14, DL_law_15, DL_law_16, DL_law_17, DL_law_18, DL_law_19, DL_law_20, DL_law_21, DL_law_22, DL_law_23, DL_law_24, DL_law_25, DL_law_26, DL_law_27, DL_law_28, DL_law_29, DL_law_30, DL_law_31, DL_law_32, DL_law_33, DL_law_34, DL_law_35, DL_law_36, DL_law_37, DL_law_38, DL_law_39, DL_law_40, DL_law_41, DL_law_42, DL_law_43, DL_law_44, DL_law_45, TL_law, MT_9, SC_9, DX7_init, DX8_init, DL_plant, DX8_plant, DX8_thrown, DL_pick, DX8_pick, DL_addInk, DX8_addInk, DL_sharpen, DX8_sharpen, DL_blunt, DX8_blunt, DL_uproot, DX8_uproot, DL_move, DX8_move, DL_merge, DX8_merge, DL_reorder, DX8_reorder, DL_recall, DX8_recall, DX7_pens, DX8_pens, DX7_exists, DX8_exists, DL_feather, DX8_feather, DL_date, DX8_date, DL_nestOf, DX8_nestOf, DL_indexOf, DX8_indexOf, DL_parentOf, DX8_parentOf, DL_depth, DX8_depth, DL_rankOf, DX8_rankOf, DL_size, DX8_size, DL_penAt, DX8_penAt, DL_penByRank, DX8_penByRank, DL_penBySorting, DX8_penBySorting, DL_countBefore, DX8_countBefore, DL_countBeforeByScan, DX8_countBeforeByScan, DL_looksBefore, DX8_looksBefore, DL_levels, DX8_levels, DL_pensWith, DX8_pensWith, DL_ink, DX8_ink, DL_commonFeather, DX8_commonFeather, DX7_picked, DX8_picked, DX7_exchanges, DX8_exchanges, DL_meanDate, DX8_meanDate, DL_pickedShare, DX8_pickedShare, DX7_isConsistent, DX8_isConsistent, DL_writeNest, DX8_writeNest, DX7_writeInk, DX8_writeInk, DL_charAt, DX8_charAt, DL_type, DX8_type, DL_run, DX8_run, DL_errorPosition, DX8_errorPosition, DL_failedCommand, DX8_failedCommand, DL_undo, DX8_undo, DX7_save, DX8_save, DL_restore, DX8_restore, OI_a, AC_a, NT_a, z, s3, e, ek]
      refine ⟨fun c => by omega, fun _ => ?_⟩
      refine k_sw hd hjw hj2 w ws hx s hi (by omega) (by omega) hm (by omega) g j (fun rc' rs' h' k1 k2 ⟨x', L', th', g', j'⟩ => ?_) hk
      refine V_walk [28] 5 ?_
      simp (disch := first | omega | assumption) only [↓wstep, ↓wq_s, ↓wq_0, stp, ↓WR0, ↓WR1, ↓WR2, ↓WR3, ↓WR4, ↓WR5, ↓WR6, ↓WR7, ↓WR8, ↓WR9, ↓WR10, ↓WR11, ↓WR12, WI0, WI1, WI2, WI3, fv_0, fv_1, fv_2, fv_3, lkI_0, lkI_1, kip, kin, tgp, tkp, tgn, tkn, bip, bin, sip, lget, lset1, lset2, lcat2, ↓ws_get, ↓ws_put, ws_cell, ws_cell1, ws_hcell, ws_hcell3, ws_hcell1, ↓cellOf, ↓ws_call, ↓ws_callS, ↓ws_oi, ↓ws_ac, ↓ws_mm, ↓ws_post, ↓ws_exc, popN, rok, clsAt, cnOf, catS_nil, catS_i, catS_r, catS_n, catS_l, catS_d, catS_f, nokc, Option.toList_none, Option.toList_some, List.cons_append, List.nil_append, List.length_cons, List.length_nil, List.set_cons_zero, List.set_cons_succ, List.getElem?_cons_zero, List.getElem?_cons_succ, Nat.reduceAdd, Nat.reduceSub, Nat.reduceMul, Nat.reduceEqDiff, Nat.reduceLeDiff, Nat.reduceLT, Nat.reduceDiv, Bool.false_eq_true, ↓reduceIte, true_and, and_true, false_and, and_false, reduceCtorEq, if_true, Nat.zero_add, cl, lt_nI, le_nI, eq_nI, in_nI, z_nI, retok, or_true, true_or, false_or, or_false, Nat.one_ne_zero, ne_eq, not_false_eq_true, not_true_eq_false, forall_const, Option.isSome_some, false_implies, implies_true, hput_1, hnew_1, vcat1, Nat.le_refl, Nat.not_lt_zero, Nat.lt_irrefl, hput_eq, hput_ne, hput_put, DL_law, DL_law_p, DL_law_0, DL_law_1, DL_law_2, DL_law_3, DL_law_4, DL_law_5, DL_law_6, DL_law_7, DL_law_8, DL_law_9, DL_law_10, DL_law_11, DL_law_12, DL_law_13, DL_law_14, DL_law_15, DL_law_16, DL_law_17, DL_law_18, DL_law_19, DL_law_20, DL_law_21, DL_law_22, DL_law_23, DL_law_24, DL_law_25, DL_law_26, DL_law_27, DL_law_28, DL_law_29, DL_law_30, DL_law_31, DL_law_32, DL_law_33, DL_law_34, DL_law_35, DL_law_36, DL_law_37, DL_law_38, DL_law_39, DL_law_40, DL_law_41, DL_law_42, DL_law_43, DL_law_44, DL_law_45, TL_law, MT_9, SC_9, DX7_init, DX8_init, DL_plant, DX8_plant, DX8_thrown, DL_pick, DX8_pick, DL_addInk, DX8_addInk, DL_sharpen, DX8_sharpen, DL_blunt, DX8_blunt, DL_uproot, DX8_uproot, DL_move, DX8_move, DL_merge, DX8_merge, DL_reorder, DX8_reorder, DL_recall, DX8_recall, DX7_pens, DX8_pens, DX7_exists, DX8_exists, DL_feather, DX8_feather, DL_date, DX8_date, DL_nestOf, DX8_nestOf, DL_indexOf, DX8_indexOf, DL_parentOf, DX8_parentOf, DL_depth, DX8_depth, DL_rankOf, DX8_rankOf, DL_size, DX8_size, DL_penAt, DX8_penAt, DL_penByRank, DX8_penByRank, DL_penBySorting, DX8_penBySorting, DL_countBefore, DX8_countBefore, DL_countBeforeByScan, DX8_countBeforeByScan, DL_looksBefore, DX8_looksBefore, DL_levels, DX8_levels, DL_pensWith, DX8_pensWith, DL_ink, DX8_ink, DL_commonFeather, DX8_commonFeather, DX7_picked, DX8_picked, DX7_exchanges, DX8_exchanges, DL_meanDate, DX8_meanDate, DL_pickedShare, DX8_pickedShare, DX7_isConsistent, DX8_isConsistent, DL_writeNest, DX8_writeNest, DX7_writeInk, DX8_writeInk, DL_charAt, DX8_charAt, DL_type, DX8_type, DL_run, DX8_run, DL_errorPosition, DX8_errorPosition, DL_failedCommand, DX8_failedCommand, DL_undo, DX8_undo, DX7_save, DX8_save, DL_restore, DX8_restore, OI_a, AC_a, NT_a, nI_add]
      exact ih (i + 4) (J + 9) rc' rs' h' x' L' th' (by omega) (by omega) (by omega) (by omega) (by omega) (by omega) g' j'
    · exact l_exit s j.2.2.2.2.2.2.2.2.1 (by omega) h4 hn h5 hq
