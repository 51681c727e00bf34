/-! ===== the class and the model, side by side ===== -/
/-- a good state of the class, after j commands at most -/
def GX (j : Nat) (x : XS) : Prop := (∃ p, GS p j x.1) ∧ (∃ p, GS p j x.2.1) ∧ x.2.2.1.1 < 9 ∧ x.2.2.1.2.1 ≤ 8 ∧ (∀ i, i < 9 → ∃ p, GS p j (x.2.2.1.2.2 i)) ∧ x.2.2.2.1.2.1 ≤ 60 ∧ (∀ i, (x.2.2.2.1.2.2.2.2 i).1 < 10) ∧ ClP x.2.2.2.2.1.2.2
theorem GX.up {j j' : Nat} {x : XS} (g : GX j x) (h : j ≤ j') : GX j' x := by
  obtain ⟨⟨p, g1⟩, ⟨p2, g2⟩, g3, g4, g5, g6⟩ := g
  exact ⟨⟨p, g1.up h⟩, ⟨p2, g2.up h⟩, g3, g4, fun i hi => by obtain ⟨p, q⟩ := g5 i hi; exact ⟨p, q.up h⟩, g6⟩
theorem GX.ok {j : Nat} {x : XS} (hj : j < 1000000) (g : GX j x) : OkX x := by
  obtain ⟨⟨p, g1⟩, ⟨p2, g2⟩, g3, g4, g5, g6⟩ := g
  exact ⟨g3, g4, gs_cl g1, fun i hi => by obtain ⟨p, q⟩ := g5 i hi; exact gs_cl q, g1.2.2.1, gs_fea hj g1⟩
theorem GX.hH {j : Nat} {x : XS} (g : GX j x) (i : Nat) (hi : i < 9) : tot (x.2.2.1.2.2 i) ≤ 24 := by
  obtain ⟨p, q⟩ := g.2.2.2.2.1 i hi; exact q.2.2.1
theorem gx_0 (j : Nat) : GX j xs0 := ⟨⟨0, gs_0 j⟩, ⟨0, gs_0 j⟩, by decide, by decide, fun i hi => ⟨0, gs_0 j⟩, by decide, fun i => (by decide : (0 : Nat) < 10), fun k hk => rfl⟩
theorem keepC_le {o c : Nat} (ho : o < 9) (hc : c ≤ 8) : (keepC o c).1 < 9 ∧ (keepC o c).2 ≤ 8 := by
  unfold keepC
  dsimp only
  constructor <;> split <;> omega
/-- a change keeps all good -/
theorem gx_chg {j : Nat} {x : XS} {r : Int32 × St} (g : GX j x) (hr : ∃ p, GS p (j + 1) r.2) : GX (j + 1) (chg x r) := by
  have g' := g.up (Nat.le_succ j)
  obtain ⟨g1, g2, g3, g4, g5, g6, g7, g8⟩ := g'
  have f5 : ∀ i, i < 9 → ∃ p, GS p (j + 1) (fu x.2.2.1.2.2 ((x.2.2.1.1 + x.2.2.1.2.1) % 9) x.1 i) := fun i hi => by
    by_cases e : i = (x.2.2.1.1 + x.2.2.1.2.1) % 9
    · rw [← e, fu_eq]; exact g1
    · rw [fu_ne e]; exact g5 i hi
  have k := keepC_le g3 g4
  unfold chg
  split
  · exact ⟨hr, g2, g3, g4, f5, g6, g7, g8⟩
  · exact ⟨hr, g2, k.1, k.2, f5, g6, g7, g8⟩
def OutD (h : Hp) (D : Nat) : Prop := ∃ f, h.2 D = some (.inl (3, 1, .inr (.inr (.inr (.inl f)))))
/-- all that the law holds: the class at x, the model at y, the line L -/
def JJ (G : GT) (K : KT9) (h : Hp) (B : Nat) (x y : XS) (L : Tx) (th : Int32) : Prop := AtX K h B x ∧ AtM h (B + 230) th L.1 (fun k => nI (L.2 k)) y ∧ Ln h (B + 228) L ∧ TxOk L ∧ L.1 ≤ 260 ∧ OutL h (B + 239) ∧ OutD h (B + 240) ∧ B + 241 ≤ h.1 ∧ Zr G h ∧ b0 G ≤ B
theorem AtM.of {h h' : Hp} {M n : Nat} {th : Int32} {tx : Nat → Int32} {x : XS} (m : AtM h M th n tx x) (e : ∀ q, M ≤ q → q < M + 9 → h'.2 q = h.2 q) : AtM h' M th n tx x := by
  obtain ⟨o, s, b, sv, as, pa, li, inp, cm, ⟨r0, r1, r2, r3, r4, r5, r6, r7, r8⟩, rm⟩ := m
  exact ⟨o, s, b, sv, as, pa, li, inp, cm, ⟨(e _ (by omega) (by omega)).trans r0, (e _ (by omega) (by omega)).trans r1, (e _ (by omega) (by omega)).trans r2, (e _ (by omega) (by omega)).trans r3, (e _ (by omega) (by omega)).trans r4, (e _ (by omega) (by omega)).trans r5, (e _ (by omega) (by omega)).trans r6, (e _ (by omega) (by omega)).trans r7, (e _ (by omega) (by omega)).trans r8⟩, rm⟩
theorem Ln.of {h h' : Hp} {s : Nat} {L : Tx} (a : Ln h s L) (hs : h.1 ≤ h'.1) (e : ∀ q, (q = s ∨ q = s + 1 ∨ s + 13 ≤ q) → q < h.1 → h'.2 q = h.2 q) : Ln h' s L := by
  obtain ⟨l, v, ml, g, ⟨b1, b2⟩, c1, c2, c3, c4, c5, c6, c7⟩ := a
  exact ⟨l, v, ml, g, ⟨(e _ (.inl rfl) (by omega)).trans b1, (e _ (by omega) (by omega)).trans b2⟩, c1, by omega, by omega, c4, c5, c6, c7⟩
/-- after a wrapper that keeps the line -/
theorem JJ.cl {G : GT} {K : KT9} {h h' : Hp} {B : Nat} {x x' y : XS} {L : Tx} {th : Int32} (j : JJ G K h B x y L th) (F : Fo h h' B (B + 239)) (a : AtX K h' B x') (o : OutL h' (B + 239)) : JJ G K h' B x' y L th := by
  obtain ⟨j1, j2, j3, j4, j5, j6, ⟨f, j7⟩, j8, j9, j10⟩ := j
  refine ⟨a, j2.of (fun q h1 h2 => F.2 q (by omega) (by omega)), j3.of F.1 (fun q h1 h2 => F.2 q (by omega) (by omega)), j4, j5, o, ⟨f, (F.2 _ (by omega) (by omega)).trans j7⟩, by have := F.1; omega, fun q hq => (F.2 q (by omega) (by omega)).trans (j9 q hq), j10⟩
/-- after the model's method that keeps the line -/
theorem JJ.mo {G : GT} {K : KT9} {h h' : Hp} {B : Nat} {x y y' : XS} {L : Tx} {th th' : Int32} (j : JJ G K h B x y L th) (F : Fm h h' (B + 230) (B + 239)) (m : AtM h' (B + 230) th' L.1 (fun k => nI (L.2 k)) y') : JJ G K h' B x y' L th' := by
  obtain ⟨j1, j2, j3, j4, j5, ⟨f0, j6⟩, ⟨f, j7⟩, j8, j9, j10⟩ := j
  exact ⟨j1.o (fun q h1 h2 => F.2 q (by omega)), m, j3.of (Nat.le_of_eq F.1.symm) (fun q h1 h2 => F.2 q (by omega)), j4, j5, ⟨f0, (F.2 _ (by omega)).trans j6⟩, ⟨f, (F.2 _ (by omega)).trans j7⟩, by have := F.1; omega, fun q hq => (F.2 q (by omega)).trans (j9 q hq), j10⟩
theorem OutV.mo {h h' : Hp} {B : Nat} {v : Int32} (o : OutV h (B + 239) v) (F : Fm h h' (B + 230) (B + 239)) : OutV h' (B + 239) v := by
  obtain ⟨f, o1, o2⟩ := o
  exact ⟨f, (F.2 _ (by omega)).trans o1, o2⟩
theorem V_lv {G : GT} {y : MD} {d rc rs pc : Nat} {lv lv' : LL} {st : List Value} {h : Hp} {Q : RT → Hp → Prop} (hs : ∀ q, q ∈ asc 0 lv' → q ∈ asc 0 lv) (k : V G y d rc rs pc lv' st h Q) : V G y d rc rs pc lv st h Q := by
  intro p e R s m args below meth c H locs cells slots mc ms ls QQ hF hR hc' hs' hE hl hr hS
  exact k p e R s m args below meth c H locs cells slots mc ms ls QQ hF hR hc' hs' hE ⟨hl.1, hl.2.1, fun q hq => hl.2.2 q (hs q hq)⟩ hr hS
