/-! ===== the law's wrapper of run ===== -/
def RR (x : XS) (k v : Int32) (x' : XS) : Prop := ((rnP x).1 = none ∧ k = nI 1 ∧ x' = rnE x (rnP x).2 (nI (rnP x).2.1)) ∨ (∃ m e, (rnP x).1 = some m ∧ (pAll (rnP x).2.2.2 m 0 x.1).1 = some e ∧ k = nI 2 ∧ x' = runS (rnP x).2.2.2 m (rnF x (rnP x).2 (nI e))) ∨ ∃ m, (rnP x).1 = some m ∧ (pAll (rnP x).2.2.2 m 0 x.1).1 = none ∧ k = nI 0 ∧ v = nI m ∧ x' = runS (rnP x).2.2.2 m (rnX x (rnP x).2)
theorem cw_run {G : GT} {K : KT9} {h : Hp} {B O d J : Nat} {x : XS} {Q : RT → Hp → Prop} (hd : 11 ≤ d) (hm : MsgW G) (hj : JW G) (w : KW G K kL kF) (ws : KSW G K) (hB : b0 G ≤ B) (hz : Zr G h) (hJ : J < 9000) (g : GX J x) (a : AtX K h B x) (ho : OutL h O) (hO : B + 228 ≤ O ∧ O < h.1) (hq : ∀ h' k v x', Fo h h' B O → AtX K h' B x' → OutL h' O → RR x k v x' → (k = nI 0 → OutV h' O v) → Q (.inl (some (.int k))) h') : Ct G mL_run d 1 6 [.ref B, .ref O] h Q := by
  obtain ⟨f, ef⟩ := ho
  refine w_run (by omega) a (c_x_run9 (n := kL) (f := kF) (Gd := fun i S => ∃ p, GS p (J + i) S) (by omega) hm hj w ws hB (gd_c hJ) (gd_1 hJ) hz a g.1 (g.ok (by omega)) g.2.2.2.2.2.1 g.2.2.2.2.2.2.1 (fun e h1 f1 a1 => ?_) (fun m e h1 f1 k e2 a1 => ?_) (fun m e h1 f1 e2 a1 => ?_))
  · have e1 := (f1.2 O (by omega)).trans ef
    exact ⟨f, e1, .inl ⟨rfl, hq h1 (nI 1) (nI 0) _ ⟨f1.1, fun q _ hq => f1.2 q (by omega)⟩ a1 ⟨f, e1⟩ (.inl ⟨e, rfl, rfl⟩) (fun q => absurd q (by decide))⟩⟩
  · have e1 := (f1.2 O (by omega)).trans ef
    exact ⟨f, e1, .inr (.inl ⟨rfl, hq h1 (nI 2) (nI 0) _ ⟨f1.1, fun q _ hq => f1.2 q (by omega)⟩ a1 ⟨f, e1⟩ (.inr (.inl ⟨m, k, e, e2, rfl, rfl⟩)) (fun q => absurd q (by decide))⟩)⟩
  · have e1 := (f1.2 O (by omega)).trans ef
    have P := out_put (h := h) (h1 := h1) hO ⟨f1.1, fun q _ hq => f1.2 q (by omega)⟩ a1 (f := f) (v := nI m)
    exact ⟨f, e1, .inr (.inr ⟨_, rfl, hq _ (nI 0) _ _ P.1 P.2.1 P.2.2.1 (.inr (.inr ⟨m, e, e2, rfl, rfl, rfl⟩)) (fun _ => P.2.2.2)⟩)⟩
