/-! ===== rows of V that call and catch ===== -/
section VCALLS
variable {G : GT} {y : MD} {d rc rs pc : Nat} {lv : LL} {st : List Value} {h : Hp} {Q : RT → Hp → Prop}
theorem run_go {p : Program} {e : Env} {R : Room} {s : State} {m : MethodId} {args : Array Value} {below : List Frame} {meth : Method} {c : Code} {H : Heap} {locs : List Loc} {cells slots mc ms : Nat} {ls : Array Slot} {QQ : State → Prop}
    (hF : Fr G y p s m args meth c) (hR : d ≤ R.frames ∧ 45 * d ≤ R.locals ∧ mc ≤ R.cells ∧ ms ≤ R.slots) (hc : cells + rc ≤ mc) (hs : slots + rs ≤ ms) (hE : EX G y Q p e R s m args below meth c mc ms QQ) (hl : lv_has ls y.2.2.1 (asc 0 lv)) (hS : va_S (Fz G) s.heap H locs)
    {mc' ms' : Nat} {st0 rest : List Value} {a : Array Value} {Q1 : RT → Hp → Prop} (hm : mc' ≤ rc) (hms : ms' ≤ rs) (hrun : vx_Run p G.1 e R s m args below meth c H locs cells slots mc' ms' (F0 m pc ls st0) rest (QcG G Q1 a) (XcG G Q1) (Fz G))
    (kk : ∀ r h', Q1 (.inl r) h' → V G y d (rc - mc') (rs - ms') (pc + 3) lv (r.toList ++ rest) h' Q) (kx : ∀ E h', Q1 (.inr E) h' → VX G y d (rc - mc') (rs - ms') pc lv E h' Q) : W p G.1 e R s m args below meth c H locs cells slots QQ (F0 m pc ls st0) := by
  intro T hT X
  rcases hrun T hT X with ⟨v, st₀, t, T', L, h0, X', hL, e1, e2, ⟨r, h', hv, hq, hh, hFF⟩, sg⟩ | ⟨q, st₀, t, T', L, E, ce, h0, X', hL, e1, e2, ⟨h', hq, hh, hFF⟩, hce, hcv, hcl, sg⟩
  · cases hv
    obtain ⟨k1, k2, k3⟩ := vx_keep h0 e1 hS (fun _ _ h => h) (fun _ h => h) hL hFF
    obtain ⟨t2, a1, b1⟩ := kk v h' hq p e R s m args below meth c T'.heap (locs ++ L) (cells + mc') (slots + ms') mc ms ls QQ hF hR (by omega) (by omega) hE hl (by rw [e1]; exact hh) k3 T' rfl X'
    exact ⟨t2, sg t2 a1, b1⟩
  · obtain ⟨k1, k2, k3⟩ := vx_keep h0 e1 hS (fun _ _ h => h) (fun _ h => h) hL hFF
    obtain ⟨t2, a1, b1⟩ := kx E h' hq p e R s m args below meth c T'.heap (locs ++ L) (cells + mc') (slots + ms') mc ms ls QQ q ce rest hF hR (by omega) (by omega) hE hl (by rw [e1]; exact hh) k3 (by rw [e1]; exact hce) hcv hcl T' rfl X'
    exact ⟨t2, sg.trans a1, b1⟩
theorem WS_warm {y' : MD} {s : State} {args : Array Value} (hts : ∀ w ∈ GW, w.before args s = true) (hcw : codeW y' ∈ GW) : ∀ w ∈ WS y', ∀ (a' : Array Value) (U : State), s.WarmedH U.vm → w.before a' U = true := by
  intro w hw a' U hW
  rcases List.mem_cons.mp hw with rfl | hw
  · exact gw_at hts hW hcw
  · exact gw_at hts hW hw
theorem desc_n {ds : String} {n : Nat} (h : (parseMethodDescriptor ds).map (fun q => q.parameters.length) = some n) : ∀ sig, parseMethodDescriptor ds = some sig → n = sig.parameters.length := by
  intro sig hs
  rw [hs] at h
  exact (Option.some.inj h).symm
theorem V_call {idx kind n b d' mc' ms' : Nat} {y' : MD} {As : List Value} {Q1 : RT → Hp → Prop} (hk : kind = 0 ∨ kind = 2 ∨ kind = 4 ∨ kind = 6 ∨ kind = 7 ∨ kind = 8) (hd : decode y.2.1 pc = .ok (if kind = 2 ∨ kind = 4 ∨ kind = 7 then .invokespecial idx else .invokevirtual idx, 3)) (hm : mok y.2.2.2.2.2 idx kind n y') (hn : As.length = n) {C : String} (hrc : rcv G h b C) (hC9 : (kind = 0 → C = y'.1.cls) ∧ (6 ≤ kind → C = RJ4)) (hrest : catS st ≤ 8) (hd' : d' < d) (hmc : mc' ≤ rc) (hms : ms' ≤ rs)
    (hC : Ct G y' d' mc' ms' (.ref b :: As) h Q1) (kk : ∀ r h', Q1 (.inl r) h' → V G y d (rc - mc') (rs - ms') (pc + 3) lv (r.toList ++ st) h' Q) (kx : ∀ E h', Q1 (.inr E) h' → VX G y d (rc - mc') (rs - ms') pc lv E h' Q) : V G y d rc rs pc lv (As.reverse ++ .ref b :: st) h Q := by
  intro p e R s m args below meth c H locs cells slots mc ms ls QQ hF hR hc' hs hE hl hr hS
  have hts := hF.2.2.2.2.2.1
  have hfv := hF.2.2.2.2.2.2.2.1
  obtain ⟨hne, hnn, hini, hcw, hmx, hmm⟩ := hm
  have hfr : (rmD d' mc' ms').frames + 1 ≤ R.frames := by show d' + 1 ≤ _; omega
  have hlo : 8 + (y'.2.2.1 + 11) + (rmD d' mc' ms').locals ≤ R.locals := by show 8 + (y'.2.2.1 + 11) + 45 * d' ≤ _; omega
  have hPc : ∀ U : State, U.heap = H → s.WarmedH U.vm → PcG G h (.ref b :: As) (Value.ref b :: As).toArray U := fun U hU hW => ⟨rfl, FV.warm hW hfv, by rw [hU]; exact hr⟩
  have hfit : CallFix p m c y.2.1 y.2.2.1 s args GW (RN y.2.2.2.2.2) := ⟨hF.1, hF.2.1, hF.2.2.2.1, hF.2.2.2.2.1, hts⟩
  have hcell := rcv_cell hrc hfv hr
  refine run_go hF hR hc' hs hE hl hS hmc hms (a := (Value.ref b :: As).toArray) ?_ kk kx
  rcases hk with rfl | rfl | rfl | rfl | rfl | rfl
  · obtain ⟨m1, m2, m3, m4⟩ := hmm
    obtain rfl := hC9.1 rfl
    have hcode : codeW y' = Cond.code y'.1 y'.2.1 y'.2.2.1 y'.2.2.2.1 := by unfold codeW; rw [m4]
    have hcw' : Cond.code y'.1 y'.2.1 y'.2.2.1 y'.2.2.2.1 ∈ GW := by rw [← hcode]; exact hcw
    exact vx_runV (C := y'.1.cls) (index := idx) (bytes := y'.2.1) (maxL := y'.2.2.1) (ret := y'.2.2.2.1) (n := n) hfit hC ⟨⟨rfl, rfl, hfr, hlo, WS_warm hts hcw, by unfold WS; rw [hcode]; exact List.mem_cons_self, hts _ hcw', hts _ hini, hne, desc_n hnn, hts _ m1⟩, hts _ m2, hts _ m3⟩ ⟨PcG_blind, hcell, hPc⟩ rfl hn hl.1 rfl (lv_room hrest) hd ⟨by omega, by omega⟩
  · obtain ⟨m1, m2, m3, m5, m4⟩ := hmm
    have hcode : codeW y' = Cond.code y'.1 y'.2.1 y'.2.2.1 none := by unfold codeW; rw [m4, m5]
    have hcw' : Cond.code y'.1 y'.2.1 y'.2.2.1 none ∈ GW := by rw [← hcode]; exact hcw
    exact vx_runI (index := idx) (bytes := y'.2.1) (maxL := y'.2.2.1) (n := n) hfit hC ⟨⟨rfl, rfl, hfr, hlo, WS_warm hts hcw, by unfold WS; rw [hcode]; exact List.mem_cons_self, hts _ hcw', hts _ hini, hne, desc_n hnn, hts _ m1⟩, m3, hts _ m2⟩ ⟨PcG_blind, hPc⟩ rfl hn hl.1 rfl (lv_room hrest) hd ⟨by omega, by omega⟩
  · obtain ⟨⟨host, m1⟩, m2, m3, m5, m4⟩ := hmm
    have hcode : codeW y' = Cond.code y'.1 y'.2.1 y'.2.2.1 none := by unfold codeW; rw [m4, m5]
    have hcw' : Cond.code y'.1 y'.2.1 y'.2.2.1 none ∈ GW := by rw [← hcode]; exact hcw
    exact vx_runIN (host := host) (index := idx) (bytes := y'.2.1) (maxL := y'.2.2.1) (n := n) hfit hC ⟨⟨⟨rfl, rfl, hfr, hlo, WS_warm hts hcw, by unfold WS; rw [hcode]; exact List.mem_cons_self⟩, hts _ hcw', hts _ hini, hne, desc_n hnn, va_Nw.use rfl (hfv.2.1 _ m1)⟩, m3, hts _ m2⟩ ⟨PcG_blind, hPc⟩ rfl hn hl.1 rfl (lv_room hrest) hd ⟨by omega, by omega⟩
  · obtain ⟨m1, m2, m3, m5, m4⟩ := hmm
    obtain rfl := hC9.2 (by decide)
    have hcode : codeW y' = Cond.code y'.1 y'.2.1 y'.2.2.1 y'.2.2.2.1 := by unfold codeW; rw [m4]
    have hsub : ∀ w ∈ va_wsU (RN y.2.2.2.2.2) idx RJ4 y'.1.cls y'.1 y'.1 (WS y'), w ∈ GW := by
      intro w hw
      unfold va_wsU at hw
      simp only [List.mem_append, List.mem_cons, List.not_mem_nil, or_false] at hw
      rcases hw with (rfl | rfl | rfl | rfl | rfl) | hw
      · exact m1
      · exact m2
      · exact m5
      · exact m3
      · exact hini
      · rcases List.mem_cons.mp hw with rfl | hw
        · exact hcw
        · exact hw
    exact vx_runU (C := RJ4) (owner := y'.1.cls) (x := y'.1) (index := idx) (bytes := y'.2.1) (maxL := y'.2.2.1) (ret := y'.2.2.2.1) (n := n) hfit hC (va_cwU (ws' := GW) n hts (goodGW hsub) (by unfold WS; rw [hcode]) rfl rfl rfl ⟨hne.1, hne.2, hnn⟩ ⟨hfr, hlo⟩) ⟨PcG_blind, hcell, hPc⟩ rfl hn hl.1 rfl (lv_room hrest) hd ⟨by omega, by omega⟩
  · obtain ⟨m1, m2, m3, m5, m6, m4⟩ := hmm
    obtain rfl := hC9.2 (by decide)
    have hcode : codeW y' = Cond.code y'.1 y'.2.1 y'.2.2.1 y'.2.2.2.1 := by unfold codeW; rw [m4]
    have hsub : ∀ w ∈ va_wsSU (RN y.2.2.2.2.2) idx y'.1 (WS y'), w ∈ GW := by
      intro w hw
      unfold va_wsSU at hw
      simp only [List.mem_append, List.mem_cons, List.not_mem_nil, or_false] at hw
      rcases hw with (rfl | rfl | rfl | rfl | rfl) | hw
      · exact m1
      · exact m2
      · exact m3
      · exact m5
      · exact hini
      · rcases List.mem_cons.mp hw with rfl | hw
        · exact hcw
        · exact hw
    exact vx_runSU (C := RJ4) (cC := G.2.1.1 7) (index := idx) (bytes := y'.2.1) (maxL := y'.2.2.1) (ret := y'.2.2.2.1) (n := n) (hfv.1.1 7 _ rfl).2 hfit hC (va_cwSU (ws' := GW) n hts (goodGW hsub) (by unfold WS; rw [hcode]) rfl rfl ⟨m6, hnn⟩ ⟨hfr, hlo⟩) ⟨PcG_blind, hcell, hPc⟩ rfl hn hl.1 rfl (lv_room hrest) hd ⟨by omega, by omega⟩
  · obtain ⟨m1, m2, m3, m5, m4⟩ := hmm
    obtain rfl := hC9.2 (by decide)
    have hcode : codeW y' = Cond.code y'.1 y'.2.1 y'.2.2.1 y'.2.2.2.1 := by unfold codeW; rw [m4]
    have hcw' : Cond.code y'.1 y'.2.1 y'.2.2.1 y'.2.2.2.1 ∈ GW := by rw [← hcode]; exact hcw
    have hsel : (Cond.selects RJ4 y'.1 y'.1).before args s = true := word_at (State.WarmedH.refl s) (Or.inl rfl) (hfv.2.2.2.2.2.1.2.2.2.2.1 _ m3)
    have hinst := hts _ m5
    obtain ⟨mk, methM, hn1, hn2, hn3, hn4⟩ := Cond.instanceMethod_spec hinst
    obtain ⟨methM', cM, hn5, -, -, -, -, -, -, hn6⟩ := Cond.code_spec hn1 (hts _ hcw')
    cases hn2.symm.trans hn5
    exact vx_runU (C := RJ4) (owner := y'.1.cls) (x := y'.1) (index := idx) (bytes := y'.2.1) (maxL := y'.2.2.1) (ret := y'.2.2.2.1) (n := n) hfit hC ⟨⟨rfl, rfl, hfr, hlo, WS_warm hts hcw, by unfold WS; rw [hcode]; exact List.mem_cons_self⟩, hts _ hcw', hts _ hini, hne, desc_n hnn, hts _ m1, hts _ m2, ⟨mk, methM, hn1, hn2, hn3, hn6⟩, hsel, hinst⟩ ⟨PcG_blind, hcell, hPc⟩ rfl hn hl.1 rfl (lv_room hrest) hd ⟨by omega, by omega⟩
theorem V_callS {idx kind n d' mc' ms' : Nat} {y' : MD} {As : List Value} {Q1 : RT → Hp → Prop} (hk : kind = 1 ∨ kind = 3 ∨ kind = 5) (hd : decode y.2.1 pc = .ok (.invokestatic idx, 3)) (hm : mok y.2.2.2.2.2 idx kind n y') (hn : As.length = n) (hrest : catS st ≤ 8) (hd' : d' < d) (hmc : mc' ≤ rc) (hms : ms' ≤ rs)
    (hC : Ct G y' d' mc' ms' As h Q1) (kk : ∀ r h', Q1 (.inl r) h' → V G y d (rc - mc') (rs - ms') (pc + 3) lv (r.toList ++ st) h' Q) (kx : ∀ E h', Q1 (.inr E) h' → VX G y d (rc - mc') (rs - ms') pc lv E h' Q) : V G y d rc rs pc lv (As.reverse ++ st) h Q := by
  intro p e R s m args below meth c H locs cells slots mc ms ls QQ hF hR hc' hs hE hl hr hS
  have hts := hF.2.2.2.2.2.1
  have hfv := hF.2.2.2.2.2.2.2.1
  obtain ⟨hne, hnn, hini, hcw, hmx, hmm⟩ := hm
  have hfr : (rmD d' mc' ms').frames + 1 ≤ R.frames := by show d' + 1 ≤ _; omega
  have hlo : 8 + (y'.2.2.1 + 11) + (rmD d' mc' ms').locals ≤ R.locals := by show 8 + (y'.2.2.1 + 11) + 45 * d' ≤ _; omega
  have hPc : ∀ U : State, U.heap = H → s.WarmedH U.vm → PcG G h As As.toArray U := fun U hU hW => ⟨rfl, FV.warm hW hfv, by rw [hU]; exact hr⟩
  have hfit : CallFix p m c y.2.1 y.2.2.1 s args GW (RN y.2.2.2.2.2) := ⟨hF.1, hF.2.1, hF.2.2.2.1, hF.2.2.2.2.1, hts⟩
  refine run_go hF hR hc' hs hE hl hS hmc hms (a := As.toArray) ?_ kk kx
  rcases hk with rfl | rfl | rfl
  · obtain ⟨m1, m2, m4⟩ := hmm
    have hcode : codeW y' = Cond.code y'.1 y'.2.1 y'.2.2.1 y'.2.2.2.1 := by unfold codeW; rw [m4]
    have hcw' : Cond.code y'.1 y'.2.1 y'.2.2.1 y'.2.2.2.1 ∈ GW := by rw [← hcode]; exact hcw
    exact vx_runS (index := idx) (bytes := y'.2.1) (maxL := y'.2.2.1) (ret := y'.2.2.2.1) (n := n) hfit hC ⟨⟨rfl, rfl, hfr, hlo, WS_warm hts hcw, by unfold WS; rw [hcode]; exact List.mem_cons_self, hts _ hcw', hts _ hini, hne, desc_n hnn, hts _ m1⟩, hts _ m2⟩ ⟨PcG_blind, hPc⟩ rfl hn hl.1 rfl (lv_room hrest) hd ⟨by omega, by omega⟩
  · obtain ⟨⟨host, m1⟩, m2, m4⟩ := hmm
    have hcode : codeW y' = Cond.code y'.1 y'.2.1 y'.2.2.1 y'.2.2.2.1 := by unfold codeW; rw [m4]
    have hcw' : Cond.code y'.1 y'.2.1 y'.2.2.1 y'.2.2.2.1 ∈ GW := by rw [← hcode]; exact hcw
    exact vx_runSN (host := host) (index := idx) (bytes := y'.2.1) (maxL := y'.2.2.1) (ret := y'.2.2.2.1) (n := n) hfit hC ⟨⟨⟨rfl, rfl, hfr, hlo, WS_warm hts hcw, by unfold WS; rw [hcode]; exact List.mem_cons_self⟩, hts _ hcw', hts _ hini, hne, desc_n hnn, va_Nw.use rfl (hfv.2.1 _ m1)⟩, hts _ m2, trivial⟩ ⟨PcG_blind, hPc⟩ rfl hn hl.1 rfl (lv_room hrest) hd ⟨by omega, by omega⟩
  · obtain ⟨m1, m2, m4⟩ := hmm
    obtain ⟨hh, m4⟩ := Option.isSome_iff_exists.mp m4
    have hcode : codeW y' = Cond.codeWith y'.1 y'.2.1 y'.2.2.1 y'.2.2.2.1 hh := by unfold codeW; rw [m4]
    have hcw' : Cond.codeWith y'.1 y'.2.1 y'.2.2.1 y'.2.2.2.1 hh ∈ GW := by rw [← hcode]; exact hcw
    exact vx_runSX (index := idx) (bytes := y'.2.1) (maxL := y'.2.2.1) (ret := y'.2.2.2.1) (n := n) (hh := hh) hfit hC ⟨⟨rfl, rfl, hfr, hlo, WS_warm hts hcw, by unfold WS; rw [hcode]; exact List.mem_cons_self⟩, hts _ hcw', hts _ hini, hne, desc_n hnn, hts _ m1, hts _ m2⟩ ⟨PcG_blind, hPc⟩ rfl hn hl.1 rfl (lv_room hrest) hd ⟨by omega, by omega⟩
/-- caught by the row (a, b, hp, ct) of the table; the rows ahead are of other classes -/
theorem VX_catch {E : String} {pre suf : List (Nat × Nat × Nat × Nat)} {x0 x1 x2 x3 : Nat} (htab : y.2.2.2.2.1 = some (pre ++ (x0, x1, x2, x3) :: suf)) (hpass : ∀ z ∈ pre, z.2.2.2 ≠ 0 ∧ ∃ nm : String, Cond.classLink (RN y.2.2.2.2.2) z.2.2.2 nm ∈ GW ∧ nm ≠ E ∧ (E, nm) ∈ NCL) (hx : covers ⟨x0, x1, x2, x3⟩ pc = true) (h0 : x3 ≠ 0) (hlk : Cond.classLink (RN y.2.2.2.2.2) x3 E ∈ GW) (hE9 : (E, E) ∈ NCL)
    (kk : ∀ q : Nat, V G y d rc rs x2 lv [.ref q] h Q) : VX G y d rc rs pc lv E h Q := by
  intro p e R s m args below meth c H locs cells slots mc ms ls QQ q ce rest hF hR hc' hs hE hl hr hS hce hcv hcl
  have hts := hF.2.2.2.2.2.1
  have hfx := hF.2.2.2.2.2.2.2.1.2.2.2.2.2.1.2.2.2.1
  have hca : va_Nw (.castable E E) s := by have := hfx _ hE9; rw [if_pos rfl] at this; exact this
  refine vx_catch (own := RN y.2.2.2.2.2) (name := E) hF.2.2.2.2.1 (tableOf pre) ⟨x0, x1, x2, x3⟩ (tableOf suf) ?_ ?_ hx h0 (hts _ hlk) (va_Nw.use rfl hca) hce hcv hcl (kk q p e R s m args below meth c H locs cells slots mc ms ls QQ hF hR hc' hs hE hl hr hS)
  · rw [hF.2.2.2.2.2.2.2.2.2.1]
    unfold tabOf
    rw [htab]
    show tableOf (pre ++ (x0, x1, x2, x3) :: suf) = _
    unfold tableOf
    rw [List.map_append, List.map_cons]
  · intro z hz
    obtain ⟨w, hw, rfl⟩ := List.mem_map.mp hz
    obtain ⟨hz0, nm, h1, h2, h3⟩ := hpass w hw
    have h4 := hfx _ h3
    rw [if_neg (fun e => h2 e.symm)] at h4
    exact Or.inr ⟨hz0, nm, hts _ h1, h4⟩
end VCALLS
