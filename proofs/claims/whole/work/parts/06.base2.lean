theorem at_ok : ∀ x ∈ XCL, ∀ w ∈ vx_at9 RX7 x.2.2 x.1, goodWord w = true ∨ (match w with | .castable .. => true | .declares _ => true | _ => false) = true := by decide +kernel
theorem at_warm {w : Cond} {s U : State} (hW : s.WarmedH U.vm) (hk : goodWord w = true ∨ (match w with | .castable .. => true | .declares _ => true | _ => false) = true) (hw : w.before #[] s = true) : w.before #[] U = true := by
  rcases hk with hk | hk
  · exact word_at hW (good_of_word hk) hw
  · cases w <;> first | exact va_Nw.warmC hW hw | exact va_Nw.warmD hW hw | cases hk
theorem va_Nc_moved {C T : String} {u U : State} (h : u.vm.Alike U.vm) (hZ : va_Nc C T u) : va_Nc C T U := hZ.moved h
theorem sta_moved {G : GT} {s U : State} {a : Nat} {e : va_E} (h : s.vm.Alike U.vm) (hs : sta G s a e) : sta G U a e := by
  rcases e with ⟨t, n, f⟩ | ⟨ci, fs⟩
  · rcases f with f | f | f | f | f
    · exact va_T.moved h hs
    · exact hs
    · exact hs
    · exact hs
    · exact ⟨hs.1, va_T.moved h hs.2⟩
  · obtain ⟨j, r, h1, h2, h3, h4⟩ := hs
    exact ⟨j, r, h1, h2, h3.moved h, fun k v hk hv => (h4 k v hk hv).moved h⟩
theorem FX.warm {G : GT} {s U : State} (hW : s.WarmedH U.vm) (h : FX G s) : FX G U := by
  obtain ⟨h1, h2, h3, h4, h5, h6⟩ := h
  refine ⟨fun x hx w hw => at_warm hW (at_ok x hx w hw) (h1 x hx w hw), vx_Zq.moved hW.alike h2, vx_Zq.moved hW.alike h3, fun q hq => ?_, fun y hy => word_at hW (Or.inl rfl) (h5 y hy), fun C hC => va_AO.moved hW.alike (h6 C hC)⟩
  have h5 := h4 q hq
  by_cases e : q.1 = q.2
  · rw [if_pos e] at h5 ⊢
    exact va_Nw.warmC hW h5
  · rw [if_neg e] at h5 ⊢
    exact va_Nc_moved hW.alike h5
theorem FV.warm {G : GT} {s U : State} (hW : s.WarmedH U.vm) (h : FV G s) : FV G U := by
  obtain ⟨h1, h2, h3, h4, h5, h6, h7⟩ := h
  refine ⟨va_K.moved hW.alike h1, fun q hq => va_Nw.warmM hW (h2 q hq), fun a e he => sta_moved hW.alike (h3 a e he), fun cn idx v hv => ?_, fun cn idx q hq => ?_, FX.warm hW h6, h7⟩
  · obtain ⟨C, n, d, hz, hl⟩ := h4 cn idx v hv
    refine ⟨C, n, d, hz.moved hW.alike, ?_⟩
    rcases hl with hl | ⟨host, hl⟩
    · exact Or.inl hl
    · exact Or.inr ⟨host, va_Nw.warmF hW hl⟩
  · obtain ⟨tx, ht⟩ := h5 cn idx q hq
    exact ⟨tx, vk_R.warm hW ht⟩
theorem FV.alike {G : GT} {s U : State} (h : s.vm = U.vm) (hs : FV G s) : FV G U := FV.warm (by rw [← h]; exact State.WarmedH.refl s) hs
theorem gw_at {s U : State} {args a' : Array Value} (hts : ∀ w ∈ GW, w.before args s = true) (hW : s.WarmedH U.vm) {w : Cond} (hw : w ∈ GW) : w.before a' U = true := word_at hW (good_of_word (List.mem_filter.mp hw).2) (hts w hw)
theorem goodGW {L : List Cond} (h : ∀ w ∈ L, w ∈ GW) : GoodIn GW L := fun w hw => ⟨h w hw, good_of_word (List.mem_filter.mp (h w hw)).2⟩
theorem HR.size {G : GT} {h : Hp} {H : Heap} (hr : HR G h H) : H.size = h.1 := hr.1
theorem HR.put {G : GT} {h : Hp} {H H1 : Heap} {a : Nat} {e0 e : va_E} (hr : HR G h H) (h0 : h.2 a = some e0) (hat : va_at G.2.1 CL (a, rE G e) H1) (hz : H1.size = H.size) (ho : ∀ q, q ≠ a → H1[q]? = H[q]?) : HR G (hput h a e) H1 := by
  obtain ⟨h1, h2, h3⟩ := hr
  have ha := (h3 a e0 h0).1
  refine ⟨hz.trans h1, ⟨by rw [hz]; exact h2.1, fun q hq => (ho q (by omega)).trans (h2.2 q hq)⟩, fun b e' he => ?_⟩
  rw [hput_if] at he
  by_cases hb : b = a
  · rw [if_pos hb] at he
    cases he
    subst hb
    exact ⟨ha, hat⟩
  · rw [if_neg hb] at he
    exact ⟨(h3 b e' he).1, (h3 b e' he).2.kept (ho b hb)⟩
theorem HR.grow {G : GT} {h : Hp} {H H1 : Heap} (hr : HR G h H) (hz : H.size ≤ H1.size) (ho : ∀ q, q < H.size → H1[q]? = H[q]?) : HR G (H1.size, h.2) H1 := by
  obtain ⟨h1, h2, h3⟩ := hr
  refine ⟨rfl, ⟨Nat.le_trans h2.1 hz, fun q hq => (ho q (by have := h2.1; omega)).trans (h2.2 q hq)⟩, fun b e' he => ?_⟩
  have h5 := h3 b e' he
  exact ⟨h5.1, h5.2.kept (ho b h5.2.lt)⟩
theorem HR.new {G : GT} {h : Hp} {H H1 : Heap} {e : va_E} (hr : HR G h H) (hat : va_at G.2.1 CL (H.size, rE G e) H1) (hz : H1.size = H.size + 1) (ho : ∀ q, q < H.size → H1[q]? = H[q]?) : HR G (hnew h e) H1 := by
  obtain ⟨h1, h2, h3⟩ := hr
  refine ⟨hz.trans (by rw [h1]; rfl), ⟨by have := h2.1; omega, fun q hq => (ho q (by have := h2.1; omega)).trans (h2.2 q hq)⟩, fun b e' he => ?_⟩
  rw [hnew_if] at he
  by_cases hb : b = h.1
  · rw [if_pos hb] at he
    cases he
    rw [hb, ← h1]
    exact ⟨h2.1, hat⟩
  · rw [if_neg hb] at he
    have h5 := h3 b e' he
    exact ⟨h5.1, h5.2.kept (ho b h5.2.lt)⟩
theorem HR.same {G : GT} {h : Hp} {H : Heap} (hr : HR G h H) {a : Nat} {e : va_E} (he : h.2 a = some e) : va_at G.2.1 CL (a, rE G e) H := (hr.2.2 a e he).2
theorem HR.P1 {G : GT} {h : Hp} {H : Heap} (hr : HR G h H) {a : Nat} {e : va_E} (he : h.2 a = some e) : va_P G.2.1 CL [(a, rE G e)] H := by
  intro k q hk
  match k, hk with
  | 0, hk => cases hk; exact hr.same he
  | k + 1, hk => simp at hk
theorem HF.S {G : GT} {s : State} {H : Heap} (h0 : HF G s.heap) (h : HF G H) (hz : s.heap.size ≤ H.size) : va_S (Fz G) s.heap H [] :=
  ⟨hz, fun q _ hq => by
    have hq' : q < b0 G := Nat.not_le.mp hq
    exact (h.2 q hq').trans (h0.2 q hq').symm, fun _ hx => nomatch hx⟩
