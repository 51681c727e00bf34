/-! ===== the start: all that the walk asks ===== -/
theorem st_K {args : Array Value} {s : State} (hts : ∀ w ∈ lw_tbl, w.before args s = true) : ∃ (D : va_G) (ac : Nat → ClassId), va_K D CL [(ac 0, tyOf 0), (ac 1, tyOf 1), (ac 2, tyOf 2), (ac 3, tyOf 3), (ac 4, tyOf 4), (ac 5, tyOf 5), (ac 6, tyOf 6), (ac 7, tyOf 7)] s := by
  have hg : ∀ w ∈ GW, w.before args s = true := fun w hw => hts w (List.mem_filter.mp hw).1
  have hc : ∀ c : Nat, ∃ q : ClassId × (Nat → Nat), ∀ r : vw_C, CL[c]? = some r → u_Kn s r.1 r.2.1 r.2.2 q.1 q.2 := by
    intro c
    have one : ∀ (r : vw_C) (n : Nat), CL[c]? = some r → (∀ w ∈ u_ws r.1 r.2.1 r.2.2, w ∈ GW) → Cond.instantiable r.1 n ∈ GW → ∃ q : ClassId × (Nat → Nat), ∀ r' : vw_C, CL[c]? = some r' → u_Kn s r'.1 r'.2.1 r'.2.2 q.1 q.2 := fun r n e hl hi => by
      obtain ⟨cC, iS, h⟩ := u_known hg hl (hg _ hi)
      exact ⟨(cC, iS), fun r' e' => by
        obtain rfl : r = r' := Option.some.inj (e.symm.trans e')
        exact h⟩
    match c, one with
    | 0, one => exact one (RX1, TX1, 5) 5 rfl layX1 g1_127
    | 1, one => exact one (RX2, TX2, 3) 3 rfl layX2 g1_100
    | 2, one => exact one (RX4, TX4, 5) 5 rfl layX4 g1_50
    | 3, one => exact one (RX5, TX5, 5) 5 rfl layX5 g1_120
    | 4, one => exact one (RX6, TX6, 4) 4 rfl layX6 g1_43
    | 5, one => exact one (RX7, TX7, 9) 9 rfl layX7 g1_35
    | 6, one => exact one (RX8, TX8, 18) 18 rfl layX8 g6_134
    | 7, one => exact one (RJ4, TJ4, 4) 4 rfl layJ4 g1_177
    | c + 8, _ => exact ⟨(0, fun _ => 0), fun r e => by simp at e⟩
  have pr : ∀ ty : FieldType, (Cond.arrayClass ty).before args s = true → ∃ c : ClassId, ArrOfT s c ty ∧ s.vm.findClass ("[" ++ ty.toString) = some c := fun ty h => by
    obtain ⟨c, k, comp, h1, h2, h3⟩ := Cond.arrayClass_spec (args := args) (first := s) (o := none) (s := s) (idx := []) h
    exact ⟨c, fun n z => ⟨fun k h => (by cases h), k, h2, comp, h3⟩, h1⟩
  have ov : ∀ C : String, (Cond.arrayOver (.object C)).before args s = true → ∃ c : ClassId, ArrOfT s c (.object C) ∧ va_RA s c (.object C) := fun C h => by
    obtain ⟨comp, c, k, h1, h2, h3, h4, h5⟩ := Cond.arrayOver_spec (args := args) (first := s) (o := none) (s := s) (idx := []) h
    exact ⟨c, fun n z => ⟨fun k h => (by cases h), k, h3, comp, h4⟩, k, comp, h3, h4, h1, h5⟩
  have hr : ∀ k : Nat, ∃ c : ClassId, k < 8 → ArrOfT s c (tyOf k) ∧ va_RA s c (tyOf k) := by
    intro k
    match k with
    | 0 => obtain ⟨c, h1, h2⟩ := pr .int (hts _ yt_arr_int); exact ⟨c, fun _ => ⟨h1, h2⟩⟩
    | 1 => obtain ⟨c, h1, h2⟩ := pr .char (hts _ yt_arr_char); exact ⟨c, fun _ => ⟨h1, h2⟩⟩
    | 2 => obtain ⟨c, h1, h2⟩ := pr .long (hts _ yt_arr_long); exact ⟨c, fun _ => ⟨h1, h2⟩⟩
    | 3 => obtain ⟨c, h1, h2⟩ := pr .double (hts _ yt_arr_double); exact ⟨c, fun _ => ⟨h1, h2⟩⟩
    | 4 => obtain ⟨c, h1, h2⟩ := pr .byte (hts _ yt_arr_byte); exact ⟨c, fun _ => ⟨h1, h2⟩⟩
    | 5 => obtain ⟨c, h⟩ := ov RX4 (hts _ yt_ov_X4); exact ⟨c, fun _ => h⟩
    | 6 => obtain ⟨c, h⟩ := ov RX6 (hts _ yt_ov_X6); exact ⟨c, fun _ => h⟩
    | 7 => obtain ⟨c, h⟩ := ov RX1 (hts _ yt_ov_X1); exact ⟨c, fun _ => h⟩
    | k + 8 => exact ⟨0, fun h => by omega⟩
  obtain ⟨D, hD⟩ := Classical.axiomOfChoice hc
  obtain ⟨ac, hac⟩ := Classical.axiomOfChoice hr
  refine ⟨(fun c => (D c).1, fun c => (D c).2), ac, fun c q hq => hD c q hq, fun k q hk => ?_⟩
  match k, hk with
  | 0, hk => cases hk; exact hac 0 (by omega)
  | 1, hk => cases hk; exact hac 1 (by omega)
  | 2, hk => cases hk; exact hac 2 (by omega)
  | 3, hk => cases hk; exact hac 3 (by omega)
  | 4, hk => cases hk; exact hac 4 (by omega)
  | 5, hk => cases hk; exact hac 5 (by omega)
  | 6, hk => cases hk; exact hac 6 (by omega)
  | 7, hk => cases hk; exact hac 7 (by omega)
  | k + 8, hk => simp at hk
theorem st_FX {G : GT} {args : Array Value} {s : State} (hG : G.2.2.1 = s.heap) (hts : ∀ w ∈ lw_tbl, w.before args s = true) (hn : ∀ w ∈ flatC narrow_1, w.before args s = true) : FX G s := by
  have hA : ∀ a : Nat, a < s.heap.size → ¬ Fz G a := fun a ha h => by
    unfold Fz b0 at h
    rw [hG] at h
    omega
  have h0 : ∀ w : Cond, vx_ot w = true → w ∈ lw_tbl → w.before #[] s = true := fun w g h => vx_ot_at (State.WarmedH.refl s) rfl g (hts _ h)
  refine ⟨fun x hx w hw => ?_, ?_, ?_, fun q hq => ?_, fun y hy => ?_, fun C hC => ?_⟩
  · have h1 := yw_own x hx w hw
    rcases at_ok x hx w hw with g | g
    · exact word_at (State.WarmedH.refl s) (good_of_word g) (hts w h1)
    · refine h0 w ?_ h1
      cases w <;> first | rfl | cases g
  · rw [hG]
    exact vx_Zqof (args := args) (hts _ yt_ls_unas) (hts _ yt_in_thr) (hn _ yn_unas) hA
  · rw [hG]
    exact vx_Zqof (args := args) (hts _ yt_ls_supp) (hts _ yt_in_thr) (hn _ yn_supp) hA
  · have h := yw_cast q hq
    by_cases e : q.1 = q.2
    · rw [if_pos e] at h ⊢
      exact h0 _ rfl h
    · rw [if_neg e] at h ⊢
      exact va_Nc.of (hn _ h)
  · exact vx_ot_at (State.WarmedH.refl s) rfl rfl (yw_sel hts y hy)
  · simp only [AOL, List.mem_cons, List.not_mem_nil, or_false] at hC
    rcases hC with rfl | rfl | rfl
    · exact hts _ yt_ov_X4
    · exact hts _ yt_ov_X6
    · exact hts _ yt_ov_X1
def SvE (kr k0 sw d1 d2 : Nat) (vq : Value) (q : Nat × Nat) (v : Value) : Prop := (q = (5, 40) ∧ v = .ref kr) ∨ (q = (6, 39) ∧ v = .ref sw) ∨ (q = (1, 9) ∧ v = .ref k0) ∨ (q = (10, 38) ∧ v = .int (nI 1)) ∨ (q = (10, 1053) ∧ v = vq) ∨ (q = (15, 18) ∧ v = .int (nI 1)) ∨ (q = (16, 83) ∧ v = .ref d1) ∨ (q = (16, 87) ∧ v = .ref d2)
theorem SvE_u {kr k0 sw d1 d2 : Nat} {vq : Value} (q : Nat × Nat) (v v' : Value) (h : SvE kr k0 sw d1 d2 vq q v) (h' : SvE kr k0 sw d1 d2 vq q v') : v = v' := by
  rcases h with ⟨rfl, rfl⟩ | ⟨rfl, rfl⟩ | ⟨rfl, rfl⟩ | ⟨rfl, rfl⟩ | ⟨rfl, rfl⟩ | ⟨rfl, rfl⟩ | ⟨rfl, rfl⟩ | ⟨rfl, rfl⟩ <;> rcases h' with ⟨e, rfl⟩ | ⟨e, rfl⟩ | ⟨e, rfl⟩ | ⟨e, rfl⟩ | ⟨e, rfl⟩ | ⟨e, rfl⟩ | ⟨e, rfl⟩ | ⟨e, rfl⟩ <;> first | rfl | exact absurd e (by decide)
theorem T_lt {ty : FieldType} {a n : Nat} {f : Nat → Value} {A : Nat → Prop} {U : State} {H : Heap} (h : va_T ty a n f A U H) : a < H.size := by
  obtain ⟨c, h1, -⟩ := h
  exact (Array.getElem?_eq_some_iff.mp h1).1
theorem O_lt {C : String} {a : Nat} {A : Nat → Prop} {U : State} {H : Heap} (h : va_O C a A U H) : a < H.size := by
  obtain ⟨c, h1, -⟩ := h
  exact (Array.getElem?_eq_some_iff.mp h1).1
theorem chA_lt {l : List Nat} (h : l.all (fun c => decide (c < 128)) = true) (k : Nat) : chA l k < 128 := by
  unfold chA
  cases e : l[k]? with
  | none => show 0 < 128; omega
  | some c => exact of_decide_eq_true (List.all_eq_true.mp h c (List.mem_of_getElem? e))
theorem msg_in : ∀ i, i ∈ [124, 129, 150, 152, 180, 198, 231, 242, 255, 263, 266, 268, 273, 282, 293, 295, 297, 299, 319] → ∃ q, q ∈ mTab ∧ q.1 = i := by decide
set_option maxHeartbeats 4000000 in
theorem st_G {s : State} {l : Launch} {b L : Nat} {xs : Nat → Int32} (hflags : l.flags = flags0) (hts : ∀ w ∈ lw_tbl, w.before #[Value.ref b] s = true) (hn : ∀ w ∈ flatC narrow_1, w.before #[Value.ref b] s = true) (hX : va_X b L xs s s.heap) (hbl : b < s.heap.size) (hfit : heapFits s = true) (hL : L ≤ 2048) : ∃ (G : GT) (K : KT9), G.1 = l ∧ G.2.2.1 = s.heap ∧ FV G s ∧ KCW G K ∧ JW G ∧ JW2 G ∧ KW G K kL kF ∧ KSW G K ∧ MTX G ∧ MsgW G ∧ SC G b L xs := by
  have hA : ∀ a : Nat, a < s.heap.size → ¬ (fun q : Nat => s.heap.size ≤ q) a := fun a ha h => Nat.not_le.mpr ha h
  have h0 : ∀ w : Cond, vx_ot w = true → w ∈ lw_tbl → w.before #[] s = true := fun w g h => vx_ot_at (State.WarmedH.refl s) rfl g (hts _ h)
  have hst : ∀ j : Nat, ∃ q : Nat × Nat, j < 24 → (sTm j).eval #[Value.ref b] s none [] s = some (.ref q.1) ∧ va_O "java/lang/String" q.1 (fun q : Nat => s.heap.size ≤ q) s s.heap ∧ va_OF "java/lang/String" "coder" "B" (.int (nI 0)) q.1 (fun q : Nat => s.heap.size ≤ q) s s.heap ∧ va_OF "java/lang/String" "value" "[B" (.ref q.2) q.1 (fun q : Nat => s.heap.size ≤ q) s s.heap ∧ va_T .byte q.2 (sTx j).length (fun k => .int (nI (chA (sTx j) k))) (fun q : Nat => s.heap.size ≤ q) s s.heap := fun j => by
    by_cases hj : j < 24
    · obtain ⟨q, hq⟩ := st_of (A := fun q : Nat => s.heap.size ≤ q) (l := sTx j) (t := sTm j) (by have := (yln j hj).1; omega) (fun w hw => hn w (ys_all j hj w hw)) hA
      exact ⟨q, fun _ => hq⟩
    · exact ⟨(0, 0), fun h => absurd h hj⟩
  obtain ⟨st, hst⟩ := Classical.axiomOfChoice hst
  have hkd : ∀ i : Nat, ∃ a : Nat, i < 10 → (kTm i).eval #[Value.ref b] s none [] s = some (.ref a) ∧ va_O "PenNursery$Kind" a (fun q : Nat => s.heap.size ≤ q) s s.heap ∧ va_OF "java/lang/Enum" "ordinal" "I" (.int (nI i)) a (fun q : Nat => s.heap.size ≤ q) s s.heap ∧ va_OF "PenNursery$Kind" "form" "Ljava/lang/String;" (.ref (st i).1) a (fun q : Nat => s.heap.size ≤ q) s s.heap := fun i => by
    by_cases hi : i < 10
    · obtain ⟨k1, k2, k3, k4⟩ := yk_all i hi
      obtain ⟨a, c, cA, kA, q1, q2, q3, q4, q5, q6, -⟩ := Cond.exactly_spec (args := #[Value.ref b]) (first := s) (o := none) (s := s) (idx := []) (t := kTm i) (cls := "PenNursery$Kind") (hn _ k1)
      exact ⟨a, fun _ => ⟨q1, ⟨cA, q3, q5, by rw [q6]; exact q2, hA a (Array.getElem?_eq_some_iff.mp q3).1⟩, vk_OFof q1 (va_eqt (hn _ k2)) hA, vk_OFof q1 (va_eqv (hn _ k3) (hst i (by omega)).1) hA⟩⟩
    · exact ⟨0, fun h => absurd h hi⟩
  obtain ⟨kd, hkd⟩ := Classical.axiomOfChoice hkd
  obtain ⟨kr, ekr, hkr⟩ := va_Tof (args := #[Value.ref b]) (s := s) (tm := .static "PenNursery" "KINDS" "[LPenNursery$Kind;") (ty := .object "PenNursery$Kind") (N := 10) (f := fun j => .ref (kd j)) (A := fun q : Nat => s.heap.size ≤ q) (by decide) (hn _ yk_ar) (va_eqt (hn _ yk_le)) (fun j hj => va_eqv (hn _ (yk_all j hj).2.2.2) (hkd j hj).1) hA
  obtain ⟨sw, esw, hsw⟩ := ar_of (A := fun q : Nat => s.heap.size ≤ q) (by decide) (fun w hw => hn w (ya_sw w hw)) hA
  obtain ⟨d1, ed1, hd1⟩ := ar_of (A := fun q : Nat => s.heap.size ≤ q) (by decide) (fun w hw => hn w (ya_ones w hw)) hA
  obtain ⟨d2, ed2, hd2⟩ := ar_of (A := fun q : Nat => s.heap.size ≤ q) (by decide) (fun w hw => hn w (ya_tens w hw)) hA
  have hne : b ≠ sw := va_neR (hn _ yn_sw) rfl esw
  have FS : FS9 b L xs sw kr kd (fun j => (st j).1) (fun j => (st j).2) d1 d2 (fun q : Nat => s.heap.size ≤ q) s := ⟨va_T.int hX (hA b hbl), hsw, hkr, fun i hi => (hkd i hi).2, fun i hi => (hst i hi).2, hd1, hd2⟩
  obtain ⟨sm, hsm⟩ := pick9 (Ent9 b L xs sw kr kd (fun j => (st j).1) (fun j => (st j).2) d1 d2) (Ent9_u hfit FS hL hne)
  obtain ⟨ss, hss⟩ := pick9 (α := Nat × Nat) (β := Nat) (fun q a => ∃ tx, vk_R (RN q.1) q.2 tx a s) (fun q a a' ⟨t, h⟩ ⟨t', h'⟩ => Value.ref.inj (Option.some.inj (h.2.symm.trans h'.2)))
  obtain ⟨vq, hvq, hq⟩ : ∃ v : Value, va_Z "jdk/internal/util/Preconditions" "SIOOBE_FORMATTER" "Ljava/util/function/BiFunction;" v (fun q : Nat => s.heap.size ≤ q) s s.heap ∧ (v = .null ∨ ∃ r, v = .ref r) := by
    rcases va_Zqof (args := #[Value.ref b]) (A := fun q : Nat => s.heap.size ≤ q) (hts _ yt_ls_sioobe) (hts _ yt_in_prec) (hn _ yn_sioobe) hA with h | ⟨t, h⟩
    · exact ⟨.null, h, .inl rfl⟩
    · exact ⟨.ref t, h, .inr ⟨t, rfl⟩⟩
  obtain ⟨sv, hsv⟩ := pick9 (SvE kr (kd 0) sw d1 d2 vq) SvE_u
  obtain ⟨D, ac, hK⟩ := st_K hts
  have hStr : ∀ j, j < 24 → StrAt (l, D, s.heap, ac, sm, fun cn i => sv (cn, i), fun cn i => ss (cn, i)) (st j).1 (st j).2 (sTx j).length (chA (sTx j)) := fun j hj => by
    obtain ⟨t0, t1, t2, t3, t4⟩ := hst j hj
    have y := yln j hj
    exact ⟨O_lt t1, T_lt t4, by omega, (hsm _ _).mpr (.inr (.inr (.inr ⟨j, hj, rfl, rfl⟩))), (hsm _ _).mpr (.inl ⟨4, _, _, rfl, .inr (.inr (.inl ⟨j, hj, rfl, rfl, rfl, rfl⟩))⟩), fun k _ => chA_lt y.2 k⟩
  refine ⟨(l, D, s.heap, ac, sm, fun cn i => sv (cn, i), fun cn i => ss (cn, i)), (kr, sw, kd, fun i => (st i).1, fun i => (st i).2), rfl, rfl, ⟨hK, fun q hq => h0 _ rfl (yw_nest q hq), fun a e he => ?_, fun cn i v hv => ?_, fun cn i q hq => (hss _ _).mp hq, st_FX rfl hts hn, ?_⟩, (hsv (1, 9) _).mpr (.inr (.inr (.inl ⟨rfl, rfl⟩))), ⟨(hsv (10, 38) _).mpr (.inr (.inr (.inr (.inl ⟨rfl, rfl⟩)))), vq, (hsv (10, 1053) _).mpr (.inr (.inr (.inr (.inr (.inl ⟨rfl, rfl⟩))))), hq⟩, ⟨(hsv (15, 18) _).mpr (.inr (.inr (.inr (.inr (.inr (.inl ⟨rfl, rfl⟩)))))), d1, d2, T_lt hd1, T_lt hd2, (hsv (16, 83) _).mpr (.inr (.inr (.inr (.inr (.inr (.inr (.inl ⟨rfl, rfl⟩))))))), (hsv (16, 87) _).mpr (.inr (.inr (.inr (.inr (.inr (.inr (.inr ⟨rfl, rfl⟩))))))), (hsm _ _).mpr (.inl ⟨4, 100, _, rfl, .inr (.inr (.inr (.inl ⟨rfl, rfl, rfl, rfl⟩)))⟩), (hsm _ _).mpr (.inl ⟨4, 100, _, rfl, .inr (.inr (.inr (.inr ⟨rfl, rfl, rfl, rfl⟩)))⟩)⟩, ⟨T_lt hkr, (hsv (5, 40) _).mpr (.inl ⟨rfl, rfl⟩), (hsm _ _).mpr (.inr (.inl ⟨rfl, rfl⟩)), fun i hi => ⟨O_lt (hkd i hi).2.1, (hsm _ _).mpr (.inr (.inr (.inl ⟨i, hi, rfl, rfl⟩))), ?_⟩⟩, ⟨T_lt hsw, (hsv (6, 39) _).mpr (.inr (.inl ⟨rfl, rfl⟩)), (hsm _ _).mpr (.inl ⟨0, 10, _, rfl, .inr (.inl ⟨rfl, rfl, rfl, rfl⟩)⟩)⟩, fun i t h => ?_, fun i h => ?_, hbl, by omega, (hsm _ _).mpr (.inl ⟨0, L, xs, rfl, .inl ⟨rfl, rfl, rfl, rfl⟩⟩)⟩
  · have h := (hsm a e).mp he
    rcases h with ⟨t, n, f, rfl, hi⟩ | ⟨rfl, rfl⟩ | ⟨i, hi, rfl, rfl⟩ | ⟨i, hi, rfl, rfl⟩
    · exact (IA9_T FS hL hi).1
    · exact ⟨rfl, hkr⟩
    · obtain ⟨-, o1, o2, o3⟩ := hkd i hi
      refine ⟨0, (RX3, TKind, 2), rfl, rfl, o1, fun k v hk hv => ?_⟩
      match k, hv with
      | 0, hv => cases hv; exact o2
      | 1, hv => cases hv; exact o3
      | k + 2, hv => simp at hv
    · obtain ⟨-, o1, o2, o3, o4⟩ := hst i hi
      refine ⟨1, (RJ0, TJ0, 4), rfl, rfl, o1, fun k v hk hv => ?_⟩
      match k, hv with
      | 0, hv => cases hv; exact o3
      | 1, hv => cases hv; exact o2
      | k + 2, hv => simp at hv
  · have h := (hsv (cn, i) v).mp hv
    rcases h with ⟨e, rfl⟩ | ⟨e, rfl⟩ | ⟨e, rfl⟩ | ⟨e, rfl⟩ | ⟨e, rfl⟩ | ⟨e, rfl⟩ | ⟨e, rfl⟩ | ⟨e, rfl⟩ <;> obtain ⟨rfl, rfl⟩ := Prod.mk.inj e
    · exact ⟨"PenNursery", "KINDS", "[LPenNursery$Kind;", va_Zref (hts _ yt_ls_kinds) (hts _ yt_in_nur) ekr hA, .inr ⟨"PenNursery", h0 _ rfl yt_fln⟩⟩
    · exact ⟨"PenNursery$1", "$SwitchMap$PenNursery$Kind", "[I", va_Zref (hts _ yt_ls_sw) (hts _ yt_in_one) esw hA, .inl g6_73⟩
    · exact ⟨"PenNursery$Kind", "PLANT", "LPenNursery$Kind;", va_Zref (hts _ yt_ls_plant) (hts _ yt_in_kind) (hkd 0 (by omega)).1 hA, .inl g1_132⟩
    · exact ⟨"java/lang/String", "COMPACT_STRINGS", "Z", va_Zof (hts _ yt_ls_compact) (hts _ yt_in_str) (va_eqi (hn _ yn_cs)) hA, .inl g2_205⟩
    · exact ⟨"jdk/internal/util/Preconditions", "SIOOBE_FORMATTER", "Ljava/util/function/BiFunction;", hvq, .inl g2_183⟩
    · exact ⟨"java/lang/String", "COMPACT_STRINGS", "Z", va_Zof (hts _ yt_ls_compact) (hts _ yt_in_str) (va_eqi (hn _ yn_cs)) hA, .inl g1_185⟩
    · exact ⟨"java/lang/Integer", "DigitOnes", "[B", va_Zref (hts _ yt_ls_ones) (hts _ yt_in_int) ed1 hA, .inl g3_13⟩
    · exact ⟨"java/lang/Integer", "DigitTens", "[B", va_Zref (hts _ yt_ls_tens) (hts _ yt_in_int) ed2 hA, .inl g3_15⟩
  · show l.stackTraces = false
    unfold Launch.stackTraces
    rw [hflags]
    decide +kernel
  · show StrAt _ _ _ (flt (KP i)).length (chA (flt (KP i)))
    rw [ytx i hi]
    exact hStr i (by omega)
  · obtain ⟨j, hj, e1, e2, e3⟩ := ymt (i, t) h
    refine ⟨(st j).1, (st j).2, chA (sTx j), ?_, ?_, fun k _ => ?_⟩
    · refine (hss (8, i) _).mpr ⟨(sRow j).2.2.1, ?_⟩
      have hr := vk_R.of (hts _ (yr_all j hj)) (hst j hj).1
      rw [e1, e2] at hr
      exact hr
    · have := hStr j hj
      rw [e3] at this ⊢
      exact this
    · rw [e3]
  · obtain ⟨q, hq1, rfl⟩ := msg_in i h
    obtain ⟨a, ha⟩ := str_R (hts _ (ym_all q hq1))
    have : ss (7, q.1) = some a := (hss _ _).mpr ⟨_, ha⟩
    show (ss (7, q.1)).isSome = true
    rw [this]
    rfl
