/-! ===== pure: forms by their parts; the model's texts ===== -/
theorem V_ldcW {G : GT} {y : MD} {d rc rs pc : Nat} {lv : LL} {st : List Value} {h : Hp} {Q : RT → Hp → Prop} {idx q : Nat} (hd : decode y.2.1 pc = .ok (.ldc_w idx, 3)) (hv : ssG G y.2.2.2.2.2 idx = some q) (kk : V G y d rc rs (pc + 3) lv (.ref q :: st) h Q) : V G y d rc rs pc lv st h Q := by
  intro p e R s m args below meth c H locs cells slots mc ms ls QQ hF hR hc' hs hE hl hr hS
  obtain ⟨tx, hz⟩ := hF.2.2.2.2.2.2.2.1.2.2.2.2.1 _ _ _ hv
  intro T hT X
  obtain ⟨t, a1, b1⟩ := kk p e R s m args below meth c H locs cells slots mc ms ls QQ hF hR hc' hs hE hl hr hS T hT X
  exact ⟨t, X.ldcStringW hF.1 hF.2.2.2.2.1 (text := tx) (a := q) hz.1 hz.2 (g := F0 m pc ls st) rfl (by rw [hF.2.1]; exact hd) t a1, b1⟩
/-- a part: 0 a text, 1 a digit, 3 a number, 7 a feather -/
abbrev Pt : Type := Nat × List Nat
def OkPt (p : Pt) : Prop := (p.1 = 0 ∧ Pl p.2) ∨ p.1 = 7 ∨ p.1 = 1 ∨ p.1 = 3
def ptS (sg : Nat → Fin 65536) (len : Nat) (p : Pt) (s : MS) : MS := if p.1 = 0 then stL sg len p.2 s else if p.1 = 7 then stF sg len s else stN sg len p.1 s
def ptC (sg : Nat → Fin 65536) (len : Nat) (p : Pt) (s : MS) (c : Cmd) : Cmd := if p.1 = 0 then c else if p.1 = 7 then (c.1, c.2.1, c.2.2.1, sg s.2, c.2.2.2.2) else gvC c (vaN sg len p.1 s)
def ptL (p : Pt) : List Nat := if p.1 = 0 then p.2 else if p.1 = 7 then [70] else [cdN p.1]
def rnS (sg : Nat → Fin 65536) (len : Nat) : List Pt → MS → MS
  | [], s => s
  | p :: ps, s => rnS sg len ps (ptS sg len p s)
def rnC (sg : Nat → Fin 65536) (len : Nat) : List Pt → MS → Cmd → Cmd
  | [], _, c => c
  | p :: ps, s, c => rnC sg len ps (ptS sg len p s) (ptC sg len p s c)
def flt : List Pt → List Nat
  | [] => []
  | p :: ps => ptL p ++ flt ps
theorem ptS_w {sg : Nat → Fin 65536} {len t : Nat} {p : Pt} : ptS sg len p (true, t) = (true, t) := by
  unfold ptS
  split
  · exact stL_w
  · split
    · exact stF_w
    · exact stN_w
theorem rnS_w {sg : Nat → Fin 65536} {len t : Nat} : ∀ ps : List Pt, rnS sg len ps (true, t) = (true, t)
  | [] => rfl
  | p :: ps => by rw [rnS, ptS_w]; exact rnS_w ps
theorem pt_one {sg : Nat → Fin 65536} {len : Nat} {p : Pt} {rest : List Nat} {t : Nat} {c : Cmd} (ok : OkPt p) : ((ptS sg len p (false, t)).1 = false → pFL sg len (ptL p ++ rest) (t, c) = pFL sg len rest ((ptS sg len p (false, t)).2, ptC sg len p (false, t) c)) ∧ ((ptS sg len p (false, t)).1 = true → ∃ c', pFL sg len (ptL p ++ rest) (t, c) = (false, ((ptS sg len p (false, t)).2, c'))) := by
  obtain ⟨a, l⟩ := p
  rcases ok with ⟨e, hl⟩ | e | e | e
  · obtain rfl : a = 0 := e
    have := sim_T (sg := sg) (len := len) (rest := rest) (q := (t, c)) hl
    exact ⟨this.1, fun q => ⟨_, this.2 q⟩⟩
  · obtain rfl : a = 7 := e
    have := sim_G (sg := sg) (len := len) (rest := rest) (q := (t, c))
    exact ⟨this.1, fun q => ⟨_, this.2 q⟩⟩
  · obtain rfl : a = 1 := e
    have := sim_M (sg := sg) (len := len) (m := 1) (rest := rest) (q := (t, c)) (.inl rfl)
    exact ⟨this.1, fun q => ⟨_, this.2 q⟩⟩
  · obtain rfl : a = 3 := e
    have := sim_M (sg := sg) (len := len) (m := 3) (rest := rest) (q := (t, c)) (.inr rfl)
    exact ⟨this.1, fun q => ⟨_, this.2 q⟩⟩
theorem fm_all {sg : Nat → Fin 65536} {len : Nat} : ∀ (ps : List Pt) (t : Nat) (c : Cmd), (∀ p, p ∈ ps → OkPt p) → (pFL sg len (flt ps) (t, c)).1 = !(rnS sg len ps (false, t)).1 ∧ (pFL sg len (flt ps) (t, c)).2.1 = (rnS sg len ps (false, t)).2 ∧ ((rnS sg len ps (false, t)).1 = false → (pFL sg len (flt ps) (t, c)).2.2 = rnC sg len ps (false, t) c)
  | [], t, c, _ => ⟨rfl, rfl, fun _ => rfl⟩
  | p :: ps, t, c, ok => by
    have o := pt_one (sg := sg) (len := len) (rest := flt ps) (t := t) (c := c) (ok p List.mem_cons_self)
    rw [flt, rnS, rnC]
    cases e : (ptS sg len p (false, t)).1 with
    | false =>
      rw [o.1 e]
      have es := ms_eta _ _ e
      rw [es]
      exact fm_all ps _ _ (fun p hp => ok p (List.mem_cons_of_mem _ hp))
    | true =>
      obtain ⟨c', h⟩ := o.2 e
      have es := ms_eta _ _ e
      rw [h, es, rnS_w]
      exact ⟨rfl, rfl, fun q => by cases q⟩
/-- the forms -/
def KP (k : Nat) : List Pt :=
  if k = 0 then [(0, [112, 108, 97, 110, 116, 32]), (1, []), (7, []), (0, [64]), (3, [])]
  else if k = 1 then [(0, [112, 105, 99, 107, 32]), (1, [])]
  else if k = 2 then [(0, [115, 104, 97, 114, 112, 101, 110, 32]), (3, []), (0, [45]), (3, [])]
  else if k = 3 then [(0, [98, 108, 117, 110, 116, 32]), (3, []), (0, [43]), (3, [])]
  else if k = 4 then [(0, [117, 112, 114, 111, 111, 116, 32]), (3, [])]
  else if k = 5 then [(0, [109, 111, 118, 101, 32]), (3, []), (0, [62]), (1, [])]
  else if k = 6 then [(0, [109, 101, 114, 103, 101, 32]), (1, []), (0, [62]), (1, [])]
  else if k = 7 then [(0, [111, 114, 100, 101, 114, 32]), (1, [])]
  else if k = 8 then [(0, [114, 101, 99, 97, 108, 108, 32]), (7, [])]
  else [(0, [105, 110, 107, 32]), (7, []), (0, [43]), (3, [])]
def kF (k : Nat) : Nat → Nat := chA (flt (KP k))
def kL (k : Nat) : Nat := (flt (KP k)).length
theorem KP_ok : ∀ k p, p ∈ KP k → OkPt p := by
  have P1 : ∀ l : List Nat, (∀ c, c ∈ l → c < 128 ∧ c ≠ 68 ∧ c ≠ 78 ∧ c ≠ 70) → Pl l := fun l => by
    induction l with
    | nil => exact fun _ => trivial
    | cons c l ih => exact fun h => ⟨h c List.mem_cons_self, ih (fun x hx => h x (List.mem_cons_of_mem _ hx))⟩
  have P2 : ∀ l : List Pt, (l.all (fun p => (p.1 == 0 && p.2.all (fun c => decide (c < 128 ∧ c ≠ 68 ∧ c ≠ 78 ∧ c ≠ 70))) || p.1 == 7 || p.1 == 1 || p.1 == 3)) = true → ∀ p, p ∈ l → OkPt p := fun l h p hp => by
    have := List.all_eq_true.mp h p hp
    simp only [Bool.or_eq_true, Bool.and_eq_true, beq_iff_eq] at this
    rcases this with ((⟨e, f⟩ | e) | e) | e
    · exact .inl ⟨e, P1 _ (fun c hc => of_decide_eq_true (List.all_eq_true.mp f c hc))⟩
    · exact .inr (.inl e)
    · exact .inr (.inr (.inl e))
    · exact .inr (.inr (.inr e))
  intro k
  unfold KP
  repeat' split
  all_goals exact P2 _ (by decide)
theorem pForm_K {sg : Nat → Fin 65536} {len k : Nat} {q : PS} : pForm sg len (kF k) (kL k) 0 q = pFL sg len (flt (KP k)) q := pForm_L sg len (flt (KP k)) (kL k) 0 q (by rw [Nat.zero_add]; rfl)
/-- the texts that the model reads by -/
def mtx : List (Nat × List Nat) := [(221, [112, 108, 97, 110, 116, 32]), (223, [105, 110, 107, 32]), (235, [64]), (237, [112, 105, 99, 107, 32]), (239, [115, 104, 97, 114, 112, 101, 110, 32]), (241, [45]), (243, [98, 108, 117, 110, 116, 32]), (245, [43]), (247, [117, 112, 114, 111, 111, 116, 32]), (249, [109, 111, 118, 101, 32]), (251, [62]), (253, [109, 101, 114, 103, 101, 32]), (255, [111, 114, 100, 101, 114, 32]), (257, [114, 101, 99, 97, 108, 108, 32])]
def MTX (G : GT) : Prop := ∀ i l, (i, l) ∈ mtx → ∃ a b f, ssG G 8 i = some a ∧ StrAt G a b l.length f ∧ ∀ k, k < l.length → f k = chA l k
