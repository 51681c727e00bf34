/-! ===== what the model reads is what the class reads ===== -/
theorem CmR.cg {f f' : Nat → Int32} {q : Nat} {c : Cmd} (r : CmR f q c) (h : ∀ x, q ≤ x → x < q + 4 → f' x = f x) : CmR f' q c := by
  unfold CmR at r ⊢
  rw [h q (by omega) (by omega), h (q + 1) (by omega) (by omega), h (q + 2) (by omega) (by omega), h (q + 3) (by omega) (by omega)]
  exact r
theorem pt_ok {sg : Nat → Fin 65536} {len : Nat} {ps : List Pt} {s : MS} (h : (rnS sg len ps s).1 = false) : s.1 = false := by
  cases e : s.1 with
  | false => rfl
  | true => rw [ms_eta _ _ e, rnS_w] at h; cases h
theorem fe_ok {sg : Nat → Fin 65536} {len : Nat} {s : MS} (h : (stF sg len s).1 = false) : bhd sg len s.2 = nI (sg s.2).val := by
  cases e : s.1 with
  | true => rw [ms_eta _ _ e, stF_w] at h; cases h
  | false =>
    rw [ms_eta _ _ e] at h
    have e1 : stF sg len (false, s.2) = if s.2 < len ∧ inB (nI (sg s.2).val) 97 104 = true then (false, s.2 + 1) else (true, s.2) := if_neg nff
    rw [e1] at h
    by_cases c : s.2 < len ∧ inB (nI (sg s.2).val) 97 104 = true
    · exact if_pos c.1
    · rw [if_neg c] at h; cases h
theorem kOf_cs {sg : Nat → Fin 65536} {len t : Nat} (h : (rnS sg len (KP (kOf sg len t)) (false, t)).1 = false) : (kOf sg len t = 0 ∧ wdI sg len t = nI 108) ∨ (kOf sg len t = 1 ∧ wdI sg len t = nI 112) ∨ (kOf sg len t = 2 ∧ wdI sg len t = nI 115) ∨ (kOf sg len t = 3 ∧ wdI sg len t = nI 98) ∨ (kOf sg len t = 4 ∧ wdI sg len t = nI 117) ∨ (kOf sg len t = 5 ∧ wdI sg len t = nI 109) ∨ (kOf sg len t = 6 ∧ wdI sg len t = nI 101) ∨ (kOf sg len t = 7 ∧ wdI sg len t = nI 111) ∨ (kOf sg len t = 8 ∧ wdI sg len t = nI 114) ∨ (kOf sg len t = 9 ∧ wdI sg len t = nI 105) := by
  by_cases e : bhd sg len t = nI (flC (kOf sg len t))
  · have hk := kOf_lt sg len t
    unfold wdI
    rcases ten hk with q | q | q | q | q | q | q | q | q | q
    · rw [q] at e
      have e : bhd sg len t = nI 112 := e
      by_cases r : bhd sg len (t + 1) = nI 108
      · exact .inl ⟨q, if_pos ⟨e, r⟩⟩
      · unfold kOf at q; rw [if_pos e, if_neg r] at q; cases q
    · rw [q] at e
      have e : bhd sg len t = nI 112 := e
      by_cases r : bhd sg len (t + 1) = nI 108
      · unfold kOf at q; rw [if_pos e, if_pos r] at q; cases q
      · exact .inr (.inl ⟨q, by rw [if_neg (fun z => r z.2), e, if_neg (fun z => absurd z.1 (by decide))]⟩)
    · rw [q] at e
      have e : bhd sg len t = nI 115 := e
      exact .inr (.inr (.inl ⟨q, by rw [e, if_neg (fun z => absurd z.1 (by decide)), if_neg (fun z => absurd z.1 (by decide))]⟩))
    · rw [q] at e
      have e : bhd sg len t = nI 98 := e
      exact .inr (.inr (.inr (.inl ⟨q, by rw [e, if_neg (fun z => absurd z.1 (by decide)), if_neg (fun z => absurd z.1 (by decide))]⟩)))
    · rw [q] at e
      have e : bhd sg len t = nI 117 := e
      exact .inr (.inr (.inr (.inr (.inl ⟨q, by rw [e, if_neg (fun z => absurd z.1 (by decide)), if_neg (fun z => absurd z.1 (by decide))]⟩))))
    · rw [q] at e
      have e : bhd sg len t = nI 109 := e
      by_cases r : bhd sg len (t + 1) = nI 101
      · unfold kOf at q; rw [e, if_pos r] at q; cases q
      · exact .inr (.inr (.inr (.inr (.inr (.inl ⟨q, by rw [e, if_neg (fun z => absurd z.1 (by decide)), if_neg (fun z => r z.2)]⟩)))))
    · rw [q] at e
      have e : bhd sg len t = nI 109 := e
      by_cases r : bhd sg len (t + 1) = nI 101
      · exact .inr (.inr (.inr (.inr (.inr (.inr (.inl ⟨q, by rw [e, if_neg (fun z => absurd z.1 (by decide)), if_pos ⟨rfl, r⟩]⟩))))))
      · unfold kOf at q; rw [e, if_neg r] at q; cases q
    · rw [q] at e
      have e : bhd sg len t = nI 111 := e
      exact .inr (.inr (.inr (.inr (.inr (.inr (.inr (.inl ⟨q, by rw [e, if_neg (fun z => absurd z.1 (by decide)), if_neg (fun z => absurd z.1 (by decide))]⟩)))))))
    · rw [q] at e
      have e : bhd sg len t = nI 114 := e
      exact .inr (.inr (.inr (.inr (.inr (.inr (.inr (.inr (.inl ⟨q, by rw [e, if_neg (fun z => absurd z.1 (by decide)), if_neg (fun z => absurd z.1 (by decide))]⟩))))))))
    · rw [q] at e
      have e : bhd sg len t = nI 105 := e
      exact .inr (.inr (.inr (.inr (.inr (.inr (.inr (.inr (.inr ⟨q, by rw [e, if_neg (fun z => absurd z.1 (by decide)), if_neg (fun z => absurd z.1 (by decide))]⟩))))))))
  · rw [KP_no (kOf_lt sg len t) e] at h
    cases h
theorem cm_ok {sg : Nat → Fin 65536} {len t q : Nat} {f : Nat → Int32} (h : (rnS sg len (KP (kOf sg len t)) (false, t)).1 = false) (hw : f q = wdI sg len t) (hr : Rws sg len f (q + 1) (KP (kOf sg len t)) (false, t)) (a b : Int32) (e : Fin 65536) : CmR f q (rnC sg len (KP (kOf sg len t)) (false, t) (kOf sg len t, a, b, e, 0)) := by
  rcases kOf_cs h with ⟨k, w⟩ | ⟨k, w⟩ | ⟨k, w⟩ | ⟨k, w⟩ | ⟨k, w⟩ | ⟨k, w⟩ | ⟨k, w⟩ | ⟨k, w⟩ | ⟨k, w⟩ | ⟨k, w⟩
  · rw [w] at hw; rw [k] at hr h ⊢
    have fe := fe_ok (sg := sg) (len := len) (s := stN sg len 1 (stL sg len [112, 108, 97, 110, 116, 32] (false, t))) (pt_ok (ps := [(0, [64]), (3, [])]) h)
    obtain ⟨r1, r2, r3, -⟩ : f (q + 1) = _ ∧ f (q + 1 + 1) = _ ∧ f (q + 1 + 1 + 1) = _ ∧ True := hr
    exact And.intro hw (And.intro r1 (And.intro (r2.trans fe) r3))
  · rw [w] at hw; rw [k] at hr h ⊢
    obtain ⟨r1, -⟩ : f (q + 1) = _ ∧ True := hr
    exact And.intro hw r1
  · rw [w] at hw; rw [k] at hr h ⊢
    obtain ⟨r1, r2, -⟩ : f (q + 1) = _ ∧ f (q + 1 + 1) = _ ∧ True := hr
    exact And.intro hw (And.intro r1 r2)
  · rw [w] at hw; rw [k] at hr h ⊢
    obtain ⟨r1, r2, -⟩ : f (q + 1) = _ ∧ f (q + 1 + 1) = _ ∧ True := hr
    exact And.intro hw (And.intro r1 r2)
  · rw [w] at hw; rw [k] at hr h ⊢
    obtain ⟨r1, -⟩ : f (q + 1) = _ ∧ True := hr
    exact And.intro hw r1
  · rw [w] at hw; rw [k] at hr h ⊢
    obtain ⟨r1, r2, -⟩ : f (q + 1) = _ ∧ f (q + 1 + 1) = _ ∧ True := hr
    exact And.intro hw (And.intro r1 r2)
  · rw [w] at hw; rw [k] at hr h ⊢
    obtain ⟨r1, r2, -⟩ : f (q + 1) = _ ∧ f (q + 1 + 1) = _ ∧ True := hr
    exact And.intro hw (And.intro r1 r2)
  · rw [w] at hw; rw [k] at hr h ⊢
    obtain ⟨r1, -⟩ : f (q + 1) = _ ∧ True := hr
    exact And.intro hw r1
  · rw [w] at hw; rw [k] at hr h ⊢
    have fe := fe_ok (sg := sg) (len := len) (s := stL sg len [114, 101, 99, 97, 108, 108, 32] (false, t)) h
    obtain ⟨r1, -⟩ : f (q + 1) = _ ∧ True := hr
    exact And.intro hw (r1.trans fe)
  · rw [w] at hw; rw [k] at hr h ⊢
    have fe := fe_ok (sg := sg) (len := len) (s := stL sg len [105, 110, 107, 32] (false, t)) (pt_ok (ps := [(0, [43]), (3, [])]) h)
    obtain ⟨r1, r2, -⟩ : f (q + 1) = _ ∧ f (q + 1 + 1) = _ ∧ True := hr
    exact And.intro hw (And.intro (r1.trans fe) r2)
