/-! how far it is, is one thing -/
theorem far_le {op f f' : AR} (h : wfR op f) (h' : wfR op f') {t : Int} (t0 : 0 ≤ t) (t1 : t < 7) : ∀ (n : Nat) (a : Int), 0 ≤ a → a < 7 → f (a * 7 + t) = n → f' (a * 7 + t) ≤ n := by
  intro n
  induction n with
  | zero =>
    intro a a0 a1 e
    by_cases c : a = t
    · have := (h'.1 t t t0 t1 t0 t1).2.2.2.2.1
      rw [c]; omega
    · have := (h.1 a t a0 a1 t0 t1).2.2.2.2.2 c
      omega
  | succ n ih =>
    intro a a0 a1 e
    have r' := (h'.1 a t a0 a1 t0 t1).2.2.2.1
    by_cases c : a = t
    · have := (h.1 t t t0 t1 t0 t1).2.2.2.2.1
      rw [c] at e; omega
    · rcases h.2.2.1 a t a0 a1 t0 t1 c with z | ⟨b, b0, b1, ho, hb⟩
      · omega
      · have k := ih b b0 b1 (by omega)
        have := h'.2.1 a b t a0 a1 b0 b1 t0 t1 ho
        omega
theorem far_one {op f f' : AR} (h : wfR op f) (h' : wfR op f') {a t : Int} (a0 : 0 ≤ a) (a1 : a < 7) (t0 : 0 ≤ t) (t1 : t < 7) : f (a * 7 + t) = f' (a * 7 + t) := by
  have r := (h.1 a t a0 a1 t0 t1).2.2.2.1
  have r' := (h'.1 a t a0 a1 t0 t1).2.2.2.1
  have k := far_le h h' t0 t1 (f (a * 7 + t)).toNat a a0 a1 (by omega)
  have k' := far_le h' h t0 t1 (f' (a * 7 + t)).toNat a a0 a1 (by omega)
  omega
theorem mTowF_far {op f f' : AR} {a t : Int} (ha : 0 ≤ a ∧ a < 7) (ht : 0 ≤ t ∧ t < 7) (e : ∀ a t : Int, 0 ≤ a → a < 7 → 0 ≤ t → t < 7 → f' (a * 7 + t) = f (a * 7 + t)) : ∀ (n : Nat) (k : Int), 0 ≤ k → k + n ≤ 7 → mTowF op f' a t n k = mTowF op f a t n k := by
  intro n
  induction n with
  | zero => intro k _ _; rfl
  | succ n ih =>
    intro k k0 k1
    unfold mTowF
    rw [e k t k0 (by omega) ht.1 ht.2, e a t ha.1 ha.2 ht.1 ht.2, ih (k + 1) (by omega) (by omega)]
theorem uc3 (M : MS) (c : Nat) (i v : Int) (f : AR) (h : ¬ c = 3) : st (uc M 3 f) c i v = uc (st M c i v) 3 f := by
  funext d j
  by_cases h1 : d = 3
  · subst h1
    have h2 : ¬ 3 = c := fun z => h z.symm
    simp [st, uc, h2]
  · by_cases h2 : d = c
    · subst h2; simp [st, uc, h1]
    · simp [st, uc, h1, h2]
theorem mGo_far {M : MS} (hw : wf M) {f : AR} (e : ∀ a t : Int, 0 ≤ a → a < 7 → 0 ≤ t → t < 7 → f (a * 7 + t) = M 3 (a * 7 + t)) {g q : Int} (g0 : 0 ≤ g) (g1 : g < 5) (q0 : 0 ≤ q) (q1 : q < 8) : mGo (uc M 3 f) g q = uc (mGo M g q) 3 f := by
  have ha := (hw.g g0 g1).2.2.2.1
  have hb := (hw.q q0 q1).2.2.1
  have et : mTow ((uc M 3 f) 2) ((uc M 3 f) 3) ((uc M 3 f) 11 g) ((uc M 3 f) 6 q) = mTow (M 2) (M 3) (M 11 g) (M 6 q) := mTowF_far (op := M 2) ha hb e 7 0 (by omega) (by omega)
  unfold mGo
  rw [et]
  show (if M 11 g = M 6 q then (if M 12 g + 1 < mMin M q then st (uc M 3 f) 12 g (M 12 g + 1) else st (st (st (st (uc M 3 f) 12 g (M 12 g + 1)) 12 g 0) 14 (g * 8 + q) (mFrom M g q)) 13 (g * 8 + q) (mVal M g q)) else st (st (uc M 3 f) 11 g (mTow (M 2) (M 3) (M 11 g) (M 6 q))) 12 g 0) = _
  by_cases c1 : M 11 g = M 6 q
  · rw [if_pos c1, if_pos c1]
    by_cases c2 : M 12 g + 1 < mMin M q
    · rw [if_pos c2, if_pos c2, uc3 _ _ _ _ _ (by decide)]
    · rw [if_neg c2, if_neg c2, uc3 _ _ _ _ _ (by decide), uc3 _ _ _ _ _ (by decide), uc3 _ _ _ _ _ (by decide), uc3 _ _ _ _ _ (by decide)]
  · rw [if_neg c1, if_neg c1, uc3 _ _ _ _ _ (by decide), uc3 _ _ _ _ _ (by decide)]
