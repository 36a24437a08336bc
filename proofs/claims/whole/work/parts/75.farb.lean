theorem mGo_3 (M : MS) (g q : Int) : mGo M g q 3 = M 3 := by
  unfold mGo
  by_cases c1 : M 11 g = M 6 q
  · rw [if_pos c1]
    by_cases c2 : M 12 g + 1 < mMin M q
    · rw [if_pos c2]; rfl
    · rw [if_neg c2]; rfl
  · rw [if_neg c1]; rfl
theorem mStep_3 (M : MS) (g : Int) : mStep M g 3 = M 3 := by
  unfold mStep
  by_cases c : mNext M g = -9
  · rw [if_pos c]
  · rw [if_neg c]; exact mGo_3 M g _
theorem mMinF_3 : ∀ (n : Nat) (g : Int) (M : MS), mMinF n g M 3 = M 3 := by
  intro n
  induction n with
  | zero => intro g M; rfl
  | succ n ih => intro g M; exact (ih (g + 1) (mStep M g)).trans (mStep_3 M g)
theorem mMinute_3 (M : MS) : mMinute M 3 = M 3 := mMinF_3 _ 0 _
theorem mStep_far {M : MS} (hw : wf M) {f : AR} (e : ∀ a t : Int, 0 ≤ a → a < 7 → 0 ≤ t → t < 7 → f (a * 7 + t) = M 3 (a * 7 + t)) {g : Int} (g0 : 0 ≤ g) (g1 : g < 5) : mStep (uc M 3 f) g = uc (mStep M g) 3 f := by
  have en : mNext (uc M 3 f) g = mNext M g := rfl
  have hq := hw.qs
  unfold mStep
  rw [en]
  by_cases c : mNext M g = -9
  · rw [if_pos c, if_pos c]
  · rw [if_neg c, if_neg c]
    rcases mNext_range hw g with z | z
    · exact absurd z c
    · exact mGo_far hw e g0 g1 z.1 (by omega)
theorem mMinF_far {f : AR} : ∀ (n : Nat) (g : Int) (M : MS), wf M → (∀ a t : Int, 0 ≤ a → a < 7 → 0 ≤ t → t < 7 → f (a * 7 + t) = M 3 (a * 7 + t)) → 0 ≤ g → g + n ≤ M 0 7 → mMinF n g (uc M 3 f) = uc (mMinF n g M) 3 f := by
  intro n
  induction n with
  | zero => intro g M _ _ _ _; rfl
  | succ n ih =>
    intro g M hw e g0 g1
    have hg := hw.gs
    show mMinF n (g + 1) (mStep (uc M 3 f) g) = uc (mMinF n (g + 1) (mStep M g)) 3 f
    rw [mStep_far hw e g0 (by omega)]
    exact ih (g + 1) (mStep M g) (wf_step hw ⟨g0, by omega⟩) (by rw [mStep_3]; exact e) (by omega) (by rw [mStep_size]; omega)
theorem mMinute_far {M : MS} (hw : wf M) {f : AR} (e : ∀ a t : Int, 0 ≤ a → a < 7 → 0 ≤ t → t < 7 → f (a * 7 + t) = M 3 (a * 7 + t)) : mMinute (uc M 3 f) = uc (mMinute M) 3 f := by
  show mMinF (M 0 7).toNat 0 (st (uc M 3 f) 0 1 (M 0 1 + 1)) = _
  rw [uc3 _ _ _ _ _ (by decide)]
  exact mMinF_far (M 0 7).toNat 0 (st M 0 1 (M 0 1 + 1)) (wf_min hw _) e (by omega) (by have := hw.gs; show (0 : Int) + ((M 0 7).toNat : Int) ≤ M 0 7; omega)
theorem tillAll_far {f : AR} : ∀ (n : Nat) (M : MS), wf M → (∀ a t : Int, 0 ≤ a → a < 7 → 0 ≤ t → t < 7 → f (a * 7 + t) = M 3 (a * 7 + t)) → mTillF mUndone n (uc M 3 f) = mTillF mUndone n M := by
  intro n
  induction n with
  | zero => intro M _ _; rfl
  | succ n ih =>
    intro M hw e
    have eu : mUndone (uc M 3 f) = mUndone M := rfl
    unfold mTillF
    rw [eu, mMinute_far hw e, ih (mMinute M) (wf_minute hw) (by rw [mMinute_3]; exact e)]
theorem gor_bit {x : Int} (hx : 0 ≤ x) (b c : Nat) : (gor x (1 * 2 ^ b) / 2 ^ c) % (1 + 1) = if b = c then 1 else (x / 2 ^ c) % (1 + 1) := by
  obtain ⟨n, rfl⟩ := Int.eq_ofNat_of_zero_le hx
  unfold gor
  rw [pw2n, Int.toNat_natCast, natBit, natBit, ← Nat.toNat_testBit, ← Nat.toNat_testBit, Nat.testBit_or, Nat.testBit_two_pow]
  by_cases e : b = c
  · rw [if_pos e, decide_eq_true e]
    cases n.testBit c <;> rfl
  · rw [if_neg e, decide_eq_false e]
    cases n.testBit c <;> rfl
theorem gor_small7 {x : Int} (hx : 0 ≤ x ∧ x ≤ 127) {b : Int} (b0 : 0 ≤ b) (b1 : b < 7) : 0 ≤ gor x (1 * 2 ^ b.toNat) ∧ gor x (1 * 2 ^ b.toNat) ≤ 127 := by
  have h := pw2 b0 b1
  have h2 : x.toNat ||| ((1 : Int) * 2 ^ b.toNat).toNat < 2 ^ 7 := Nat.or_lt_two_pow (by omega) (by omega)
  have h3 : gor x (1 * 2 ^ b.toNat) = ((x.toNat ||| ((1 : Int) * 2 ^ b.toNat).toNat : Nat) : Int) := rfl
  omega
/-- a door more -/
theorem Rep.opened {M : MS} {r : AR} (hw : wf M) (h : Rep M r) {a b : Int} (ha : 0 ≤ a ∧ a < 7) (hb : 0 ≤ b ∧ b < 7) (hab : ¬ a = b) (fa : AR) : Rep (uc (uc M 2 (su (su (M 2) ((a * 7) + b) 1) ((b * 7) + a) 1)) 3 fa) (su (su r (3 + a) (gor (r (3 + a)) ((1 : Int) * 2 ^ b.toNat))) (3 + b) (gor (r (3 + b)) ((1 : Int) * 2 ^ a.toNat))) := by
  refine h.doors hw fa (fun c d c0 c1 d0 d1 => ?_) (fun i i0 i1 i2 => by rw [su_ne _ _ (by omega), su_ne _ _ (by omega)])
  have k := h.d c0 c1 d0 d1
  rw [su2_at _ ha hb 1 ⟨c0, c1⟩ ⟨d0, d1⟩]
  by_cases e1 : c = b
  · subst e1
    rw [su_at]
    refine ⟨gor_small7 k.1 ha.1 ha.2, ?_⟩
    rw [gor_bit k.1.1]
    by_cases e2 : d = a
    · subst e2
      rw [if_pos rfl, if_pos (Or.inr ⟨rfl, rfl⟩)]
    · rw [if_neg (by omega), if_neg (by omega), k.2]
  · rw [su_ne _ _ (by omega)]
    by_cases e3 : c = a
    · subst e3
      rw [su_at]
      refine ⟨gor_small7 k.1 hb.1 hb.2, ?_⟩
      rw [gor_bit k.1.1]
      by_cases e2 : d = b
      · subst e2
        rw [if_pos rfl, if_pos (Or.inl ⟨rfl, rfl⟩)]
      · rw [if_neg (by omega), if_neg (by omega), k.2]
    · rw [su_ne _ _ (by omega), if_neg (by omega)]
      exact k
