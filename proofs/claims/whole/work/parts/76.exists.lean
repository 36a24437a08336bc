/-! what measure makes, is -/
theorem el10 {K2 : Int → Int → AR → Prop} {Q : AR → Prop} : ∀ (n : Nat) (y1 y2 y3 : Int) (fa : AR), wX2_shortenBy_10 K2 Q n y1 y2 y3 fa → ∃ z : AR, K2 y1 (y2 + 1) z := by
  intro n
  induction n with
  | zero => intro y1 y2 y3 fa h; exact False.elim h
  | succ n ih =>
    intro y1 y2 y3 fa h
    rw [wX2_shortenBy_10_s] at h
    obtain ⟨_, h1, h2⟩ := h
    by_cases c : 7 ≤ y3
    · exact ⟨fa, h1 c _ rfl⟩
    · obtain ⟨_, _, h3⟩ := h2 c
      obtain ⟨_, _, _, _, h5⟩ := h3 _ rfl
      exact ih _ _ _ _ (h5 _ rfl _ rfl)
theorem el2 {Q : AR → Prop} : ∀ (n : Nat) (y1 y2 : Int) (fa : AR), wX2_shortenBy_2 Q n y1 y2 fa → ∃ z : AR, Q z := by
  intro n
  induction n with
  | zero => intro y1 y2 fa h; exact False.elim h
  | succ n ih =>
    intro y1 y2 fa h
    rw [wX2_shortenBy_2_s] at h
    obtain ⟨_, h1, h2⟩ := h
    by_cases c : 7 ≤ y2
    · exact ⟨fa, h1 c⟩
    · obtain ⟨k, h3⟩ := h2 c
      obtain ⟨z, hz⟩ := el10 _ _ _ _ _ h3
      exact ih _ _ _ hz
theorem el68 {op : AR} {Q : AR → Prop} : ∀ (n : Nat) (y : Int) (fa : AR), wX2_measure_68 op Q n y fa → ∃ z : AR, Q z := by
  intro n
  induction n with
  | zero => intro y fa h; exact False.elim h
  | succ n ih =>
    intro y fa h
    rw [wX2_measure_68_s] at h
    obtain ⟨_, h1, h2⟩ := h
    by_cases c : 7 ≤ y
    · exact ⟨fa, h1 c⟩
    · obtain ⟨k, h3⟩ := h2 c
      obtain ⟨z, hz⟩ := el2 _ _ _ _ h3
      exact ih _ _ (hz _ rfl)
theorem el42 {op : AR} {Q : AR → Prop} : ∀ (n : Nat) (y : Int) (fa : AR), wX2_measure_42 op Q n y fa → ∃ z : AR, Q z := by
  intro n
  induction n with
  | zero => intro y fa h; exact False.elim h
  | succ n ih =>
    intro y fa h
    rw [wX2_measure_42_s] at h
    obtain ⟨_, h1, h2⟩ := h
    by_cases c : 7 ≤ y
    · obtain ⟨k, h3⟩ := h1 c
      exact el68 _ _ _ h3
    · obtain ⟨_, h3⟩ := h2 c
      exact ih _ _ (h3 _ rfl _ rfl)
theorem elm {op : AR} {Q : AR → Prop} : ∀ (n : Nat) (y : Int) (fa : AR), wX2_measure_2 op Q n y fa → ∃ z : AR, Q z := by
  intro n
  induction n with
  | zero => intro y fa h; exact False.elim h
  | succ n ih =>
    intro y fa h
    rw [wX2_measure_2_s] at h
    obtain ⟨_, h1, h2⟩ := h
    by_cases c : 49 ≤ y
    · obtain ⟨k, h3⟩ := h1 c
      exact el42 _ _ _ h3
    · obtain ⟨_, _, h3, h4⟩ := h2 c
      by_cases c2 : op y = 1
      · obtain ⟨_, h5⟩ := h4 c2
        exact ih _ _ (h5 _ rfl _ rfl)
      · obtain ⟨_, h5⟩ := h3 c2
        exact ih _ _ (h5 _ rfl _ rfl)
theorem far_is {op : AR} (ho : wfO op) : ∃ f : AR, wfR op f := by
  obtain ⟨k, h⟩ := s2_measure (fa := fun _ => 0) ho (Q := fun z => wfR op z) (fun z hz => hz)
  exact elm k 0 _ h
/-- the far of some doors: any, for it is one -/
noncomputable def mFarB (op : AR) : AR := Classical.epsilon (α := Int → Int) (fun f => wfR op f)
theorem mFarB_is {op : AR} (ho : wfO op) : wfR op (mFarB op) := Classical.epsilon_spec (p := fun f : Int → Int => wfR op f) (far_is ho)
