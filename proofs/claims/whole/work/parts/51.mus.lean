theorem s1_answersOfAll {M : MS} (hw : wf M) {Q : Int → Prop} (h : Q (mAnsAll M)) : wX1_answersOfAll M Q := by
  have hg := hw.gs
  refine gFor (fun n i acc => wX1_answersOfAll_4 M Q n acc i) (M 0 7) (fun i acc => acc = sumI (mAns M) i.toNat) (fun n i acc i0 i1 hp ih => ?_) (fun n acc hp => ?_) 0 ⟨by omega, by omega⟩ 0 rfl
  · rw [wX1_answersOfAll_4_s]
    refine ⟨by omega, by omega, fun c => by omega, fun c => s1_answersOf hw i0 (by omega) (fun v e v2 e2 => ?_)⟩
    subst e e2; exact ih _ (by rw [sumI_s _ i0, hp])
  · rw [wX1_answersOfAll_4_s]
    exact ⟨by omega, by omega, fun _ => by rw [hp]; exact h, fun c => by omega⟩
theorem s1_rightOfAll {M : MS} (hw : wf M) {Q : Int → Prop} (h : Q (mRightAll M)) : wX1_rightOfAll M Q := by
  have hg := hw.gs
  refine gFor (fun n i acc => wX1_rightOfAll_4 M Q n acc i) (M 0 7) (fun i acc => acc = sumI (mRight M) i.toNat) (fun n i acc i0 i1 hp ih => ?_) (fun n acc hp => ?_) 0 ⟨by omega, by omega⟩ 0 rfl
  · rw [wX1_rightOfAll_4_s]
    refine ⟨by omega, by omega, fun c => by omega, fun c => s1_rightOf hw i0 (by omega) (fun v e v2 e2 => ?_)⟩
    subst e e2; exact ih _ (by rw [sumI_s _ i0, hp])
  · rw [wX1_rightOfAll_4_s]
    exact ⟨by omega, by omega, fun _ => by rw [hp]; exact h, fun c => by omega⟩
theorem s1_copiedByAll {M : MS} (hw : wf M) {Q : Int → Prop} (h : Q (mCopiedAll M)) : wX1_copiedByAll M Q := by
  have hg := hw.gs
  refine gFor (fun n i acc => wX1_copiedByAll_4 M Q n acc i) (M 0 7) (fun i acc => acc = sumI (mCopied M) i.toNat) (fun n i acc i0 i1 hp ih => ?_) (fun n acc hp => ?_) 0 ⟨by omega, by omega⟩ 0 rfl
  · rw [wX1_copiedByAll_4_s]
    refine ⟨by omega, by omega, fun c => by omega, fun c => s1_copiedBy hw i0 (by omega) (fun v e v2 e2 => ?_)⟩
    subst e e2; exact ih _ (by rw [sumI_s _ i0, hp])
  · rw [wX1_copiedByAll_4_s]
    exact ⟨by omega, by omega, fun _ => by rw [hp]; exact h, fun c => by omega⟩
theorem s1_groupsAt {M : MS} (hw : wf M) {r : Int} (hr : gR r) {Q : Int → Prop} (h : Q (mAt M r)) : wX1_groupsAt M r Q := by
  have hg := hw.gs
  refine gFor (fun n i acc => wX1_groupsAt_4 M Q n r acc i) (M 0 7) (fun i acc => acc = sumI (fun g => if M 11 g = r then 1 else 0) i.toNat) (fun n i acc i0 i1 hp ih => ?_) (fun n acc hp => ?_) 0 ⟨by omega, by omega⟩ 0 rfl
  · rw [wX1_groupsAt_4_s]
    have ha := (hw.g i0 (by omega)).2.2.2.1
    refine ⟨by omega, by omega, fun c => by omega, fun c => ⟨by omega, by omega, hr, fun c2 v e v2 e2 => ?_, fun c2 v e v2 e2 => ?_⟩⟩
    · subst e e2; exact ih _ (by rw [sumI_s _ i0, if_neg c2, hp])
    · subst e e2; exact ih _ (by rw [sumI_s _ i0, if_pos c2, hp])
  · rw [wX1_groupsAt_4_s]
    exact ⟨by omega, by omega, fun _ => by rw [hp]; exact h, fun c => by omega⟩
theorem s1_nextQuestion {M : MS} (hw : wf M) {g : Int} (h0 : 0 ≤ g) (h1 : g < 5) {Q : Int → Prop} (h : Q (mNext M g)) : wX1_nextQuestion M g Q := by
  have hq := hw.qs
  have hf := (hw.g h0 h1).2.2.1
  refine gFor (fun n i (_ : Unit) => wX1_nextQuestion_2 M Q n g i) (M 0 2) (fun i _ => Q (mNextF (M 10) (M 13) (M 0 2) g (M 0 2 - i).toNat i)) (fun n i _ i0 i1 hp ih => ?_) (fun n _ hp => ?_) 0 ⟨by omega, by omega⟩ () (by rw [show M 0 2 - 0 = M 0 2 by omega]; exact h)
  · rw [wX1_nextQuestion_2_s]
    have hm0 := Int.emod_nonneg (M 10 g + i) (show M 0 2 ≠ 0 by omega)
    have hm1 := Int.emod_lt_of_pos (M 10 g + i) (show 0 < M 0 2 by omega)
    have hs := (hw.s h0 h1 hm0 (by omega)).1
    rw [show (M 0 2 - i).toNat = (M 0 2 - (i + 1)).toNat + 1 by omega] at hp
    refine ⟨by omega, by omega, fun c => by omega, fun c => ⟨by omega, by omega, fun v e => ?_⟩⟩
    subst e
    refine ⟨by omega, by omega, fun c2 v2 e2 => ?_, fun c2 => ?_⟩
    · subst e2
      refine ih () ?_
      unfold mNextF at hp
      rw [if_neg c2] at hp
      exact hp
    · unfold mNextF at hp
      rw [if_pos c2] at hp
      exact hp
  · rw [wX1_nextQuestion_2_s]
    rw [Int.sub_self] at hp
    exact ⟨by omega, by omega, fun _ => hp, fun c => by omega⟩
theorem mNextF_range {M : MS} (hw : wf M) {g : Int} : ∀ (n : Nat) (i : Int), (n : Int) ≤ M 0 2 → 0 ≤ i → mNextF (M 10) (M 13) (M 0 2) g n i = -9 ∨ (0 ≤ mNextF (M 10) (M 13) (M 0 2) g n i ∧ mNextF (M 10) (M 13) (M 0 2) g n i < M 0 2 ∧ M 13 (g * 8 + mNextF (M 10) (M 13) (M 0 2) g n i) = -9) := by
  intro n
  induction n with
  | zero => intro i _ _; exact Or.inl rfl
  | succ n ih =>
    intro i h0 h1
    have hm0 := Int.emod_nonneg (M 10 g + i) (show M 0 2 ≠ 0 by omega)
    have hm1 := Int.emod_lt_of_pos (M 10 g + i) (show 0 < M 0 2 by omega)
    unfold mNextF
    split
    · exact Or.inr ⟨hm0, hm1, by assumption⟩
    · exact ih (i + 1) (by omega) (by omega)
theorem mNext_range {M : MS} (hw : wf M) (g : Int) : mNext M g = -9 ∨ (0 ≤ mNext M g ∧ mNext M g < M 0 2 ∧ M 13 (g * 8 + mNext M g) = -9) := by
  have hq := hw.qs
  exact mNextF_range hw _ 0 (by omega) (by omega)
theorem s1_isDone {M : MS} (hw : wf M) {g : Int} (h0 : 0 ≤ g) (h1 : g < 5) {Q : Int → Prop} (h : Q (if mNext M g = -9 then 1 else 0)) : wX1_isDone M g Q := by
  have hr := mNext_range hw g
  have hq := hw.qs
  refine s1_nextQuestion hw h0 h1 ?_
  refine ⟨by omega, fun c => ?_, fun c => ?_⟩
  · rw [if_neg c] at h; exact h
  · rw [if_pos c] at h; exact h
theorem s1_undone {M : MS} (hw : wf M) {Q : Int → Prop} (h : Q (mUndone M)) : wX1_undone M Q := by
  have hg := hw.gs
  refine gFor (fun n i acc => wX1_undone_4 M Q n acc i) (M 0 7) (fun i acc => acc = sumI (fun g => if mNext M g = -9 then 0 else 1) i.toNat) (fun n i acc i0 i1 hp ih => ?_) (fun n acc hp => ?_) 0 ⟨by omega, by omega⟩ 0 rfl
  · rw [wX1_undone_4_s]
    refine ⟨by omega, by omega, fun c => by omega, fun c => s1_isDone hw i0 (by omega) ?_⟩
    by_cases hd : mNext M i = -9
    · rw [if_pos hd]
      refine ⟨fun c2 => absurd c2 (by decide), fun c2 v e v2 e2 => ?_⟩
      subst e e2; exact ih _ (by rw [sumI_s _ i0, if_pos hd, hp])
    · rw [if_neg hd]
      refine ⟨fun c2 v e v2 e2 => ?_, fun c2 => absurd rfl c2⟩
      subst e e2; exact ih _ (by rw [sumI_s _ i0, if_neg hd, hp])
  · rw [wX1_undone_4_s]
    exact ⟨by omega, by omega, fun _ => by rw [hp]; exact h, fun c => by omega⟩
