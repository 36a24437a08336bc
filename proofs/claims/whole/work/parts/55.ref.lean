/-! the reference's reads of one row -/
theorem s4_answersOf {M : MS} {r : AR} (hw : wf M) (hR : Rep M r) {g : Int} (g0 : 0 ≤ g) (g1 : g < M 0 7) {Q : Int → Prop} (h : Q (mAns M g)) : wX4_answersOf r g Q := by
  have hq := hw.qs
  have hgs := hw.gs
  have r0 := hR.1
  refine gFor (fun n i acc => wX4_answersOf_4 r Q n g acc i) (M 0 2) (fun i acc => acc = sumI (fun q => if M 13 (g * 8 + q) = -9 then 0 else 1) i.toNat) (fun n i acc i0 i1 hp ih => ?_) (fun n acc hp => ?_) 0 ⟨by omega, by omega⟩ 0 rfl
  · rw [wX4_answersOf_4_s]
    have hs := (hw.s g0 (by omega) i0 (by omega)).1
    have e := hR.s g0 g1 i0 i1
    dsimp only [wX4_sheetOf]
    refine ⟨by omega, by omega, fun c => by omega, fun c => ⟨by omega, by omega, fun c2 v e1 v2 e2 => ?_, fun c2 v e1 v2 e2 => ?_⟩⟩
    · subst e1 e2; exact ih _ (by rw [sumI_s _ i0, if_pos (by omega), hp])
    · subst e1 e2; exact ih _ (by rw [sumI_s _ i0, if_neg (by omega), hp])
  · rw [wX4_answersOf_4_s]
    exact ⟨by omega, by omega, fun _ => by rw [hp]; exact h, fun c => by omega⟩
theorem s4_rightOf {M : MS} {r : AR} (hw : wf M) (hR : Rep M r) {g : Int} (g0 : 0 ≤ g) (g1 : g < M 0 7) {Q : Int → Prop} (h : Q (mRight M g)) : wX4_rightOf r g Q := by
  have hq := hw.qs
  have hgs := hw.gs
  have r0 := hR.1
  refine gFor (fun n i acc => wX4_rightOf_4 r Q n g acc i) (M 0 2) (fun i acc => acc = sumI (fun q => if M 13 (g * 8 + q) = M 7 q then 1 else 0) i.toNat) (fun n i acc i0 i1 hp ih => ?_) (fun n acc hp => ?_) 0 ⟨by omega, by omega⟩ 0 rfl
  · rw [wX4_rightOf_4_s]
    have hs := (hw.s g0 (by omega) i0 (by omega)).1
    have hf := (hw.q i0 (by omega)).2.2.2
    have e := hR.s g0 g1 i0 i1
    have e3 := (hR.q i0 i1).2.2.2
    dsimp only [wX4_sheetOf, wX4_ask]
    refine ⟨by omega, by omega, fun c => by omega, fun c => ⟨by omega, by omega, by omega, by omega, fun c2 v e1 v2 e2 => ?_, fun c2 v e1 v2 e2 => ?_⟩⟩
    · subst e1 e2; exact ih _ (by rw [sumI_s _ i0, if_neg (by omega), hp])
    · subst e1 e2; exact ih _ (by rw [sumI_s _ i0, if_pos (by omega), hp])
  · rw [wX4_rightOf_4_s]
    exact ⟨by omega, by omega, fun _ => by rw [hp]; exact h, fun c => by omega⟩
theorem s4_copiedOf {M : MS} {r : AR} (hw : wf M) (hR : Rep M r) (hF : RepF M r) {g : Int} (g0 : 0 ≤ g) (g1 : g < M 0 7) {Q : Int → Prop} (h : Q (mCopied M g)) : wX4_copiedOf r g Q := by
  have hq := hw.qs
  have hgs := hw.gs
  have r0 := hR.1
  refine gFor (fun n i acc => wX4_copiedOf_4 r Q n g acc i) (M 0 2) (fun i acc => acc = sumI (fun q => if M 14 (g * 8 + q) = -9 then 0 else 1) i.toNat) (fun n i acc i0 i1 hp ih => ?_) (fun n acc hp => ?_) 0 ⟨by omega, by omega⟩ 0 rfl
  · rw [wX4_copiedOf_4_s]
    have hs := (hw.s g0 (by omega) i0 (by omega)).2.1
    have e := hF g i g0 g1 i0 i1
    dsimp only [wX4_fromOf]
    refine ⟨by omega, by omega, fun c => by omega, fun c => ⟨by omega, by omega, fun c2 v e1 v2 e2 => ?_, fun c2 v e1 v2 e2 => ?_⟩⟩
    · subst e1 e2; exact ih _ (by rw [sumI_s _ i0, if_pos (by omega), hp])
    · subst e1 e2; exact ih _ (by rw [sumI_s _ i0, if_neg (by omega), hp])
  · rw [wX4_copiedOf_4_s]
    exact ⟨by omega, by omega, fun _ => by rw [hp]; exact h, fun c => by omega⟩
theorem s4_rightAll {M : MS} {r : AR} (hw : wf M) (hR : Rep M r) {Q : Int → Prop} (h : Q (mRightAll M)) : wX4_rightAll r Q := by
  have hg := hw.gs
  have r1 := hR.2.1
  refine gFor (fun n i acc => wX4_rightAll_4 r Q n acc i) (M 0 7) (fun i acc => acc = sumI (mRight M) i.toNat) (fun n i acc i0 i1 hp ih => ?_) (fun n acc hp => ?_) 0 ⟨by omega, by omega⟩ 0 rfl
  · rw [wX4_rightAll_4_s]
    refine ⟨by omega, by omega, fun c => by omega, fun c => s4_rightOf hw hR i0 i1 (fun v e v2 e2 => ?_)⟩
    subst e e2; exact ih _ (by rw [sumI_s _ i0, hp])
  · rw [wX4_rightAll_4_s]
    exact ⟨by omega, by omega, fun _ => by rw [hp]; exact h, fun c => by omega⟩
theorem s4_nextOf {M : MS} {r : AR} (hw : wf M) (hR : Rep M r) {g : Int} (g0 : 0 ≤ g) (g1 : g < M 0 7) {Q : Int → Prop} (h : Q (mNext M g)) : wX4_nextOf r g Q := by
  have hq := hw.qs
  have hgs := hw.gs
  have hf := (hw.g g0 (by omega)).2.2.1
  have r0 := hR.1
  have e2 := (hR.g g0 g1).2.2.1
  refine gFor (fun n i (_ : Unit) => wX4_nextOf_2 r Q n g i) (M 0 2) (fun i _ => Q (mNextF (M 10) (M 13) (M 0 2) g (M 0 2 - i).toNat i)) (fun n i _ i0 i1 hp ih => ?_) (fun n _ hp => ?_) 0 ⟨by omega, by omega⟩ () (by rw [show M 0 2 - 0 = M 0 2 by omega]; exact h)
  · rw [wX4_nextOf_2_s]
    dsimp only [wX4_of, wX4_sheetOf]
    have hm0 := Int.emod_nonneg (M 10 g + i) (show M 0 2 ≠ 0 by omega)
    have hm1 := Int.emod_lt_of_pos (M 10 g + i) (show 0 < M 0 2 by omega)
    have hs := (hw.s g0 (by omega) hm0 (by omega)).1
    have es := hR.s g0 g1 hm0 hm1
    rw [show (M 0 2 - i).toNat = (M 0 2 - (i + 1)).toNat + 1 by omega] at hp
    rw [r0, e2]
    refine ⟨by omega, by omega, fun c => by omega, fun c => ⟨by omega, by omega, fun v e => ?_⟩⟩
    subst e
    rw [es]
    refine ⟨by omega, by omega, fun c2 v2 e2 => ?_, fun c2 => ?_⟩
    · subst e2
      refine ih () ?_
      unfold mNextF at hp
      rw [if_neg (by omega)] at hp
      exact hp
    · unfold mNextF at hp
      rw [if_pos (by omega)] at hp
      exact hp
  · rw [wX4_nextOf_2_s]
    rw [Int.sub_self] at hp
    exact ⟨by omega, by omega, fun _ => hp, fun c => by omega⟩
theorem s4_other {M : MS} {r : AR} (hw : wf M) (r1 : r 1 = M 0 7) (ra : ∀ k : Int, 0 ≤ k → k < M 0 7 → r ((42 + (5 * k)) + 3) = M 11 k) (rs : ∀ k j : Int, 0 ≤ k → k < M 0 7 → 0 ≤ j → j < M 0 2 → r ((67 + (8 * k)) + j) = M 13 (k * 8 + j)) {g q : Int} (g0 : 0 ≤ g) (g1 : g < M 0 7) (q0 : 0 ≤ q) (q1 : q < M 0 2) {Q : Int → Prop} (h : Q (mSrc M g q)) : wX4_other r g q Q := by
  have hq := hw.qs
  have hgs := hw.gs
  have e3 := ra g g0 g1
  refine gFor (fun n i (_ : Unit) => wX4_other_2 r Q n g q i) (M 0 7) (fun i _ => Q (mSrcF (M 11) (M 13) g q (M 0 7 - i).toNat i)) (fun n i _ i0 i1 hp ih => ?_) (fun n _ hp => ?_) 0 ⟨by omega, by omega⟩ () (by rw [show M 0 7 - 0 = M 0 7 by omega]; exact h)
  · rw [wX4_other_2_s]
    dsimp only [wX4_of, wX4_sheetOf]
    have ha := (hw.g i0 (by omega)).2.2.2.1
    have hb := (hw.g g0 (by omega)).2.2.2.1
    have hs := (hw.s i0 (by omega) q0 (by omega)).1
    have e4 := ra i i0 i1
    have e5 := rs i q i0 i1 q0 q1
    rw [show (M 0 7 - i).toNat = (M 0 7 - (i + 1)).toNat + 1 by omega] at hp
    unfold mSrcF at hp
    refine ⟨by omega, by omega, fun c => by omega, fun c => ⟨by omega, fun c2 v e => ?_, fun c2 => ⟨by omega, by omega, by omega, by omega, fun c3 v e => ?_, fun c3 => ⟨by omega, by omega, fun c4 v e => ?_, fun c4 => ?_⟩⟩⟩⟩
    · subst e; rw [if_neg (fun z => z.1 c2)] at hp; exact ih () hp
    · subst e; rw [if_neg (fun z => c3 (by omega))] at hp; exact ih () hp
    · subst e; rw [if_neg (fun z => z.2.2 (by omega))] at hp; exact ih () hp
    · rw [if_pos ⟨c2, by omega, by omega⟩] at hp; exact hp
  · rw [wX4_other_2_s]
    rw [Int.sub_self] at hp
    exact ⟨by omega, by omega, fun _ => hp, fun c => by omega⟩
theorem s4_minutesOf {M : MS} {r : AR} {q : Int} (h0 : 0 ≤ q) (h1 : q < 8) (hk : 0 ≤ M 4 q ∧ M 4 q ≤ 5) (e0 : r ((10 + (4 * q)) + 0) = M 4 q) (e1 : r ((10 + (4 * q)) + 1) = M 5 q) {Q : Int → Prop} (h : Q (mMin M q)) : wX4_minutesOf r q Q := by
  unfold mMin at h
  unfold wX4_minutesOf
  dsimp only [wX4_ask]
  rw [e0, e1]
  refine ⟨by omega, by omega, fun c => ⟨by omega, ?_⟩, fun c => ?_, fun c => ?_, fun c => ⟨by omega, ?_⟩, fun c => ?_, fun c => ?_⟩
  · rw [if_pos (Or.inl c)] at h; exact h
  · rw [if_neg (by omega), if_neg (by omega), if_neg (by omega)] at h; exact h
  · rw [if_neg (by omega), if_pos c] at h; exact h
  · rw [if_pos (Or.inr c)] at h; exact h
  · rw [if_neg (by omega), if_neg (by omega), if_pos c] at h; exact h
  · rw [if_neg (by omega), if_neg (by omega), if_neg (by omega)] at h; exact h
/-! done: no question without an answer -/
theorem mNextF_none {fi sh : AR} {qs g : Int} (hq : 0 < qs) : ∀ (n : Nat) (i : Int), mNextF fi sh qs g n i = -9 ↔ ∀ j : Int, i ≤ j → j < i + n → ¬ sh (g * 8 + (fi g + j) % qs) = -9 := by
  intro n
  induction n with
  | zero => intro i; exact ⟨fun _ j h1 h2 => by omega, fun _ => rfl⟩
  | succ n ih =>
    intro i
    have hm0 := Int.emod_nonneg (fi g + i) (show qs ≠ 0 by omega)
    unfold mNextF
    split
    · rename_i c
      exact ⟨fun h => by omega, fun h => absurd c (h i (by omega) (by omega))⟩
    · rename_i c
      rw [ih (i + 1)]
      refine ⟨fun h j h1 h2 => ?_, fun h j h1 h2 => h j (by omega) (by omega)⟩
      by_cases e : j = i
      · subst e; exact c
      · exact h j (by omega) (by omega)
theorem mDone_iff {M : MS} (hw : wf M) (g : Int) : mNext M g = -9 ↔ ∀ q : Int, 0 ≤ q → q < M 0 2 → ¬ M 13 (g * 8 + q) = -9 := by
  have hq := hw.qs
  by_cases hz : M 0 2 = 0
  · refine ⟨fun _ q h0 h1 => by omega, fun _ => ?_⟩
    unfold mNext
    rw [hz]
    rfl
  · unfold mNext
    rw [mNextF_none (by omega)]
    refine ⟨fun h q h0 h1 => ?_, fun h j h0 h1 => ?_⟩
    · have hm0 := Int.emod_nonneg (q - M 10 g) hz
      have hm1 := Int.emod_lt_of_pos (q - M 10 g) (show 0 < M 0 2 by omega)
      have h2 := h ((q - M 10 g) % M 0 2) hm0 (by omega)
      rw [Int.add_emod_emod, show M 10 g + (q - M 10 g) = q by omega, Int.emod_eq_of_lt h0 h1] at h2
      exact h2
    · exact h _ (Int.emod_nonneg _ hz) (Int.emod_lt_of_pos _ (by omega))
theorem sum01 {f : Int → Int} : ∀ (n : Nat), (∀ i : Int, 0 ≤ i → i < n → f i = 0 ∨ f i = 1) → (0 ≤ sumI f n ∧ sumI f n ≤ n) ∧ (sumI f n = n ↔ ∀ i : Int, 0 ≤ i → i < n → f i = 1) := by
  intro n
  induction n with
  | zero => intro _; exact ⟨⟨Int.le_refl _, Int.le_refl _⟩, fun _ i h0 h1 => by omega, fun _ => rfl⟩
  | succ n ih =>
    intro h
    obtain ⟨h1, h2⟩ := ih (fun i h0 h1 => h i h0 (by omega))
    have h3 := h n (by omega) (by omega)
    refine ⟨by show 0 ≤ sumI f n + f n ∧ sumI f n + f n ≤ ((n + 1 : Nat) : Int); omega, ?_⟩
    show sumI f n + f n = ((n + 1 : Nat) : Int) ↔ _
    refine ⟨fun h4 i i0 i1 => ?_, fun h4 => ?_⟩
    · by_cases e : i = n
      · subst e; omega
      · exact h2.mp (by omega) i i0 (by omega)
    · have h5 := h2.mpr (fun i i0 i1 => h4 i i0 (by omega))
      have h6 := h4 n (by omega) (by omega)
      omega
theorem mAns_range {M : MS} (hw : wf M) (g : Int) : 0 ≤ mAns M g ∧ mAns M g ≤ M 0 2 := by
  have hq := hw.qs
  have := (sum01 (f := fun q => if M 13 (g * 8 + q) = -9 then 0 else 1) (M 0 2).toNat (fun i _ _ => by split <;> omega)).1
  unfold mAns
  omega
theorem mAns_done {M : MS} (hw : wf M) (g : Int) : mAns M g = M 0 2 ↔ mNext M g = -9 := by
  have hq := hw.qs
  have h1 := (sum01 (f := fun q => if M 13 (g * 8 + q) = -9 then 0 else 1) (M 0 2).toNat (fun i _ _ => by split <;> omega)).2
  rw [mDone_iff hw]
  unfold mAns
  rw [Int.toNat_of_nonneg hq.1] at h1
  rw [h1]
  refine ⟨fun h q q0 q1 c => ?_, fun h q q0 q1 => ?_⟩
  · have := h q q0 (by omega)
    rw [if_pos c] at this
    omega
  · rw [if_neg (h q q0 (by omega))]
theorem s4_isDoneIn {M : MS} {r : AR} (hw : wf M) (hR : Rep M r) {g : Int} (g0 : 0 ≤ g) (g1 : g < M 0 7) {Q : Int → Prop} (h : Q (if mNext M g = -9 then 1 else 0)) : wX4_isDoneIn r g Q := by
  have hq := hw.qs
  have ha := mAns_range hw g
  have hd := mAns_done hw g
  have r0 := hR.1
  refine s4_answersOf hw hR g0 g1 ⟨by omega, by omega, fun c => ?_, fun c => ?_⟩
  · rw [if_neg (fun z => c (by rw [r0]; exact hd.mpr z))] at h; exact h
  · rw [if_pos (hd.mp (by rw [← r0]; exact c))] at h; exact h
