/-! thinking ahead -/
def mThink (N : MS) : MS := uc N 14 (fun _ => -9)
theorem wf_think {N : MS} (hw : wf N) : wf (mThink N) := wf_forget hw
theorem Rep_think {N : MS} {r : AR} (h : Rep N r) : Rep (mThink N) r := h
def mTillF (D : MS → Int) : Nat → MS → Int
  | 0, _ => 0
  | n + 1, M => if D M = 0 then 0 else 1 + mTillF D n (mMinute M)
theorem mTillF_range (D : MS → Int) : ∀ (n : Nat) (M : MS), 0 ≤ mTillF D n M ∧ mTillF D n M ≤ n := by
  intro n
  induction n with
  | zero => intro M; exact ⟨Int.le_refl _, Int.le_refl _⟩
  | succ n ih =>
    intro M
    have h := ih (mMinute M)
    unfold mTillF
    by_cases c : D M = 0
    · rw [if_pos c]; omega
    · rw [if_neg c]; omega
def mTill (M : MS) (g : Int) : Int := mTillF (fun M => if mNext M g = -9 then 0 else 1) 100 M
def mTillAll (M : MS) : Int := mTillF mUndone 100 M
def mOr (x : Int) : Int := if x = 100 then -9 else x
theorem mTill_range (M : MS) (g : Int) : 0 ≤ mTill M g ∧ mTill M g ≤ 100 := mTillF_range _ 100 M
theorem mTillAll_range (M : MS) : 0 ≤ mTillAll M ∧ mTillAll M ≤ 100 := mTillF_range _ 100 M
theorem s3_think {N T : MS} {Q : MS → Prop} (h : Q (mThink N)) : wX3_think N T Q := h
theorem s3_thinkAhead {N T : MS} (hw : wf N) {n : Int} (h0 : 0 ≤ n) (h1 : n ≤ 1000) {Q : MS → Prop} (h : Q (mMinutes n.toNat (mThink N))) : wX3_thinkAhead N T n Q := s3_think (s1_passMinutes (wf_think hw) h0 h1 h)
theorem s3_tillDone {T : MS} (hw : wf T) {g : Int} (g0 : 0 ≤ g) (g1 : g < 5) {Q : Int → MS → Prop} (h : ∀ T', Q (mTill T g) T') : wX3_minutesTillDone T g Q := by
  refine gFor (fun n y T' => wX3_minutesTillDone_2 Q n g y T') 100 (fun y T' => wf T' ∧ y + mTillF (fun M => if mNext M g = -9 then 0 else 1) (100 - y).toNat T' = mTill T g) (fun n y T' y0 y1 hp ih => ?_) (fun n T' hp => ?_) 0 ⟨by omega, by omega⟩ T ⟨hw, by rw [show ((100 : Int) - 0).toNat = 100 from rfl]; exact Int.zero_add _⟩
  · rw [wX3_minutesTillDone_2_s]
    obtain ⟨hw', he⟩ := hp
    rw [show ((100 : Int) - y).toNat = (100 - (y + 1)).toNat + 1 by omega] at he
    unfold mTillF at he
    by_cases c1 : mNext T' g = -9
    · rw [if_pos c1, if_pos rfl] at he
      refine ⟨by omega, fun c => by omega, fun c => s1_isDone hw' g0 g1 ?_⟩
      rw [if_pos c1]
      refine ⟨fun _ => ?_, fun z => absurd z (by decide)⟩
      rw [show y = mTill T g by omega]
      exact h T'
    · rw [if_neg c1, if_neg (by decide)] at he
      refine ⟨by omega, fun c => by omega, fun c => s1_isDone hw' g0 g1 ?_⟩
      rw [if_neg c1]
      refine ⟨fun z => absurd rfl z, fun _ => s1_passMinute hw' (fun v ev => ?_)⟩
      subst ev
      exact ih _ ⟨wf_minute hw', by omega⟩
  · rw [wX3_minutesTillDone_2_s]
    obtain ⟨hw', he⟩ := hp
    refine ⟨by omega, fun _ => ?_, fun c => by omega⟩
    rw [show (100 : Int) = mTill T g by rw [← he]; rfl]
    exact h T'
theorem s3_tillAll {T : MS} (hw : wf T) {Q : Int → MS → Prop} (h : ∀ T', Q (mTillAll T) T') : wX3_minutesTillAllDone T Q := by
  refine gFor (fun n y T' => wX3_minutesTillAllDone_2 Q n y T') 100 (fun y T' => wf T' ∧ y + mTillF mUndone (100 - y).toNat T' = mTillAll T) (fun n y T' y0 y1 hp ih => ?_) (fun n T' hp => ?_) 0 ⟨by omega, by omega⟩ T ⟨hw, by rw [show ((100 : Int) - 0).toNat = 100 from rfl]; exact Int.zero_add _⟩
  · rw [wX3_minutesTillAllDone_2_s]
    obtain ⟨hw', he⟩ := hp
    have hb : 0 ≤ mUndone T' ∧ mUndone T' ≤ ((T' 0 7).toNat : Int) := (sum01 _ (fun i i0 i1 => by by_cases c : mNext T' i = -9 <;> simp [c])).1
    have hgs := hw'.gs
    have hb2 : mUndone T' ≤ 5 := by omega
    rw [show ((100 : Int) - y).toNat = (100 - (y + 1)).toNat + 1 by omega] at he
    unfold mTillF at he
    refine ⟨by omega, fun c => by omega, fun c => s1_undone hw' ⟨by omega, fun d => ?_, fun d => s1_passMinute hw' (fun v ev => ?_)⟩⟩
    · rw [if_pos (by omega)] at he
      rw [show y = mTillAll T by omega]
      exact h T'
    · subst ev
      rw [if_neg (by omega)] at he
      exact ih _ ⟨wf_minute hw', by omega⟩
  · rw [wX3_minutesTillAllDone_2_s]
    obtain ⟨hw', he⟩ := hp
    refine ⟨by omega, fun _ => ?_, fun c => by omega⟩
    rw [show (100 : Int) = mTillAll T by rw [← he]; rfl]
    exact h T'
theorem s3_none {x : Int} (h0 : 0 ≤ x ∧ x ≤ 100) {Q : Int → Prop} (h : Q (mOr x)) : wX3_noneIfNever x Q := by
  unfold mOr at h
  refine ⟨by omega, fun c => ?_, fun c => ?_⟩
  · rw [if_neg (by omega)] at h; exact h
  · rw [if_pos (by omega)] at h; exact h
theorem s4_begins {N : MS} {ss mm : AR} (hw : wf N) (hR : Rep N ss) {Q : AR → Prop} (h : ∀ z : AR, Rep (mThink N) z → RepF (mThink N) z → Q z) : wX4_begins ss mm Q := by
  have hg := hw.gs
  have hq := hw.qs
  refine s4_lays (fun z6 h6 => ?_)
  refine gFor (fun n i z => wX4_begins_14 ss Q n i z) 147 (fun i z => 107 ≤ i ∧ (∀ j : Int, 0 ≤ j → j < 107 → z j = ss j) ∧ ∀ j : Int, 107 ≤ j → j < i → z j = -9) (fun n i z i0 i1 hp ih => ?_) (fun n z hp => ?_) 107 ⟨by omega, by omega⟩ z6 ⟨by omega, fun j j0 j1 => h6 j j0 (by omega), fun j j0 j1 => by omega⟩
  · rw [wX4_begins_14_s]
    refine ⟨by omega, fun c => by omega, fun c => ⟨by omega, fun w ew v ev => ?_⟩⟩
    subst ew ev
    obtain ⟨c2, hp⟩ := hp
    refine ih _ ⟨by omega, fun j j0 j1 => by rw [su_ne _ _ (by omega)]; exact hp.1 j j0 j1, fun j j0 j1 => ?_⟩
    by_cases c3 : j = i
    · rw [c3, su_at]
    · rw [su_ne _ _ c3]; exact hp.2 j j0 (by omega)
  · rw [wX4_begins_14_s]
    obtain ⟨c2, hp⟩ := hp
    refine ⟨by omega, fun _ => h z (Rep_think (hR.of hw (fun i i0 i1 => hp.1 i i0 i1))) (fun g q g0 g1 q0 q1 => ?_), fun c => by omega⟩
    have g1 : g < N 0 7 := g1
    have q1 : q < N 0 2 := q1
    rw [hp.2 _ (by omega) (by omega)]
    rfl
theorem s4_doneIn {M : MS} {mm fa : AR} (hw : wf M) (hR : Rep M mm) {g : Int} (g0 : 0 ≤ g) (g1 : g < M 0 7) {Q : Int → AR → AR → Prop} (h : ∀ mm' fa', Q (mOr (mTill M g)) mm' fa') : wX4_doneIn mm fa g Q := by
  refine gFor (α := AR × AR) (fun n y a => wX4_doneIn_2 Q n g y a.1 a.2) 100 (fun y a => ∃ M' : MS, wf M' ∧ Rep M' a.1 ∧ M' 0 7 = M 0 7 ∧ y + mTillF (fun M => if mNext M g = -9 then 0 else 1) (100 - y).toNat M' = mTill M g) (fun n y a y0 y1 hp ih => ?_) (fun n a hp => ?_) 0 ⟨by omega, by omega⟩ (mm, fa) ⟨M, hw, hR, rfl, by rw [show ((100 : Int) - 0).toNat = 100 from rfl]; exact Int.zero_add _⟩
  · obtain ⟨mm', fa'⟩ := a
    dsimp only
    rw [wX4_doneIn_2_s]
    obtain ⟨M', hw', hR', hg', he⟩ := hp
    dsimp only at hR'
    rw [show ((100 : Int) - y).toNat = (100 - (y + 1)).toNat + 1 by omega] at he
    unfold mTillF at he
    have hm := mTillF_range (fun M => if mNext M g = -9 then 0 else 1) (100 - (y + 1)).toNat (mMinute M')
    by_cases c1 : mNext M' g = -9
    · rw [if_pos c1, if_pos rfl] at he
      refine ⟨by omega, fun c => by omega, fun c => s4_isDoneIn hw' hR' g0 (by omega) ?_⟩
      rw [if_pos c1]
      refine ⟨fun z => absurd z (by decide), fun _ => ?_⟩
      have h' := h mm' fa'
      unfold mOr at h'
      rw [if_neg (by omega), ← he, Int.add_zero] at h'
      exact h'
    · rw [if_neg c1, if_neg (by decide)] at he
      refine ⟨by omega, fun c => by omega, fun c => s4_isDoneIn hw' hR' g0 (by omega) ?_⟩
      rw [if_neg c1]
      refine ⟨fun _ => s4_minute hw' hR' (fun fa2 mm2 h2 _ v ev => ?_), fun z => absurd rfl z⟩
      subst ev
      exact ih (mm2, fa2) ⟨mMinute M', wf_minute hw', h2, by rw [mMinute_gs hw']; exact hg', by omega⟩
  · obtain ⟨mm', fa'⟩ := a
    dsimp only
    rw [wX4_doneIn_2_s]
    obtain ⟨M', hw', hR', hg', he⟩ := hp
    refine ⟨by omega, fun _ => ?_, fun c => by omega⟩
    have h' := h mm' fa'
    unfold mOr at h'
    rw [if_pos (by rw [← he]; rfl)] at h'
    exact h'
theorem mUndone_zero {M : MS} (hw : wf M) : mUndone M = 0 ↔ ∀ g : Int, 0 ≤ g → g < M 0 7 → mNext M g = -9 := by
  have hg := hw.gs
  unfold mUndone
  have key : ∀ n : Nat, (0 ≤ sumI (fun g => if mNext M g = -9 then 0 else 1) n) ∧ (sumI (fun g => if mNext M g = -9 then 0 else 1) n = 0 ↔ ∀ g : Int, 0 ≤ g → g < n → mNext M g = -9) := by
    intro n
    induction n with
    | zero => exact ⟨Int.le_refl _, fun _ g g0 g1 => by omega, fun _ => rfl⟩
    | succ n ih =>
      have e : sumI (fun g => if mNext M g = -9 then 0 else 1) (n + 1) = sumI (fun g => if mNext M g = -9 then 0 else 1) n + (if mNext M (n : Int) = -9 then 0 else 1) := rfl
      rw [e]
      by_cases c : mNext M (n : Int) = -9
      · rw [if_pos c]
        refine ⟨by omega, fun h g g0 g1 => ?_, fun h => ?_⟩
        · by_cases c2 : g = n
          · rw [c2]; exact c
          · exact ih.2.1 (by omega) g g0 (by omega)
        · have := ih.2.2 (fun g g0 g1 => h g g0 (by omega))
          omega
      · rw [if_neg c]
        exact ⟨by omega, fun h => by omega, fun h => absurd (h n (by omega) (by omega)) c⟩
  have k := (key (M 0 7).toNat).2
  rw [show ((M 0 7).toNat : Int) = M 0 7 by omega] at k
  exact k
theorem s4_areAllDone {M : MS} {r : AR} (hw : wf M) (hR : Rep M r) {Q : Int → Prop} (h : Q (if mUndone M = 0 then 1 else 0)) : wX4_areAllDone r Q := by
  have hg := hw.gs
  have e1 := hR.2.1
  refine gFor (fun n y (_ : Unit) => wX4_areAllDone_2 r Q n y) (M 0 7) (fun y _ => ∀ g : Int, 0 ≤ g → g < y → mNext M g = -9) (fun n y _ y0 y1 hp ih => ?_) (fun n _ hp => ?_) 0 ⟨by omega, by omega⟩ () (fun g g0 g1 => by omega)
  · rw [wX4_areAllDone_2_s]
    refine ⟨by omega, by omega, fun c => by omega, fun c => s4_isDoneIn hw hR y0 y1 ?_⟩
    by_cases c1 : mNext M y = -9
    · rw [if_pos c1]
      refine ⟨fun _ v ev => ?_, fun z => absurd z (by decide)⟩
      subst ev
      refine ih () (fun g g0 g1 => ?_)
      by_cases c2 : g = y
      · rw [c2]; exact c1
      · exact hp g g0 (by omega)
    · rw [if_neg c1]
      refine ⟨fun z => absurd rfl z, fun _ => ?_⟩
      rw [if_neg (fun z => c1 ((mUndone_zero hw).1 z y y0 y1))] at h
      exact h
  · rw [wX4_areAllDone_2_s]
    refine ⟨by omega, by omega, fun _ => ?_, fun c => by omega⟩
    rw [if_pos ((mUndone_zero hw).2 hp)] at h
    exact h
theorem s4_allDoneIn {M : MS} {mm fa : AR} (hw : wf M) (hR : Rep M mm) {Q : Int → AR → AR → Prop} (h : ∀ mm' fa', Q (mOr (mTillAll M)) mm' fa') : wX4_allDoneIn mm fa Q := by
  refine gFor (α := AR × AR) (fun n y a => wX4_allDoneIn_2 Q n y a.1 a.2) 100 (fun y a => ∃ M' : MS, wf M' ∧ Rep M' a.1 ∧ y + mTillF mUndone (100 - y).toNat M' = mTillAll M) (fun n y a y0 y1 hp ih => ?_) (fun n a hp => ?_) 0 ⟨by omega, by omega⟩ (mm, fa) ⟨M, hw, hR, by rw [show ((100 : Int) - 0).toNat = 100 from rfl]; exact Int.zero_add _⟩
  · obtain ⟨mm', fa'⟩ := a
    dsimp only
    rw [wX4_allDoneIn_2_s]
    obtain ⟨M', hw', hR', he⟩ := hp
    dsimp only at hR'
    rw [show ((100 : Int) - y).toNat = (100 - (y + 1)).toNat + 1 by omega] at he
    unfold mTillF at he
    have hm := mTillF_range mUndone (100 - (y + 1)).toNat (mMinute M')
    by_cases c1 : mUndone M' = 0
    · rw [if_pos c1] at he
      refine ⟨by omega, fun c => by omega, fun c => s4_areAllDone hw' hR' ?_⟩
      rw [if_pos c1]
      refine ⟨fun z => absurd z (by decide), fun _ => ?_⟩
      have h' := h mm' fa'
      unfold mOr at h'
      rw [if_neg (by omega), ← he, Int.add_zero] at h'
      exact h'
    · rw [if_neg c1] at he
      refine ⟨by omega, fun c => by omega, fun c => s4_areAllDone hw' hR' ?_⟩
      rw [if_neg c1]
      refine ⟨fun _ => s4_minute hw' hR' (fun fa2 mm2 h2 _ v ev => ?_), fun z => absurd rfl z⟩
      subst ev
      exact ih (mm2, fa2) ⟨mMinute M', wf_minute hw', h2, by omega⟩
  · obtain ⟨mm', fa'⟩ := a
    dsimp only
    rw [wX4_allDoneIn_2_s]
    obtain ⟨M', hw', hR', he⟩ := hp
    refine ⟨by omega, fun _ => ?_, fun c => by omega⟩
    have h' := h mm' fa'
    unfold mOr at h'
    rw [if_pos (by rw [← he]; rfl)] at h'
    exact h'
theorem s4_doneNow {N : MS} {ss mm fa : AR} (hw : wf N) (hR : Rep N ss) {g : Int} (g0 : 0 ≤ g) (g1 : g < N 0 7) {Q : Int → AR → AR → Prop} (h : ∀ mm' fa', Q (mOr (mTill (mThink N) g)) mm' fa') : wX4_doneNow ss mm fa g Q :=
  s4_lays (fun z hz => s4_doneIn (wf_think hw) (Rep_think (hR.of hw (fun i i0 i1 => hz i i0 (by omega)))) g0 g1 h)
theorem s4_wrong {x : Int} (h0 : 0 ≤ x ∧ x ≤ 99) {Q : Int → Prop} (h : Q 0) : wX4_wrongMinutes x Q := ⟨by omega, fun _ => ⟨fun _ => h, fun _ => by omega⟩, fun _ => by omega⟩
theorem s4_wrong4 {x : Int} (hx : gR x) (h0 : ¬ 0 ≤ x) {Q : Int → Prop} (h : Q (-4)) : wX4_wrongMinutes x Q := ⟨hx, fun _ => by omega, fun _ => h⟩
theorem s4_wrong6 {x : Int} (hx : gR x) (h0 : ¬ x ≤ 99) {Q : Int → Prop} (h : Q (-6)) : wX4_wrongMinutes x Q := ⟨hx, fun _ => ⟨fun _ => by omega, fun _ => h⟩, fun _ => by omega⟩
