/-! what is written stays written -/
theorem sumI_add (f g : Int → Int) (n : Nat) : sumI (fun i => f i + g i) n = sumI f n + sumI g n := by
  induction n with
  | zero => rfl
  | succ n ih =>
    show sumI (fun i => f i + g i) n + (f n + g n) = (sumI f n + f n) + (sumI g n + g n)
    omega
theorem sumI_sub (f g : Int → Int) (n : Nat) : sumI (fun i => f i - g i) n = sumI f n - sumI g n := by
  induction n with
  | zero => rfl
  | succ n ih =>
    show sumI (fun i => f i - g i) n + (f n - g n) = (sumI f n + f n) - (sumI g n + g n)
    omega
theorem sumI_zero (n : Nat) : sumI (fun _ => 0) n = 0 := by
  induction n with
  | zero => rfl
  | succ n ih => show sumI (fun _ => 0) n + 0 = 0; omega
theorem mGo_keep {M : MS} {g q : Int} (hi : M 13 (g * 8 + q) = -9) {i : Int} (h : ¬ M 13 i = -9) : mGo M g q 13 i = M 13 i := by
  unfold mGo
  by_cases c1 : M 11 g = M 6 q
  · rw [if_pos c1]
    by_cases c2 : M 12 g + 1 < mMin M q
    · rw [if_pos c2]; rfl
    · rw [if_neg c2]
      show su (M 13) (g * 8 + q) (mVal M g q) i = M 13 i
      exact su_ne _ _ (fun e => h (by rw [e]; exact hi))
  · rw [if_neg c1]; rfl
theorem mStep_keep {M : MS} (hw : wf M) (g : Int) {i : Int} (h : ¬ M 13 i = -9) : mStep M g 13 i = M 13 i := by
  unfold mStep
  by_cases c : mNext M g = -9
  · rw [if_pos c]
  · rw [if_neg c]
    rcases mNext_range hw g with z | z
    · exact absurd z c
    · exact mGo_keep z.2.2 h
theorem mMinF_keep {i : Int} : ∀ (n : Nat) (g : Int) (M : MS), wf M → 0 ≤ g → g + n ≤ M 0 7 → ¬ M 13 i = -9 → mMinF n g M 13 i = M 13 i := by
  intro n
  induction n with
  | zero => intro g M _ _ _ _; rfl
  | succ n ih =>
    intro g M hw g0 g1 h
    have e := mStep_keep hw g h
    have k := ih (g + 1) (mStep M g) (wf_step hw ⟨g0, by omega⟩) (by omega) (by rw [mStep_size]; omega) (by rw [e]; exact h)
    exact k.trans e
theorem mMinute_keep {M : MS} (hw : wf M) {i : Int} (h : ¬ M 13 i = -9) : mMinute M 13 i = M 13 i := mMinF_keep (M 0 7).toNat 0 (st M 0 1 (M 0 1 + 1)) (wf_min hw _) (by omega) (by have := hw.gs; show (0 : Int) + ((M 0 7).toNat : Int) ≤ M 0 7; omega) h
theorem done_stays {M : MS} (hw : wf M) {g : Int} (h : mNext M g = -9) : mNext (mMinute M) g = -9 := by
  rw [mDone_iff (wf_minute hw)]
  rw [mDone_iff hw] at h
  intro q q0 q1
  rw [mMinute_qs hw] at q1
  rw [mMinute_keep hw (h q q0 q1)]
  exact h q q0 q1
theorem till_zero {D : MS → Int} (n : Nat) {M : MS} (h : D M = 0) : mTillF D n M = 0 := by
  cases n with
  | zero => rfl
  | succ n => unfold mTillF; rw [if_pos h]
def mUndF : Nat → MS → Int
  | 0, _ => 0
  | n + 1, M => mUndone M + mUndF n (mMinute M)
theorem undF_till : ∀ (n : Nat) (M : MS), wf M → mUndF n M = sumI (fun g => mTillF (fun M => if mNext M g = -9 then 0 else 1) n M) (M 0 7).toNat := by
  intro n
  induction n with
  | zero => intro M _; exact (sumI_zero _).symm
  | succ n ih =>
    intro M hw
    show mUndone M + mUndF n (mMinute M) = _
    rw [ih _ (wf_minute hw), mMinute_gs hw]
    unfold mUndone
    rw [← sumI_add]
    refine sumI_congr _ (fun g g0 g1 => ?_)
    show _ = if (if mNext M g = -9 then (0 : Int) else 1) = 0 then 0 else 1 + mTillF (fun M => if mNext M g = -9 then 0 else 1) n (mMinute M)
    by_cases c : mNext M g = -9
    · rw [if_pos c, if_pos rfl, till_zero n (if_pos (done_stays hw c))]; rfl
    · rw [if_neg c, if_neg (by decide)]
theorem s3_together {T : MS} (hw : wf T) {Q : Int → MS → Prop} (h : ∀ T', Q (mUndF 100 T) T') : wX3_minutesOfAllTogether T Q := by
  refine gFor (α := Int × MS) (fun n y a => wX3_minutesOfAllTogether_4 Q n a.1 y a.2) 100 (fun y a => wf a.2 ∧ a.1 + mUndF (100 - y).toNat a.2 = mUndF 100 T) (fun n y a y0 y1 hp ih => ?_) (fun n a hp => ?_) 0 ⟨by omega, by omega⟩ (0, T) ⟨hw, by rw [show ((100 : Int) - 0).toNat = 100 from rfl]; exact Int.zero_add _⟩
  · obtain ⟨u, T'⟩ := a
    dsimp only at hp
    dsimp only
    rw [wX3_minutesOfAllTogether_4_s]
    obtain ⟨hw', he⟩ := hp
    rw [show ((100 : Int) - y).toNat = (100 - (y + 1)).toNat + 1 by omega] at he
    have he : u + (mUndone T' + mUndF (100 - (y + 1)).toNat (mMinute T')) = mUndF 100 T := he
    refine ⟨by omega, fun c => by omega, fun c => s1_undone hw' (fun v ev => s1_passMinute hw' (fun w ew => ?_))⟩
    subst ev ew
    exact ih (u + mUndone T', mMinute T') ⟨wf_minute hw', by show u + mUndone T' + mUndF (100 - (y + 1)).toNat (mMinute T') = mUndF 100 T; omega⟩
  · obtain ⟨u, T'⟩ := a
    dsimp only at hp
    dsimp only
    rw [wX3_minutesOfAllTogether_4_s]
    refine ⟨by omega, fun _ => ?_, fun c => by omega⟩
    have he : u + 0 = mUndF 100 T := hp.2
    rw [show u = mUndF 100 T by omega]
    exact h T'
theorem s4_orNever {x : Int} (h0 : 0 ≤ x ∧ x ≤ 100) {Q : Int → Prop} (h : Q x) : wX4_orNever (mOr x) Q := by
  by_cases c : x = 100
  · rw [show mOr x = -9 from if_pos c]
    exact ⟨by omega, fun z => by omega, fun _ => by rw [← c]; exact h⟩
  · rw [show mOr x = x from if_neg c]
    exact ⟨by omega, fun _ => h, fun z => by omega⟩
theorem op_worth {o : AR} {rw : AR} {rf : AR} {lg : AR} {sg : AR} {N : MS} {T : MS} {K : MS} {I : MS} {o2 : AR} {ss : AR} {mm : AR} {im : AR} {wa : AR} {le : AR} {ro : AR} {re : AR} {fa : AR} {nu : AR} (hI : gInv o rw rf lg sg N T K I o2 ss mm im wa le ro re fa nu) (x1 : Int) (hx1 : gR x1): wX3_worth rf N T x1 (fun (r : Int) (rf1 : AR) (T1 : MS) => wX4_worth ss mm re fa x1 (fun (r2 : Int) (mm1 : AR) (re1 : AR) (fa1 : AR) => r = r2 ∧ gInv o rw rf1 lg sg N T1 K I o2 ss mm1 im wa le ro re1 fa1 nu)) := by
  obtain ⟨hN, hIm, hRo, hLe, hRe⟩ := hI
  obtain ⟨hw, ht, hR⟩ := hN
  have hgs := hw.gs
  have e1 := hR.2.1
  by_cases c1 : 0 ≤ x1 ∧ x1 < N 0 2
  · have hf := wf_fill (wf_think hw) c1.1 c1.2
    refine s3_ques hw c1 ⟨fun _ => s3_think (s3_together (wf_think hw) (fun T' => s3_think (s1_fillTruth (wf_think hw) c1.1 c1.2 (s3_together hf.1 (fun T2 => s4_ques hw hR c1 ⟨fun _ => ?_, fun z => absurd z (by decide)⟩))))), fun z => absurd rfl z⟩
    have hv : mUndF 100 (mThink N) - mUndF 100 (mFill (mThink N) x1) = sumI (fun g => mTill (mThink N) g - mTill (mFill (mThink N) x1) g) (N 0 7).toNat := by
      rw [undF_till 100 _ (wf_think hw), undF_till 100 _ hf.1, hf.2, sumI_sub]
      rfl
    rw [hv]
    refine gFor (α := Int × AR × AR) (fun n i a => wX4_worth_18 ss _ n x1 a.1 i a.2.1 re a.2.2) (N 0 7) (fun i a => a.1 = sumI (fun g => mTill (mThink N) g - mTill (mFill (mThink N) x1) g) i.toNat) (fun n i a i0 i1 hp ih => ?_) (fun n a hp => ?_) 0 ⟨by omega, by omega⟩ (0, mm, fa) rfl
    · obtain ⟨y2, mm1, fa1⟩ := a
      dsimp only at hp
      dsimp only
      rw [wX4_worth_18_s]
      refine ⟨by omega, by omega, fun c => by omega, fun c => s4_doneNow hw hR i0 i1 (fun mm' fa' => s4_orNever (mTill_range _ _) (fun v ev => s4_leaves hw hR c1.1 c1.2 (fun z hz => s4_doneIn hf.1 hz i0 (by rw [hf.2]; exact i1) (fun mm2 fa2 => s4_orNever (mTill_range _ _) (fun w ew x ex => ?_)))))⟩
      subst ev ew ex
      refine ih (_, mm2, fa2) ?_
      rw [sumI_s _ i0, ← hp]
      dsimp only
      omega
    · obtain ⟨y2, mm1, fa1⟩ := a
      dsimp only at hp
      dsimp only
      rw [wX4_worth_18_s]
      exact ⟨by omega, by omega, fun _ => ⟨hp.symm, ⟨hw, ht, hR⟩, hIm, hRo, hLe, hRe⟩, fun c => by omega⟩
  · exact s3_quesN hw hx1 c1 ⟨fun z => absurd z (by decide), fun _ => s3_refuse (by omega) (s4_quesN hw hR hx1 c1 ⟨fun z => absurd rfl z, fun _ => s4_no (by omega) ⟨rfl, ⟨hw, ht, hR⟩, hIm, hRo, hLe, hRe.no _⟩⟩)⟩
theorem op_spreads {o : AR} {rw : AR} {rf : AR} {lg : AR} {sg : AR} {N : MS} {T : MS} {K : MS} {I : MS} {o2 : AR} {ss : AR} {mm : AR} {im : AR} {wa : AR} {le : AR} {ro : AR} {re : AR} {fa : AR} {nu : AR} (hI : gInv o rw rf lg sg N T K I o2 ss mm im wa le ro re fa nu) (x1 x2 : Int) (hx1 : gR x1) (hx2 : gR x2): wX3_spreads rf N T x1 x2 (fun (r : Int) (rf1 : AR) (T1 : MS) => wX4_spreads ss mm re fa x1 x2 (fun (r2 : Int) (mm1 : AR) (re1 : AR) (fa1 : AR) => r = r2 ∧ gInv o rw rf1 lg sg N T1 K I o2 ss mm1 im wa le ro re1 fa1 nu)) := by
  obtain ⟨hN, hIm, hRo, hLe, hRe⟩ := hI
  obtain ⟨hw, ht, hR⟩ := hN
  have hgs := hw.gs
  have hqs := hw.qs
  have e1 := hR.2.1
  by_cases c1 : 0 ≤ x1 ∧ x1 < N 0 7
  · refine s3_grp hw c1 ⟨fun z => absurd rfl z, fun _ => ?_⟩
    by_cases c2 : 0 ≤ x2 ∧ x2 < N 0 2
    · have hs := hR.s c1.1 c1.2 c2.1 c2.2
      have ws := (hw.s c1.1 (by omega) c2.1 (by omega : x2 < 8)).1
      have wq := (hw.q c2.1 (by omega)).2.2.2
      have rq := (hR.q c2.1 c2.2).2.2.2
      refine s3_ques hw c2 ⟨fun _ => ⟨by omega, by omega, fun a => ⟨by omega, by omega, fun v ev => s3_think ⟨by omega, fun z ez => ?_⟩⟩, fun a => s3_refuse (by omega) (s4_grp hw hR c1 ⟨fun z => absurd z (by decide), fun _ => s4_ques hw hR c2 ⟨fun _ => ⟨by omega, by omega, fun z => by omega, fun _ => s4_no (by omega) ⟨rfl, ⟨hw, ht, hR⟩, hIm, hRo, hLe, hRe.no _⟩⟩, fun z => absurd z (by decide)⟩⟩)⟩, fun z => absurd rfl z⟩
      subst ez
      have wv : 0 ≤ v ∧ v ≤ 9 := by omega
      have w1 : wf (st (mThink N) 13 (x1 * 8 + x2) v) := wf_st13 (wf_think hw) c1 c2 (Or.inr wv)
      have h4 := wf_minutes 99 w1
      have eg : (st (mThink N) 13 (x1 * 8 + x2) v) 0 7 = N 0 7 := rfl
      have eq : (st (mThink N) 13 (x1 * 8 + x2) v) 0 2 = N 0 2 := rfl
      have eM : ∃ M : MS, M = mMinutes (99 : Int).toNat (st (mThink N) 13 (x1 * 8 + x2) v) := ⟨_, rfl⟩
      refine s1_passMinutes w1 (by omega) (by omega) ?_
      obtain ⟨M, eM⟩ := eM
      have eM2 : M = mMinutes 99 (st (mThink N) 13 (x1 * 8 + x2) v) := eM
      rw [← eM]
      rw [← eM2] at h4
      refine gFor (α := Int) (fun n i a => wX3_spreads_87 N _ n x2 v a i rf M) (N 0 7) (fun i a => a = sumI (fun g => if M 13 (g * 8 + x2) = v then 1 else 0) i.toNat) (fun n i a i0 i1 hp ih => ?_) (fun n a hp => ?_) 0 ⟨by omega, by omega⟩ 0 rfl
      · rw [wX3_spreads_87_s]
        have hs2 := (h4.1.s i0 (by omega) c2.1 (by omega : x2 < 8)).1
        have e := sumI_s (fun g => if M 13 (g * 8 + x2) = v then 1 else 0) i0
        rw [← hp] at e
        refine ⟨by omega, by omega, fun c => by omega, fun c => ⟨by omega, by omega, by omega, fun c3 w ew w2 ew2 => ?_, fun c3 w ew w2 ew2 => ?_⟩⟩
        · subst ew ew2
          rw [if_neg c3] at e
          exact ih _ e.symm
        · subst ew ew2
          rw [if_pos c3] at e
          exact ih _ e.symm
      · rw [wX3_spreads_87_s]
        refine ⟨by omega, by omega, fun _ => ?_, fun c => by omega⟩
        refine s4_grp hw hR c1 ⟨fun z => absurd z (by decide), fun _ => s4_ques hw hR c2 ⟨fun _ => ⟨by omega, by omega, fun _ => ⟨by omega, by rw [rq]; omega, fun v2 ev2 => s4_lays (fun z hz => ⟨by omega, fun z30 e30 => ?_⟩)⟩, fun z => by omega⟩, fun z => absurd z (by decide)⟩⟩
        rw [rq, ← ev] at ev2
        subst ev2 e30
        have hz2 : Rep (mThink N) z := Rep_think (hR.of hw (fun i i0 i1 => hz i i0 (by omega)))
        refine s4_minutesOn w1 (Rep.st13 (wf_think hw) hz2 c1.1 c1.2 c2.1 c2.2 v2) (by omega) (by omega) (fun fa' r' h6 _ => ?_)
        rw [← eM] at h6
        refine gFor (α := Int) (fun n i b => wX4_spreads_96 ss _ n x2 v2 b i r' re fa') (N 0 7) (fun i b => b = sumI (fun g => if M 13 (g * 8 + x2) = v2 then 1 else 0) i.toNat) (fun n i b i0 i1 hp2 ih => ?_) (fun n b hp2 => ?_) 0 ⟨by omega, by omega⟩ 0 rfl
        · rw [wX4_spreads_96_s]
          have hs2 := (h4.1.s i0 (by omega) c2.1 (by omega : x2 < 8)).1
          have hs3 := h6.s i0 (by omega : i < M 0 7) c2.1 (by omega)
          have e := sumI_s (fun g => if M 13 (g * 8 + x2) = v2 then 1 else 0) i0
          rw [← hp2] at e
          refine ⟨by omega, by omega, fun c => by omega, fun c => ⟨by omega, by omega, by omega, fun c3 w ew w2 ew2 => ?_, fun c3 w ew w2 ew2 => ?_⟩⟩
          · subst ew ew2
            rw [if_neg (by rw [← hs3]; exact c3)] at e
            exact ih _ e.symm
          · subst ew ew2
            rw [if_pos (by rw [← hs3]; exact c3)] at e
            exact ih _ e.symm
        · rw [wX4_spreads_96_s]
          exact ⟨by omega, by omega, fun _ => ⟨by rw [hp, hp2], ⟨hw, ht, hR⟩, hIm, hRo, hLe, hRe⟩, fun c => by omega⟩
    · exact s3_quesN hw hx2 c2 ⟨fun z => absurd z (by decide), fun _ => s3_refuse (by omega) (s4_grp hw hR c1 ⟨fun z => absurd z (by decide), fun _ => s4_quesN hw hR hx2 c2 ⟨fun z => absurd rfl z, fun _ => s4_no (by omega) ⟨rfl, ⟨hw, ht, hR⟩, hIm, hRo, hLe, hRe.no _⟩⟩⟩)⟩
  · exact s3_grpN hw hx1 c1 ⟨fun _ => s3_refuse (by omega) (s4_grpN hw hR hx1 c1 ⟨fun _ => s4_no (by omega) ⟨rfl, ⟨hw, ht, hR⟩, hIm, hRo, hLe, hRe.no _⟩, fun z => absurd rfl z⟩), fun z => absurd z (by decide)⟩
