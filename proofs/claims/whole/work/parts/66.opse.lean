/-! the truth written in -/
def mFillF (q : Int) : Nat → Int → MS → MS
  | 0, _, M => M
  | n + 1, g, M => mFillF q n (g + 1) (st M 13 (g * 8 + q) (M 7 q))
def mFill (M : MS) (q : Int) : MS := mFillF q (M 0 7).toNat 0 M
theorem mFillF_wf {q : Int} : ∀ (n : Nat) (g : Int) (M : MS), wf M → 0 ≤ q → q < M 0 2 → 0 ≤ g → g + n ≤ M 0 7 → wf (mFillF q n g M) ∧ mFillF q n g M 0 = M 0 := by
  intro n
  induction n with
  | zero => intro g M hw _ _ _ _; exact ⟨hw, rfl⟩
  | succ n ih =>
    intro g M hw q0 q1 g0 g1
    have hq := hw.qs
    have h7 := (hw.q q0 (by omega)).2.2.2
    exact ih (g + 1) (st M 13 (g * 8 + q) (M 7 q)) (wf_st13 hw ⟨g0, by omega⟩ ⟨q0, q1⟩ (Or.inr h7)) q0 q1 (by omega) (by show g + 1 + n ≤ M 0 7; omega)
theorem wf_fill {M : MS} (hw : wf M) {q : Int} (q0 : 0 ≤ q) (q1 : q < M 0 2) : wf (mFill M q) ∧ mFill M q 0 = M 0 := mFillF_wf _ 0 M hw q0 q1 (by omega) (by have := hw.gs; omega)
theorem s1_fillTruth {M : MS} (hw : wf M) {q : Int} (q0 : 0 ≤ q) (q1 : q < M 0 2) {Q : MS → Prop} (h : Q (mFill M q)) : wX1_fillTruth M q Q := by
  have hgs := hw.gs
  have hqs := hw.qs
  refine gFor (fun n y M' => wX1_fillTruth_2 Q n q y M') (M 0 7) (fun y M' => wf M' ∧ M' 0 = M 0 ∧ mFillF q (M 0 7 - y).toNat y M' = mFill M q) (fun n y M' y0 y1 hp ih => ?_) (fun n M' hp => ?_) 0 ⟨by omega, by omega⟩ M ⟨hw, rfl, by rw [show M 0 7 - 0 = M 0 7 by omega]; rfl⟩
  · rw [wX1_fillTruth_2_s]
    obtain ⟨hw', h0, he⟩ := hp
    have e7 : M' 0 7 = M 0 7 := by rw [h0]
    have e2 : M' 0 2 = M 0 2 := by rw [h0]
    have h7 := (hw'.q q0 (by omega)).2.2.2
    refine ⟨by omega, by omega, fun c => by omega, fun c => ⟨by omega, by omega, fun z ez v ev => ?_⟩⟩
    subst ez ev
    rw [show (M 0 7 - y).toNat = (M 0 7 - (y + 1)).toNat + 1 by omega] at he
    exact ih _ ⟨wf_st13 hw' ⟨y0, by omega⟩ ⟨q0, by omega⟩ (Or.inr h7), h0, he⟩
  · rw [wX1_fillTruth_2_s]
    obtain ⟨hw', h0, he⟩ := hp
    have e7 : M' 0 7 = M 0 7 := by rw [h0]
    rw [show M 0 7 - M 0 7 = (0 : Int) by omega] at he
    refine ⟨by omega, by omega, fun _ => ?_, fun c => by omega⟩
    rw [show M' = mFill M q from he]
    exact h
theorem s4_leaves {N : MS} {ss mm : AR} (hw : wf N) (hR : Rep N ss) {q : Int} (q0 : 0 ≤ q) (q1 : q < N 0 2) {Q : AR → Prop} (h : ∀ z : AR, Rep (mFill (mThink N) q) z → Q z) : wX4_leaves ss mm q Q := by
  have hgs := hw.gs
  have hqs := hw.qs
  have e1 := hR.2.1
  have rq := (hR.q q0 q1).2.2.2
  have h7 := (hw.q q0 (by omega)).2.2.2
  refine s4_lays (fun z hz => ?_)
  refine gFor (fun n y r => wX4_leaves_13 ss Q n q y r) (N 0 7) (fun y r => ∃ M' : MS, wf M' ∧ M' 0 = N 0 ∧ M' 7 = N 7 ∧ Rep M' r ∧ mFillF q (N 0 7 - y).toNat y M' = mFill (mThink N) q) (fun n y r y0 y1 hp ih => ?_) (fun n r hp => ?_) 0 ⟨by omega, by omega⟩ z ⟨mThink N, wf_think hw, rfl, rfl, Rep_think (hR.of hw (fun i i0 i1 => hz i i0 (by omega))), by rw [show N 0 7 - 0 = N 0 7 by omega]; rfl⟩
  · rw [wX4_leaves_13_s]
    obtain ⟨M', hw', h0, hM7, hR', he⟩ := hp
    have e7 : M' 0 7 = N 0 7 := by rw [h0]
    have e2 : M' 0 2 = N 0 2 := by rw [h0]
    refine ⟨by omega, by omega, fun c => by omega, fun c => ⟨by omega, by omega, fun z8 e8 v ev => ?_⟩⟩
    subst e8 ev
    rw [show (N 0 7 - y).toNat = (N 0 7 - (y + 1)).toNat + 1 by omega] at he
    refine ih _ ⟨st M' 13 (y * 8 + q) (M' 7 q), wf_st13 hw' ⟨y0, by omega⟩ ⟨q0, by omega⟩ (Or.inr (by rw [hM7]; exact h7)), h0, hM7, ?_, he⟩
    rw [rq, hM7]
    exact Rep.st13 hw' hR' y0 (by omega) q0 (by omega) _
  · rw [wX4_leaves_13_s]
    obtain ⟨M', hw', h0, hM7, hR', he⟩ := hp
    rw [show N 0 7 - N 0 7 = (0 : Int) by omega] at he
    refine ⟨by omega, by omega, fun _ => h r ?_, fun c => by omega⟩
    rw [← show M' = mFill (mThink N) q from he]
    exact hR'
theorem op_leave {o : AR} {rw : AR} {rf : AR} {lg : AR} {sg : AR} {N : MS} {T : MS} {K : MS} {I : MS} {o2 : AR} {ss : AR} {mm : AR} {im : AR} {wa : AR} {le : AR} {ro : AR} {re : AR} {fa : AR} {nu : AR} (hI : gInv o rw rf lg sg N T K I o2 ss mm im wa le ro re fa nu) : wX3_leave N T (fun (r : Int) (T1 : MS) => wX4_leave ss mm fa (fun (r2 : Int) (mm1 : AR) (fa1 : AR) => r = r2 ∧ gInv o rw rf lg sg N T1 K I o2 ss mm1 im wa le ro re fa1 nu)) := by
  obtain ⟨hN, hIm, hRo, hLe, hRe⟩ := hI
  obtain ⟨hw, ht, hR⟩ := hN
  have hqs := hw.qs
  have e0 := hR.1
  have eq : (mThink N) 0 2 = N 0 2 := rfl
  refine gFor (α := Int × Int × MS) (fun n i a => wX3_leave_8 N _ n a.1 a.2.1 i a.2.2) (N 0 2) (fun i a => (a.1, a.2.1) = mMinB (fun q => mTillAll (mFill (mThink N) q)) 100 i.toNat ∧ (0 ≤ a.2.1 ∧ a.2.1 ≤ 100)) (fun n i a i0 i1 hp ih => ?_) (fun n a hp => ?_) 0 ⟨by omega, by omega⟩ (-9, 100, T) ⟨rfl, (by decide : (0 : Int) ≤ 100), (by decide : (100 : Int) ≤ 100)⟩
  · obtain ⟨y1, y2, T1⟩ := a
    dsimp only at hp
    dsimp only
    rw [wX3_leave_8_s]
    obtain ⟨hp, hb⟩ := hp
    have hf := wf_fill (wf_think hw) i0 (by omega)
    have hr := mTillAll_range (mFill (mThink N) i)
    have e := mMinB_s (fun q => mTillAll (mFill (mThink N) q)) 100 i0
    rw [← hp] at e
    dsimp only at e
    refine ⟨by omega, by omega, fun c => by omega, fun c => s3_think (s1_fillTruth (wf_think hw) i0 (by omega) (s3_tillAll hf.1 (fun T' => ⟨by omega, by omega, fun c2 v ev => ?_, fun c2 v ev => ?_⟩)))⟩
    · subst ev
      rw [if_neg (by omega)] at e
      exact ih (y1, y2, T') ⟨e.symm, hb⟩
    · subst ev
      rw [if_pos (by omega)] at e
      exact ih (i, mTillAll (mFill (mThink N) i), T') ⟨e.symm, hr⟩
  · obtain ⟨y1, y2, T1⟩ := a
    dsimp only at hp
    dsimp only
    rw [wX3_leave_8_s]
    refine ⟨by omega, by omega, fun _ => ?_, fun c => by omega⟩
    have hy : y1 = (mMinB (fun q => mTillAll (mFill (mThink N) q)) 100 (N 0 2).toNat).1 := by rw [← hp.1]
    rw [hy]
    refine gFor (α := Int × Int × AR × AR) (fun n i a => wX4_leave_8 ss _ n a.1 a.2.1 i a.2.2.1 a.2.2.2) (N 0 2) (fun i a => kept (fun q => mTillAll (mFill (mThink N) q)) i a.1 a.2.1) (fun n i a i0 i1 hp ih => ?_) (fun n a hp => ?_) 0 ⟨by omega, by omega⟩ (-9, 1000000000, mm, fa) (kept0 _)
    · obtain ⟨z2, z3, mm1, fa1⟩ := a
      dsimp only at hp
      dsimp only
      rw [wX4_leave_8_s]
      have hf := wf_fill (wf_think hw) i0 (by omega)
      have hr := mTillAll_range (mFill (mThink N) i)
      have h5 := hp.2.2
      refine ⟨by omega, by omega, fun c => by omega, fun c => s4_leaves hw hR i0 i1 (fun z hz => s4_allDoneIn hf.1 hz (fun mm' fa' => ?_))⟩
      by_cases c2 : mTillAll (mFill (mThink N) i) = 100
      · rw [show mOr (mTillAll (mFill (mThink N) i)) = -9 from if_pos c2]
        refine ⟨by omega, fun _ v ev => ?_, fun z => absurd z (by decide)⟩
        subst ev
        exact ih (z2, z3, mm', fa') (kept_skip i0 hp (Or.inr (by omega)))
      · rw [show mOr (mTillAll (mFill (mThink N) i)) = mTillAll (mFill (mThink N) i) from if_neg c2]
        refine ⟨by omega, fun z => by omega, fun _ => ⟨by omega, fun c3 v ev => ?_, fun c3 v ev => ?_⟩⟩
        · subst ev
          exact ih (i, mTillAll (mFill (mThink N) i), mm', fa') (kept_take (t := fun q => mTillAll (mFill (mThink N) q)) i0 hp (by omega))
        · subst ev
          exact ih (z2, z3, mm', fa') (kept_skip (z := z3) i0 hp (Or.inl (by omega)))
    · obtain ⟨z2, z3, mm1, fa1⟩ := a
      dsimp only at hp
      dsimp only
      rw [wX4_leave_8_s]
      exact ⟨by omega, by omega, fun _ => ⟨hp.1.symm, ⟨hw, ht, hR⟩, hIm, hRo, hLe, hRe⟩, fun c => by omega⟩
theorem mRight_range {M : MS} (hw : wf M) (g : Int) : 0 ≤ mRight M g ∧ mRight M g ≤ 8 := by
  have hq := hw.qs
  have h := (sum01 (f := fun q => if M 13 (g * 8 + q) = M 7 q then 1 else 0) (M 0 2).toNat (fun i i0 i1 => by by_cases c : M 13 (g * 8 + i) = M 7 i <;> simp [c])).1
  unfold mRight
  omega
theorem mRightAll_range {M : MS} (hw : wf M) : 0 ≤ mRightAll M ∧ mRightAll M ≤ 40 := by
  have hg := hw.gs
  have h := sumI_le (mRight M) 0 8 (M 0 7).toNat (fun i _ _ => mRight_range hw i)
  unfold mRightAll
  omega
def mTold (N : MS) (n q : Int) : Int := mRightAll (mMinutes n.toNat (st (mThink N) 4 q 5))
theorem op_tell {o : AR} {rw : AR} {rf : AR} {lg : AR} {sg : AR} {N : MS} {T : MS} {K : MS} {I : MS} {o2 : AR} {ss : AR} {mm : AR} {im : AR} {wa : AR} {le : AR} {ro : AR} {re : AR} {fa : AR} {nu : AR} (hI : gInv o rw rf lg sg N T K I o2 ss mm im wa le ro re fa nu) (x1 : Int) (hx1 : gR x1): wX3_tell rf N T x1 (fun (r : Int) (rf1 : AR) (T1 : MS) => wX4_tell ss mm re fa x1 (fun (r2 : Int) (mm1 : AR) (re1 : AR) (fa1 : AR) => r = r2 ∧ gInv o rw rf1 lg sg N T1 K I o2 ss mm1 im wa le ro re1 fa1 nu)) := by
  obtain ⟨hN, hIm, hRo, hLe, hRe⟩ := hI
  obtain ⟨hw, ht, hR⟩ := hN
  have hqs := hw.qs
  have e0 := hR.1
  refine ⟨hx1, fun a => ⟨fun b => ?_, fun b => s3_refuse (by omega) (s4_wrong6 hx1 b ⟨by omega, fun z => absurd z (by decide), fun _ => s4_no (by omega) ⟨rfl, ⟨hw, ht, hR⟩, hIm, hRo, hLe, hRe.no _⟩⟩)⟩, fun a => s3_refuse (by omega) (s4_wrong4 hx1 a ⟨by omega, fun z => absurd z (by decide), fun _ => s4_no (by omega) ⟨rfl, ⟨hw, ht, hR⟩, hIm, hRo, hLe, hRe.no _⟩⟩)⟩
  have h4 := wf_minutes x1.toNat (wf_think hw)
  have r4 := mRightAll_range h4.1
  have wq : ∀ i : Int, wf (st (mThink N) 4 i 5) := fun i => wf_st4 (wf_think hw) (by decide)
  refine s3_thinkAhead hw a (by omega) (s1_rightOfAll h4.1 ?_)
  refine gFor (α := Int × Int × MS) (fun n i a => wX3_tell_43 N _ n x1 a.1 a.2.1 i rf a.2.2) (N 0 2) (fun i a => (a.2.1, - a.1) = mMinB (fun q => - mTold N x1 q) (- mRightAll (mMinutes x1.toNat (mThink N))) i.toNat ∧ (0 ≤ a.1 ∧ a.1 ≤ 40)) (fun n i a i0 i1 hp ih => ?_) (fun n a hp => ?_) 0 ⟨by omega, by omega⟩ (mRightAll (mMinutes x1.toNat (mThink N)), -9, mMinutes x1.toNat (mThink N)) ⟨rfl, r4⟩
  · obtain ⟨y1, y2, T1⟩ := a
    dsimp only at hp
    dsimp only
    rw [wX3_tell_43_s]
    obtain ⟨hp, hb⟩ := hp
    have h5 := wf_minutes x1.toNat (wq i)
    have hr := mRightAll_range h5.1
    have e := mMinB_s (fun q => - mTold N x1 q) (- mRightAll (mMinutes x1.toNat (mThink N))) i0
    rw [← hp] at e
    dsimp only at e
    have et : mTold N x1 i = mRightAll (mMinutes x1.toNat (st (mThink N) 4 i 5)) := rfl
    refine ⟨by omega, by omega, fun c => by omega, fun c => s3_think ⟨by omega, fun z6 e6 => ?_⟩⟩
    subst e6
    refine s1_passMinutes (wq i) a (by omega) (s1_rightOfAll h5.1 ⟨by omega, by omega, fun c2 v ev => ?_, fun c2 => s1_rightOfAll h5.1 (fun v ev => ?_)⟩)
    · subst ev
      rw [if_neg (by omega)] at e
      exact ih (y1, y2, _) ⟨e.symm, hb⟩
    · subst ev
      rw [if_pos (by omega)] at e
      exact ih (mRightAll (mMinutes x1.toNat (st (mThink N) 4 i 5)), i, _) ⟨e.symm, hr⟩
  · obtain ⟨y1, y2, T1⟩ := a
    dsimp only at hp
    dsimp only
    rw [wX3_tell_43_s]
    refine ⟨by omega, by omega, fun _ => ?_, fun c => by omega⟩
    have hy : y2 = (mMinB (fun q => - mTold N x1 q) (- mRightAll (mMinutes x1.toNat (mThink N))) (N 0 2).toNat).1 := by rw [← hp.1]
    rw [hy]
    refine s4_wrong ⟨a, b⟩ ⟨by omega, fun _ => s4_lays (fun z hz => s4_minutesOn (wf_think hw) (Rep_think (hR.of hw (fun i i0 i1 => hz i i0 (by omega)))) a (by omega) (fun fa' r' h5 _ => s4_rightAll h4.1 h5 ?_)), fun z => absurd rfl z⟩
    refine gFor (α := Int × Int × AR × AR) (fun n i a => wX4_tell_50 ss _ n x1 a.1 a.2.1 i a.2.2.1 re a.2.2.2) (N 0 2) (fun i a => (a.2.1, - a.1) = mMinB (fun q => - mTold N x1 q) (- mRightAll (mMinutes x1.toNat (mThink N))) i.toNat ∧ (0 ≤ a.1 ∧ a.1 ≤ 40)) (fun n i a i0 i1 hp ih => ?_) (fun n a hp => ?_) 0 ⟨by omega, by omega⟩ (mRightAll (mMinutes x1.toNat (mThink N)), -9, r', fa') ⟨rfl, r4⟩
    · obtain ⟨z1, z2, mm1, fa1⟩ := a
      dsimp only at hp
      dsimp only
      rw [wX4_tell_50_s]
      obtain ⟨hp, hb⟩ := hp
      have h5 := wf_minutes x1.toNat (wq i)
      have hr := mRightAll_range h5.1
      have e := mMinB_s (fun q => - mTold N x1 q) (- mRightAll (mMinutes x1.toNat (mThink N))) i0
      rw [← hp] at e
      dsimp only at e
      have et : mTold N x1 i = mRightAll (mMinutes x1.toNat (st (mThink N) 4 i 5)) := rfl
      refine ⟨by omega, by omega, fun c => by omega, fun c => s4_lays (fun z hz => ⟨by omega, fun z7 e7 => ?_⟩)⟩
      subst e7
      have hz2 : Rep (mThink N) z := Rep_think (hR.of hw (fun i i0 i1 => hz i i0 (by omega)))
      refine s4_minutesOn (wq i) (Rep.st4 (wf_think hw) hz2 i0 i1 5) a (by omega) (fun fa2 r2 h6 _ => s4_rightAll h5.1 h6 ⟨by omega, by omega, fun c2 v ev => ?_, fun c2 v ev => ?_⟩)
      · subst ev
        rw [if_pos (by omega)] at e
        exact ih (mRightAll (mMinutes x1.toNat (st (mThink N) 4 i 5)), i, r2, fa2) ⟨e.symm, hr⟩
      · subst ev
        rw [if_neg (by omega)] at e
        exact ih (z1, z2, r2, fa2) ⟨e.symm, hb⟩
    · obtain ⟨z1, z2, mm1, fa1⟩ := a
      dsimp only at hp
      dsimp only
      rw [wX4_tell_50_s]
      refine ⟨by omega, by omega, fun _ => ⟨?_, ⟨hw, ht, hR⟩, hIm, hRo, hLe, hRe⟩, fun c => by omega⟩
      rw [← hp.1]
