/-! the best first question, and two who choose -/
def mSoon (N : MS) (g k : Int) : Int := mTill (st (mThink N) 10 g k) g
def mTrue (N : MS) (g k : Int) : Int := mRight (mMinutes 99 (st (mThink N) 10 g k)) g
theorem op_bestFirst {o : AR} {rw : AR} {rf : AR} {lg : AR} {sg : AR} {N : MS} {T : MS} {K : MS} {I : MS} {o2 : AR} {ss : AR} {mm : AR} {im : AR} {wa : AR} {le : AR} {ro : AR} {re : AR} {fa : AR} {nu : AR} (hI : gInv o rw rf lg sg N T K I o2 ss mm im wa le ro re fa nu) (x1 x2 : Int) (hx1 : gR x1) (hx2 : gR x2): wX3_bestFirst rf N T x1 x2 (fun (r : Int) (rf1 : AR) (T1 : MS) => wX4_bestFirst ss mm re fa x1 x2 (fun (r2 : Int) (mm1 : AR) (re1 : AR) (fa1 : AR) => r = r2 ∧ gInv o rw rf1 lg sg N T1 K I o2 ss mm1 im wa le ro re1 fa1 nu)) := by
  obtain ⟨hN, hIm, hRo, hLe, hRe⟩ := hI
  obtain ⟨hw, ht, hR⟩ := hN
  have hgs := hw.gs
  by_cases c1 : 0 ≤ x1 ∧ x1 < N 0 7
  · have wk : ∀ k : Int, 0 ≤ k → k < 8 → wf (st (mThink N) 10 x1 k) := fun k k0 k1 => wf_st10 (wf_think hw) (by omega)
    have no : ∀ c : ¬ (0 ≤ x2 ∧ x2 ≤ 1), wX4_bestFirst ss mm re fa x1 x2 (fun (r2 : Int) (mm1 : AR) (re1 : AR) (fa1 : AR) => -2 = r2 ∧ gInv o rw (su rf (-(-2)) ((rf (-(-2))) + 1)) lg sg N T K I o2 ss mm1 im wa le ro re1 fa1 nu) := fun c => s4_grp hw hR c1 ⟨fun _ => s4_isInN hx2 (by omega) (by omega) c ⟨fun z => absurd rfl z, fun _ => s4_no (by omega) ⟨rfl, ⟨hw, ht, hR⟩, hIm, hRo, hLe, hRe.no _⟩⟩, fun z => absurd z (by decide)⟩
    refine s3_grp hw c1 ⟨fun _ => ⟨hx2, fun a => s3_refuse (by omega) (no (by omega)), fun a => ⟨fun b => ⟨fun c => ?_, fun c => ?_⟩, fun b => s3_refuse (by omega) (no (by omega))⟩⟩, fun z => absurd rfl z⟩
    · refine gFor (α := Int × Int × MS) (fun n i a => wX3_truestFirst_7 N _ n x1 a.1 a.2.1 i a.2.2) 8 (fun i a => ((i = 0 ∧ a.1 = 0 ∧ a.2.1 = -1) ∨ (0 < i ∧ (a.1, - a.2.1) = mMinB (fun k => - mTrue N x1 k) 1 i.toNat)) ∧ (-1 ≤ a.2.1 ∧ a.2.1 ≤ 8)) (fun n i a i0 i1 hp ih => ?_) (fun n a hp => ?_) 0 ⟨by omega, by omega⟩ (0, -1, T) ⟨Or.inl ⟨rfl, rfl, rfl⟩, (by decide : (-1 : Int) ≤ -1 ∧ (-1 : Int) ≤ 8)⟩
      · obtain ⟨y1, y2, T1⟩ := a
        dsimp only at hp
        dsimp only
        rw [wX3_truestFirst_7_s]
        obtain ⟨hp, hb⟩ := hp
        obtain ⟨M, eM⟩ : ∃ M : MS, M = mMinutes (99 : Int).toNat (st (mThink N) 10 x1 i) := ⟨_, rfl⟩
        have h5 : wf M := by rw [eM]; exact (wf_minutes 99 (wk i i0 i1)).1
        have hr := mRight_range h5 x1
        have et : mTrue N x1 i = mRight M x1 := by rw [eM]; rfl
        have e := mMinB_s (fun k => - mTrue N x1 k) 1 i0
        have e2 : - y2 = (mMinB (fun k => - mTrue N x1 k) 1 i.toNat).2 := by
          rcases hp with hp | hp
          · rw [hp.1, hp.2.2]; rfl
          · rw [← hp.2]
        refine ⟨by omega, fun c => by omega, fun c => s3_think ⟨by omega, fun z5 e5 => ?_⟩⟩
        subst e5
        refine s1_passMinutes (wk i i0 i1) (by omega) (by omega) ?_
        rw [← eM]
        refine s1_rightOf h5 c1.1 (by omega) ⟨by omega, by omega, fun c2 v ev => ?_, fun c2 v ev => ?_⟩
        · subst ev
          rw [← e2, if_neg (by omega)] at e
          rcases hp with hp | hp
          · omega
          · rw [← hp.2] at e
            exact ih (y1, y2, M) ⟨Or.inr ⟨by omega, e.symm⟩, hb⟩
        · subst ev
          rw [← e2, if_pos (by omega)] at e
          rw [et] at e
          exact ih (i, mRight M x1, M) ⟨Or.inr ⟨by omega, e.symm⟩, (by omega : -1 ≤ mRight M x1 ∧ mRight M x1 ≤ 8)⟩
      · obtain ⟨y1, y2, T1⟩ := a
        dsimp only at hp
        dsimp only
        rw [wX3_truestFirst_7_s]
        refine ⟨by omega, fun _ => ?_, fun c => by omega⟩
        have hp : (y1, - y2) = mMinB (fun k => - mTrue N x1 k) 1 (8 : Int).toNat := by
          rcases hp.1 with z | z
          · omega
          · exact z.2
        refine s4_grp hw hR c1 ⟨fun _ => s4_isIn hx2 (by omega) (by omega) (by omega) ⟨fun _ => ⟨hx2, fun _ => ?_, fun z => absurd z c⟩, fun z => absurd z (by decide)⟩, fun z => absurd z (by decide)⟩
        refine gFor (α := Int × Int × AR × AR) (fun n i a => wX4_bestFirst_48 ss _ n x1 x2 a.1 a.2.1 i a.2.2.1 re a.2.2.2) 8 (fun i a => (a.1, - a.2.1) = mMinB (fun k => - mTrue N x1 k) 1 i.toNat ∧ (-1 ≤ a.2.1 ∧ a.2.1 ≤ 8)) (fun n i a i0 i1 hq ih => ?_) (fun n a hq => ?_) 0 ⟨by omega, by omega⟩ (-9, -1, mm, fa) ⟨rfl, (by decide : (-1 : Int) ≤ -1 ∧ (-1 : Int) ≤ 8)⟩
        · obtain ⟨z1, z2, mm1, fa1⟩ := a
          dsimp only at hq
          dsimp only
          rw [wX4_bestFirst_48_s]
          obtain ⟨hq, hb⟩ := hq
          obtain ⟨M, eM⟩ : ∃ M : MS, M = mMinutes (99 : Int).toNat (st (mThink N) 10 x1 i) := ⟨_, rfl⟩
          have h5 : wf M := by rw [eM]; exact (wf_minutes 99 (wk i i0 i1)).1
          have hr := mRight_range h5 x1
          have et : mTrue N x1 i = mRight M x1 := by rw [eM]; rfl
          have eg : M 0 7 = N 0 7 := by rw [eM]; exact (wf_minutes 99 (wk i i0 i1)).2.2.1
          have e := mMinB_s (fun k => - mTrue N x1 k) 1 i0
          rw [← hq] at e
          refine ⟨by omega, fun c => by omega, fun _ => s4_lays (fun z hz => ⟨by omega, fun z25 e25 => ⟨hx2, fun z => by omega, fun _ => ?_⟩⟩)⟩
          subst e25
          have hz2 : Rep (mThink N) z := Rep_think (hR.of hw (fun i i0 i1 => hz i i0 (by omega)))
          refine s4_minutesOn (wk i i0 i1) (Rep.st10 (wf_think hw) hz2 c1.1 c1.2 i) (by omega) (by omega) (fun fa2 r2 h6 _ => ?_)
          rw [← eM] at h6
          refine ⟨hx2, fun _ => s4_rightOf h5 h6 c1.1 (by omega) ⟨by omega, fun z => by omega, fun _ => ⟨hx2, fun _ => ⟨by omega, fun c3 v ev => ?_, fun c3 v ev => ?_⟩, fun z => absurd z c⟩⟩, fun z => absurd z c⟩
          · subst ev
            rw [if_pos (by dsimp only; omega)] at e
            rw [et] at e
            exact ih (i, mRight M x1, r2, fa2) ⟨e.symm, (by omega : -1 ≤ mRight M x1 ∧ mRight M x1 ≤ 8)⟩
          · subst ev
            rw [if_neg (by dsimp only; omega)] at e
            exact ih (z1, z2, r2, fa2) ⟨e.symm, hb⟩
        · obtain ⟨z1, z2, mm1, fa1⟩ := a
          dsimp only at hq
          dsimp only
          rw [wX4_bestFirst_48_s]
          refine ⟨by omega, fun _ => ⟨?_, ⟨hw, ht, hR⟩, hIm, hRo, hLe, hRe⟩, fun c => by omega⟩
          have e := hp.trans hq.1.symm
          exact (Prod.mk.inj e).1
    · refine gFor (α := Int × Int × MS) (fun n i a => wX3_soonestFirst_9 N _ n x1 a.1 a.2.1 i a.2.2) 8 (fun i a => (a.1, a.2.1) = mMinB (mSoon N x1) 100 i.toNat ∧ (0 ≤ a.2.1 ∧ a.2.1 ≤ 100)) (fun n i a i0 i1 hp ih => ?_) (fun n a hp => ?_) 0 ⟨by omega, by omega⟩ (-9, 100, T) ⟨rfl, (by decide : (0 : Int) ≤ 100 ∧ (100 : Int) ≤ 100)⟩
      · obtain ⟨y1, y2, T1⟩ := a
        dsimp only at hp
        dsimp only
        rw [wX3_soonestFirst_9_s]
        obtain ⟨hp, hb⟩ := hp
        have hr := mTill_range (st (mThink N) 10 x1 i) x1
        have et : mSoon N x1 i = mTill (st (mThink N) 10 x1 i) x1 := rfl
        have e := mMinB_s (mSoon N x1) 100 i0
        rw [← hp] at e
        refine ⟨by omega, fun c => by omega, fun c => s3_think ⟨by omega, fun z5 e5 => ?_⟩⟩
        subst e5
        refine s3_tillDone (wk i i0 i1) c1.1 (by omega) (fun T' => ⟨by omega, by omega, fun c2 v ev => ?_, fun c2 v ev => ?_⟩)
        · subst ev
          rw [if_neg (by dsimp only; omega)] at e
          exact ih (y1, y2, T') ⟨e.symm, hb⟩
        · subst ev
          rw [if_pos (by dsimp only; omega)] at e
          exact ih (i, mTill (st (mThink N) 10 x1 i) x1, T') ⟨e.symm, hr⟩
      · obtain ⟨y1, y2, T1⟩ := a
        dsimp only at hp
        dsimp only
        rw [wX3_soonestFirst_9_s]
        refine ⟨by omega, fun _ => ?_, fun c => by omega⟩
        have hy : y1 = (mMinB (mSoon N x1) 100 (8 : Int).toNat).1 := by rw [← hp.1]
        rw [hy]
        refine s4_grp hw hR c1 ⟨fun _ => s4_isIn hx2 (by omega) (by omega) (by omega) ⟨fun _ => ⟨hx2, fun z => absurd c z, fun _ => ?_⟩, fun z => absurd z (by decide)⟩, fun z => absurd z (by decide)⟩
        refine gFor (α := Int × Int × AR × AR) (fun n i a => wX4_bestFirst_48 ss _ n x1 x2 a.1 a.2.1 i a.2.2.1 re a.2.2.2) 8 (fun i a => kept (mSoon N x1) i a.1 a.2.1) (fun n i a i0 i1 hq ih => ?_) (fun n a hq => ?_) 0 ⟨by omega, by omega⟩ (-9, 1000000000, mm, fa) (kept0 _)
        · obtain ⟨z1, z2, mm1, fa1⟩ := a
          dsimp only at hq
          dsimp only
          rw [wX4_bestFirst_48_s]
          have hr := mTill_range (st (mThink N) 10 x1 i) x1
          have et : mSoon N x1 i = mTill (st (mThink N) 10 x1 i) x1 := rfl
          have h5 := hq.2.2
          refine ⟨by omega, fun c => by omega, fun _ => s4_lays (fun z hz => ⟨by omega, fun z25 e25 => ⟨hx2, fun _ => ?_, fun z => by omega⟩⟩)⟩
          subst e25
          have hz2 : Rep (mThink N) z := Rep_think (hR.of hw (fun i i0 i1 => hz i i0 (by omega)))
          refine ⟨hx2, fun z => absurd c z, fun _ => s4_doneIn (wk i i0 i1) (Rep.st10 (wf_think hw) hz2 c1.1 c1.2 i) c1.1 c1.2 (fun mm' fa' => ?_)⟩
          by_cases c2 : mTill (st (mThink N) 10 x1 i) x1 = 100
          · rw [show mOr (mTill (st (mThink N) 10 x1 i) x1) = -9 from if_pos c2]
            refine ⟨by omega, fun _ v ev => ?_, fun z => absurd z (by decide)⟩
            subst ev
            exact ih (z1, z2, mm', fa') (kept_skip i0 hq (Or.inr (by omega)))
          · rw [show mOr (mTill (st (mThink N) 10 x1 i) x1) = mTill (st (mThink N) 10 x1 i) x1 from if_neg c2]
            refine ⟨by omega, fun z => by omega, fun _ => ⟨hx2, fun z => absurd c z, fun _ => ⟨by omega, fun c3 v ev => ?_, fun c3 v ev => ?_⟩⟩⟩
            · subst ev
              exact ih (i, mTill (st (mThink N) 10 x1 i) x1, mm', fa') (kept_take (t := mSoon N x1) i0 hq (by omega))
            · subst ev
              exact ih (z1, z2, mm', fa') (kept_skip (z := z2) i0 hq (Or.inl (by omega)))
        · obtain ⟨z1, z2, mm1, fa1⟩ := a
          dsimp only at hq
          dsimp only
          rw [wX4_bestFirst_48_s]
          exact ⟨by omega, fun _ => ⟨hq.1.symm, ⟨hw, ht, hR⟩, hIm, hRo, hLe, hRe⟩, fun c => by omega⟩
  · exact s3_grpN hw hx1 c1 ⟨fun z => absurd z (by decide), fun _ => s3_refuse (by omega) (s4_grpN hw hR hx1 c1 ⟨fun z => absurd rfl z, fun _ => s4_no (by omega) ⟨rfl, ⟨hw, ht, hR⟩, hIm, hRo, hLe, hRe.no _⟩⟩)⟩
