def mChosen (N : MS) (p x q y : Int) : MS := st (st (mThink N) 10 p ((N 10 p + x) % 8)) 10 q ((N 10 q + y) % 8)
theorem chosen_swap (N : MS) {p q : Int} (h : ¬ p = q) (x y : Int) : mChosen N p x q y = mChosen N q y p x := by
  funext c i
  by_cases hc : c = 10
  · subst hc
    show su (su (N 10) p ((N 10 p + x) % 8)) q ((N 10 q + y) % 8) i = su (su (N 10) q ((N 10 q + y) % 8)) p ((N 10 p + x) % 8) i
    by_cases e1 : i = p
    · rw [e1, su_at, su_ne _ _ h, su_at]
    · by_cases e2 : i = q
      · rw [e2, su_at, su_ne _ _ (fun z => h z.symm), su_at]
      · rw [su_ne _ _ e2, su_ne _ _ e1, su_ne _ _ e1, su_ne _ _ e2]
  · simp [mChosen, st, uc, hc]
theorem wf_chosen {N : MS} (hw : wf N) (p x q y : Int) : wf (mChosen N p x q y) := wf_st10 (wf_st10 (wf_think hw) (by omega)) (by omega)
theorem s3_firstChosen {N : MS} (hw : wf N) {p x : Int} (hp : 0 ≤ p ∧ p < 5) (hx : 0 ≤ x ∧ x ≤ 1) {Q : Int → Prop} (h : Q ((N 10 p + x) % 8)) : wX3_firstChosen N p x Q := by
  have := (hw.g hp.1 hp.2).2.2.1
  exact ⟨hp, by omega, h⟩
theorem s3_byChoice {N T : MS} (hw : wf N) {p x q y : Int} (hp : 0 ≤ p ∧ p < 5) (hx : 0 ≤ x ∧ x ≤ 1) (hq : 0 ≤ q ∧ q < 5) (hy : 0 ≤ y ∧ y ≤ 1) {Q : Int → MS → Prop} (h : ∀ T', Q (mTill (mChosen N p x q y) p) T') : wX3_minutesByChoice N T p x q y Q :=
  s3_think (s3_firstChosen hw hp hx ⟨hp, fun z4 e4 => by
    subst e4
    exact s3_firstChosen hw hq hy ⟨hq, fun z7 e7 => by
      subst e7
      exact s3_tillDone (wf_chosen hw p x q y) hp.1 hp.2 h⟩⟩)
theorem s3_isContent {N T : MS} (hw : wf N) {p x q y : Int} (hp : 0 ≤ p ∧ p < 5) (hx : 0 ≤ x ∧ x ≤ 1) (hq : 0 ≤ q ∧ q < 5) (hy : 0 ≤ y ∧ y ≤ 1) {Q : Int → MS → Prop} (h : ∀ T', Q (if mTill (mChosen N p (1 - x) q y) p < mTill (mChosen N p x q y) p then 0 else 1) T') : wX3_isContent N T p x q y Q := by
  have r1 := mTill_range (mChosen N p (1 - x) q y) p
  have r2 := mTill_range (mChosen N p x q y) p
  refine s3_byChoice hw hp hx hq hy (fun T1 => s3_byChoice hw hp (by omega) hq hy (fun T2 => ⟨by omega, by omega, fun c => ?_, fun c => ?_⟩))
  · have h' := h T2
    rw [if_pos c] at h'
    exact h'
  · have h' := h T2
    rw [if_neg c] at h'
    exact h'
theorem s4_doneBy {N : MS} {ss mm fa : AR} (hw : wf N) (hR : Rep N ss) {w p x q y : Int} (hwho : 0 ≤ w ∧ w < N 0 7) (hp : 0 ≤ p ∧ p < N 0 7) (hx : 0 ≤ x ∧ x ≤ 1) (hq : 0 ≤ q ∧ q < N 0 7) (hy : 0 ≤ y ∧ y ≤ 1) {Q : Int → AR → AR → Prop} (h : ∀ mm' fa', Q (mTill (mChosen N p x q y) w) mm' fa') : wX4_doneBy ss mm fa w p x q y Q := by
  have hgs := hw.gs
  have h1 := (hw.g hp.1 (by omega)).2.2.1
  have h2 := (hw.g hq.1 (by omega)).2.2.1
  have e1 := (hR.g hp.1 hp.2).2.2.1
  have e2 := (hR.g hq.1 hq.2).2.2.1
  refine s4_lays (fun z hz => ⟨by omega, by omega, by omega, fun z7 e7 => ⟨by omega, by omega, by omega, fun z13 e13 => ?_⟩⟩)
  rw [e1] at e7
  rw [e2] at e13
  subst e7 e13
  have hz2 : Rep (mThink N) z := Rep_think (hR.of hw (fun i i0 i1 => hz i i0 (by omega)))
  have hz3 := Rep.st10 (wf_think hw) hz2 hp.1 hp.2 ((N 10 p + x) % 8)
  have hz4 := Rep.st10 (wf_st10 (wf_think hw) (by omega)) hz3 hq.1 hq.2 ((N 10 q + y) % 8)
  exact s4_doneIn (wf_chosen hw p x q y) hz4 hwho.1 hwho.2 (fun mm' fa' => s4_orNever (mTill_range _ _) (h mm' fa'))
def mTwoF (N : MS) (p q : Int) : Nat → Int → Int
  | 0, _ => -9
  | n + 1, k => if mTill (mChosen N p (1 - k / 2) q (k % 2)) p < mTill (mChosen N p (k / 2) q (k % 2)) p then mTwoF N p q n (k + 1) else if mTill (mChosen N p (k / 2) q (1 - k % 2)) q < mTill (mChosen N p (k / 2) q (k % 2)) q then mTwoF N p q n (k + 1) else 10 * (k / 2) + k % 2
theorem op_two {o : AR} {rw : AR} {rf : AR} {lg : AR} {sg : AR} {N : MS} {T : MS} {K : MS} {I : MS} {o2 : AR} {ss : AR} {mm : AR} {im : AR} {wa : AR} {le : AR} {ro : AR} {re : AR} {fa : AR} {nu : AR} (hI : gInv o rw rf lg sg N T K I o2 ss mm im wa le ro re fa nu) (x1 x2 : Int) (hx1 : gR x1) (hx2 : gR x2): wX3_two rf N T x1 x2 (fun (r : Int) (rf1 : AR) (T1 : MS) => wX4_two ss mm re fa x1 x2 (fun (r2 : Int) (mm1 : AR) (re1 : AR) (fa1 : AR) => r = r2 ∧ gInv o rw rf1 lg sg N T1 K I o2 ss mm1 im wa le ro re1 fa1 nu)) := by
  obtain ⟨hN, hIm, hRo, hLe, hRe⟩ := hI
  obtain ⟨hw, ht, hR⟩ := hN
  have hgs := hw.gs
  by_cases c1 : 0 ≤ x1 ∧ x1 < N 0 7
  · refine s3_grp hw c1 ⟨fun z => absurd rfl z, fun _ => ?_⟩
    by_cases c2 : 0 ≤ x2 ∧ x2 < N 0 7
    · refine s3_grp hw c2 ⟨fun z => absurd rfl z, fun _ => ⟨hx1, hx2, fun c3 => ?_, fun c3 => s3_refuse (by omega) (s4_grp hw hR c1 ⟨fun z => absurd z (by decide), fun _ => s4_grp hw hR c2 ⟨fun z => absurd z (by decide), fun _ => ⟨hx1, hx2, fun z => absurd c3 z, fun _ => s4_no (by omega) ⟨rfl, ⟨hw, ht, hR⟩, hIm, hRo, hLe, hRe.no _⟩⟩⟩⟩)⟩⟩
      have fin : ∀ T' : MS, wX4_two ss mm re fa x1 x2 (fun (r2 : Int) (mm1 : AR) (re1 : AR) (fa1 : AR) => mTwoF N x1 x2 4 0 = r2 ∧ gInv o rw rf lg sg N T' K I o2 ss mm1 im wa le ro re1 fa1 nu) := by
        intro T'
        refine s4_grp hw hR c1 ⟨fun z => absurd z (by decide), fun _ => s4_grp hw hR c2 ⟨fun z => absurd z (by decide), fun _ => ⟨hx1, hx2, fun _ => ?_, fun z => absurd z c3⟩⟩⟩
        refine gFor (α := AR × AR) (fun n k a => wX4_two_29 ss _ n x1 x2 k a.1 re a.2) 4 (fun k a => mTwoF N x1 x2 (4 - k).toNat k = mTwoF N x1 x2 4 0) (fun n k a k0 k1 hp ih => ?_) (fun n a hp => ?_) 0 ⟨by omega, by omega⟩ (mm, fa) rfl
        · obtain ⟨mm1, fa1⟩ := a
          dsimp only
          rw [wX4_two_29_s]
          rw [show ((4 : Int) - k).toNat = (4 - (k + 1)).toNat + 1 by omega] at hp
          unfold mTwoF at hp
          have r1 := mTill_range (mChosen N x1 (1 - k / 2) x2 (k % 2)) x1
          have r2 := mTill_range (mChosen N x1 (k / 2) x2 (k % 2)) x1
          have r3 := mTill_range (mChosen N x1 (k / 2) x2 (1 - k % 2)) x2
          have r4 := mTill_range (mChosen N x1 (k / 2) x2 (k % 2)) x2
          refine ⟨by omega, fun c => by omega, fun c => ⟨by omega, fun v4 e4 => ⟨by omega, fun v6 e6 => ?_⟩⟩⟩
          subst e4 e6
          refine s4_doneBy hw hR c1 c1 (by omega) c2 (by omega) (fun mm2 fa2 => s4_doneBy hw hR c1 c1 (by omega) c2 (by omega) (fun mm3 fa3 => ⟨by omega, by omega, fun d1 => ?_, fun d1 v ev => ?_⟩))
          · rw [if_neg (show ¬ mTill (mChosen N x1 (1 - k / 2) x2 (k % 2)) x1 < mTill (mChosen N x1 (k / 2) x2 (k % 2)) x1 by omega)] at hp
            refine s4_doneBy hw hR c2 c1 (by omega) c2 (by omega) (fun mm4 fa4 => s4_doneBy hw hR c2 c1 (by omega) c2 (by omega) (fun mm5 fa5 => ⟨by omega, by omega, fun d2 v ev => ?_, fun d2 => ?_⟩))
            · subst ev
              rw [if_pos d2] at hp
              exact ih (mm5, fa5) hp
            · rw [if_neg d2] at hp
              exact ⟨hp.symm, ⟨hw, ht, hR⟩, hIm, hRo, hLe, hRe⟩
          · subst ev
            rw [if_pos (show mTill (mChosen N x1 (1 - k / 2) x2 (k % 2)) x1 < mTill (mChosen N x1 (k / 2) x2 (k % 2)) x1 by omega)] at hp
            exact ih (mm3, fa3) hp
        · obtain ⟨mm1, fa1⟩ := a
          dsimp only
          rw [wX4_two_29_s]
          exact ⟨by omega, fun _ => ⟨hp.symm, ⟨hw, ht, hR⟩, hIm, hRo, hLe, hRe⟩, fun c => by omega⟩
      refine gFor (α := MS) (fun n x a => wX3_two_29 N _ n x1 x2 x rf a) 2 (fun x a => mTwoF N x1 x2 (4 - 2 * x).toNat (2 * x) = mTwoF N x1 x2 4 0) (fun n x T1 k0 k1 hp ih => ?_) (fun n T1 hp => ?_) 0 ⟨by omega, by omega⟩ T rfl
      · rw [wX3_two_29_s]
        refine ⟨by omega, fun c => by omega, fun c => ?_⟩
        refine gFor (α := MS) (fun n y a => wX3_two_37 N (wX3_two_29 N _ _) _ n x1 x2 x y rf a) 2 (fun y a => mTwoF N x1 x2 (4 - (2 * x + y)).toNat (2 * x + y) = mTwoF N x1 x2 4 0) (fun n y T2 y0 y1 hq ih2 => ?_) (fun n T2 hq => ?_) 0 ⟨by omega, by omega⟩ T1 (by rw [show 2 * x + 0 = 2 * x by omega]; exact hp)
        · rw [wX3_two_37_s]
          rw [show (4 - (2 * x + y)).toNat = (4 - (2 * x + (y + 1))).toNat + 1 by omega] at hq
          unfold mTwoF at hq
          rw [show (2 * x + y) / 2 = x by omega, show (2 * x + y) % 2 = y by omega, show 2 * x + y + 1 = 2 * x + (y + 1) by omega] at hq
          refine ⟨by omega, fun c => by omega, fun c => s3_isContent hw (by omega) (by omega) (by omega) (by omega) (fun T3 => ?_)⟩
          by_cases d1 : mTill (mChosen N x1 (1 - x) x2 y) x1 < mTill (mChosen N x1 x x2 y) x1
          · rw [if_pos d1]
            rw [if_pos d1] at hq
            refine ⟨fun _ v ev => ?_, fun z => absurd rfl z⟩
            subst ev
            exact ih2 _ hq
          · rw [if_neg d1]
            rw [if_neg d1] at hq
            refine ⟨fun z => absurd z (by decide), fun _ => s3_isContent hw (by omega) (by omega) (by omega) (by omega) (fun T4 => ?_)⟩
            rw [chosen_swap N (fun z => c3 z.symm) (1 - y) x, chosen_swap N (fun z => c3 z.symm) y x]
            by_cases d2 : mTill (mChosen N x1 x x2 (1 - y)) x2 < mTill (mChosen N x1 x x2 y) x2
            · rw [if_pos d2]
              rw [if_pos d2] at hq
              refine ⟨fun _ v ev => ?_, fun z => absurd rfl z⟩
              subst ev
              exact ih2 _ hq
            · rw [if_neg d2]
              rw [if_neg d2] at hq
              refine ⟨fun z => absurd z (by decide), fun _ => ?_⟩
              rw [hq]
              exact fin T4
        · rw [wX3_two_37_s]
          refine ⟨by omega, fun _ v ev => ?_, fun c => by omega⟩
          subst ev
          rw [show 2 * x + 2 = 2 * (x + 1) by omega] at hq
          exact ih _ hq
      · rw [wX3_two_29_s]
        refine ⟨by omega, fun _ => ?_, fun c => by omega⟩
        rw [show (-9 : Int) = mTwoF N x1 x2 4 0 from hp]
        exact fin T1
    · exact s3_grpN hw hx2 c2 ⟨fun _ => s3_refuse (by omega) (s4_grp hw hR c1 ⟨fun z => absurd z (by decide), fun _ => s4_grpN hw hR hx2 c2 ⟨fun _ => s4_no (by omega) ⟨rfl, ⟨hw, ht, hR⟩, hIm, hRo, hLe, hRe.no _⟩, fun z => absurd rfl z⟩⟩), fun z => absurd z (by decide)⟩
  · exact s3_grpN hw hx1 c1 ⟨fun _ => s3_refuse (by omega) (s4_grpN hw hR hx1 c1 ⟨fun _ => s4_no (by omega) ⟨rfl, ⟨hw, ht, hR⟩, hIm, hRo, hLe, hRe.no _⟩, fun z => absurd rfl z⟩), fun z => absurd z (by decide)⟩
