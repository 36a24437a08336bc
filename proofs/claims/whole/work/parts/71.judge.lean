/-! the row told, and judged -/
def mJudF (w : AR) (g : Int) : Nat → Int → MS → Int
  | 0, _, _ => -9
  | n + 1, j, M => if mAns M g = w j then mJudF w g n (j + 1) (mMinute M) else j
theorem mJudF_range (w : AR) (g : Int) : ∀ (n : Nat) (j : Int) (M : MS), 0 ≤ j → mJudF w g n j M = -9 ∨ (j ≤ mJudF w g n j M ∧ mJudF w g n j M < j + n) := by
  intro n
  induction n with
  | zero => intro j M _; exact Or.inl rfl
  | succ n ih =>
    intro j M j0
    have h := ih (j + 1) (mMinute M) (by omega)
    unfold mJudF
    by_cases c : mAns M g = w j
    · rw [if_pos c]; omega
    · rw [if_neg c]; omega
theorem op_judge {o : AR} {rw : AR} {rf : AR} {lg : AR} {sg : AR} {N : MS} {T : MS} {K : MS} {I : MS} {o2 : AR} {ss : AR} {mm : AR} {im : AR} {wa : AR} {le : AR} {ro : AR} {re : AR} {fa : AR} {nu : AR} (hI : gInv o rw rf lg sg N T K I o2 ss mm im wa le ro re fa nu) (x1 : Int) (hx1 : gR x1): wX3_judge o rw rf N T x1 (fun (r : Int) (o1 : AR) (rf1 : AR) (T1 : MS) => wX4_judge o2 ss mm ro re fa x1 (fun (r2 : Int) (o21 : AR) (mm1 : AR) (re1 : AR) (fa1 : AR) => r = r2 ∧ gInv o1 rw rf1 lg sg N T1 K I o21 ss mm1 im wa le ro re1 fa1 nu)) := by
  obtain ⟨hN, hIm, hRo, hLe, hRe⟩ := hI
  obtain ⟨hw, ht, hR⟩ := hN
  have hgs := hw.gs
  have hqs := hw.qs
  have eL := hRo.1
  have bL := hRo.2.1
  by_cases c1 : 0 ≤ x1 ∧ x1 < N 0 7
  · refine s3_grp hw c1 ⟨fun _ => s3_think ?_, fun z => absurd rfl z⟩
    have hr0 := mJudF_range rw x1 (o 7).toNat 0 (mThink N) (by omega)
    have fin : ∀ T' : MS, wX4_judge o2 ss mm ro re fa x1 (fun (r2 : Int) (o21 : AR) (mm1 : AR) (re1 : AR) (fa1 : AR) => mJudF rw x1 (o 7).toNat 0 (mThink N) = r2 ∧ gInv (su o 7 0) rw rf lg sg N T' K I o21 ss mm1 im wa le ro re1 fa1 nu) := by
      intro T'
      have gv : ∀ mm1 fa1 : AR, gInv (su o 7 0) rw rf lg sg N T' K I (su o2 9 0) ss mm1 im wa le ro re fa1 nu := fun mm1 fa1 => ⟨⟨hw, ht, hR⟩, hIm.of (su_ne _ _ (by decide)) (su_ne _ _ (by decide)), ⟨by rw [su_at, su_at], by rw [su_at]; omega, fun j j0 j1 => by rw [su_at] at j1; omega⟩, hLe.of (su_ne _ _ (by decide)), hRe⟩
      refine s4_grp hw hR c1 ⟨fun _ v ev z ez => s4_lays (fun z2 hz => ?_), fun z => absurd z (by decide)⟩
      subst ev ez
      refine gFor (α := AR × AR) (fun n j a => wX4_judge_37 ss ro _ n x1 (o2 9) j (su o2 9 0) a.1 re a.2) (o 7) (fun j a => ∃ M : MS, wf M ∧ Rep M a.1 ∧ M 0 7 = N 0 7 ∧ M 0 2 = N 0 2 ∧ mJudF rw x1 (o 7 - j).toNat j M = mJudF rw x1 (o 7).toNat 0 (mThink N)) (fun n j a j0 j1 hp ih => ?_) (fun n a hp => ?_) 0 ⟨by omega, by omega⟩ (z2, fa) ⟨mThink N, wf_think hw, Rep_think (hR.of hw (fun i i0 i1 => hz i i0 (by omega))), rfl, rfl, by rw [show o 7 - 0 = o 7 by omega]⟩
      · obtain ⟨mm1, fa1⟩ := a
        dsimp only at hp
        dsimp only
        rw [wX4_judge_37_s]
        obtain ⟨M, hw', hR', eg, eq, he⟩ := hp
        have hro := hRo.2.2 j j0 j1
        have ha := mAns_range hw' x1
        rw [show (o 7 - j).toNat = (o 7 - (j + 1)).toNat + 1 by omega] at he
        have he : (if mAns M x1 = rw j then mJudF rw x1 (o 7 - (j + 1)).toNat (j + 1) (mMinute M) else j) = mJudF rw x1 (o 7).toNat 0 (mThink N) := he
        refine ⟨by omega, by omega, fun c => by omega, fun c => s4_answersOf hw' hR' c1.1 (by omega) ⟨by omega, by omega, by omega, fun d => s4_minute hw' hR' (fun fa2 mm2 h2 _ v ev => ?_), fun d => ?_⟩⟩
        · subst ev
          rw [if_pos (by omega)] at he
          exact ih (mm2, fa2) ⟨mMinute M, wf_minute hw', h2, by rw [mMinute_gs hw']; exact eg, by rw [mMinute_qs hw']; exact eq, he⟩
        · rw [if_neg (by omega)] at he
          exact ⟨he.symm, gv _ _⟩
      · obtain ⟨mm1, fa1⟩ := a
        dsimp only at hp
        dsimp only
        rw [wX4_judge_37_s]
        obtain ⟨M, hw', hR', eg, eq, he⟩ := hp
        rw [show o 7 - o 7 = (0 : Int) by omega] at he
        exact ⟨by omega, by omega, fun _ => ⟨he.symm, gv _ _⟩, fun c => by omega⟩
    refine gFor (α := Int × MS) (fun n j a => wX3_judge_23 rw N _ n x1 a.1 j o rf a.2) (o 7) (fun j a => (a.1 = -9 ∧ wf a.2 ∧ a.2 0 7 = N 0 7 ∧ a.2 0 2 = N 0 2 ∧ mJudF rw x1 (o 7 - j).toNat j a.2 = mJudF rw x1 (o 7).toNat 0 (mThink N)) ∨ (0 ≤ a.1 ∧ a.1 = mJudF rw x1 (o 7).toNat 0 (mThink N))) (fun n j a j0 j1 hp ih => ?_) (fun n a hp => ?_) 0 ⟨by omega, by omega⟩ (-9, mThink N) (Or.inl ⟨rfl, wf_think hw, rfl, rfl, by rw [show o 7 - 0 = o 7 by omega]⟩)
    · obtain ⟨y2, T'⟩ := a
      dsimp only at hp
      dsimp only
      rw [wX3_judge_23_s]
      rcases hp with ⟨e9, hw', eg, eq, he⟩ | ⟨e0, he⟩
      · have hro := hRo.2.2 j j0 j1
        have ha := mAns_range hw' x1
        rw [show (o 7 - j).toNat = (o 7 - (j + 1)).toNat + 1 by omega] at he
        have he : (if mAns T' x1 = rw j then mJudF rw x1 (o 7 - (j + 1)).toNat (j + 1) (mMinute T') else j) = mJudF rw x1 (o 7).toNat 0 (mThink N) := he
        refine ⟨by omega, by omega, fun c => by omega, fun c => ⟨by omega, fun z => absurd e9 z, fun _ => s1_answersOf hw' c1.1 (by omega) ⟨by omega, by omega, by omega, fun d => s1_passMinute hw' (fun v ev => ?_), fun d => s1_passMinute hw' (fun v ev => ?_)⟩⟩⟩
        · subst ev
          rw [if_pos d] at he
          exact ih (y2, mMinute T') (Or.inl ⟨e9, wf_minute hw', by dsimp only; rw [mMinute_gs hw']; exact eg, by dsimp only; rw [mMinute_qs hw']; exact eq, he⟩)
        · subst ev
          rw [if_neg d] at he
          exact ih (j, mMinute T') (Or.inr ⟨j0, he⟩)
      · refine ⟨by omega, by omega, fun c => by omega, fun c => ⟨by omega, fun _ z ez => ?_, fun z => by omega⟩⟩
        subst ez
        rw [he]
        exact fin T'
    · obtain ⟨y2, T'⟩ := a
      dsimp only at hp
      dsimp only
      rw [wX3_judge_23_s]
      refine ⟨by omega, by omega, fun _ z ez => ?_, fun c => by omega⟩
      subst ez
      have hy : y2 = mJudF rw x1 (o 7).toNat 0 (mThink N) := by
        rcases hp with ⟨e9, hw', eg, eq, he⟩ | ⟨e0, he⟩
        · rw [show o 7 - o 7 = (0 : Int) by omega] at he
          rw [e9]; exact he
        · exact he
      rw [hy]
      exact fin T'
  · exact s3_grpN hw hx1 c1 ⟨fun z => absurd z (by decide), fun _ => s3_refuse (by omega) (s4_grpN hw hR hx1 c1 ⟨fun z => absurd rfl z, fun _ => s4_no (by omega) ⟨rfl, ⟨hw, ht, hR⟩, hIm, hRo, hLe, hRe.no _⟩⟩)⟩
