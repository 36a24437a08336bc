/-! the calls that think ahead -/
theorem op_behind {o : AR} {rw : AR} {rf : AR} {lg : AR} {sg : AR} {N : MS} {T : MS} {K : MS} {I : MS} {o2 : AR} {ss : AR} {mm : AR} {im : AR} {wa : AR} {le : AR} {ro : AR} {re : AR} {fa : AR} {nu : AR} (hI : gInv o rw rf lg sg N T K I o2 ss mm im wa le ro re fa nu) (x1 x2 x3 : Int) (hx1 : gR x1) (hx2 : gR x2) (hx3 : gR x3): wX3_behind rf N T x1 x2 x3 (fun (r : Int) (rf1 : AR) (T1 : MS) => wX4_behind ss mm re fa x1 x2 x3 (fun (r2 : Int) (mm1 : AR) (re1 : AR) (fa1 : AR) => r = r2 ∧ gInv o rw rf1 lg sg N T1 K I o2 ss mm1 im wa le ro re1 fa1 nu)) := by
  obtain ⟨hN, hIm, hRo, hLe, hRe⟩ := hI
  obtain ⟨hw, ht, hR⟩ := hN
  have hgs := hw.gs
  have no36 : ∀ c : Int, (-6 ≤ c ∧ c ≤ -1) → wX4_behind_36 ss (fun (r2 : Int) (mm1 : AR) (re1 : AR) (fa1 : AR) => c = r2 ∧ gInv o rw (su rf (-c) ((rf (-c)) + 1)) lg sg N T K I o2 ss mm1 im wa le ro re1 fa1 nu) x1 x2 x3 c mm re fa := fun c h => ⟨by omega, fun z => by omega, fun _ => s4_no (by omega) ⟨rfl, ⟨hw, ht, hR⟩, hIm, hRo, hLe, hRe.no _⟩⟩
  by_cases c1 : 0 ≤ x1 ∧ x1 < N 0 7
  · refine s3_grp hw c1 ⟨fun _ => ⟨hx2, fun a => ⟨fun b => ⟨hx3, fun c => s3_refuse (by omega) ?_, fun c => ⟨fun d => ?_, fun d => s3_refuse (by omega) ?_⟩⟩, fun b => s3_refuse (by omega) ?_⟩, fun a => s3_refuse (by omega) ?_⟩, fun z => absurd rfl z⟩
    · exact s4_grp hw hR c1 ⟨fun _ => s4_wrong ⟨a, b⟩ ⟨by omega, fun z => absurd rfl z, fun _ => s4_isInN hx3 (by omega) (by omega) (by omega) ⟨fun z => absurd rfl z, fun _ => no36 (-2) (by omega)⟩⟩, fun z => absurd z (by decide)⟩
    · have h4 := wf_minutes x2.toNat (wf_think hw)
      have eg : (mThink N) 0 7 = N 0 7 := rfl
      have eq : (mThink N) 0 2 = N 0 2 := rfl
      have ref : ∀ v : Int, (∀ r' : AR, Rep (mMinutes x2.toNat (mThink N)) r' → RepF (mMinutes x2.toNat (mThink N)) r' → ∀ Q' : Int → AR → AR → AR → Prop, (∀ fa', Q' v r' re fa') → ∀ fa', (gR x3) ∧ (¬ x3 = 0 → (¬ x3 = 1 → (¬ x3 = 2 → wX4_copiedOf r' x1 (fun u10 : Int => Q' u10 r' re fa')) ∧ (x3 = 2 → wX4_rightOf r' x1 (fun u11 : Int => Q' u11 r' re fa'))) ∧ (x3 = 1 → wX4_answersOf r' x1 (fun u12 : Int => Q' u12 r' re fa'))) ∧ (x3 = 0 → wX4_of x1 3 (fun u13 : Int => (0 ≤ u13 ∧ u13 < 147) ∧ Q' (r' u13) r' re fa'))) → wX4_behind ss mm re fa x1 x2 x3 (fun (r2 : Int) (mm1 : AR) (re1 : AR) (fa1 : AR) => v = r2 ∧ gInv o rw rf lg sg N (mMinutes x2.toNat (mThink N)) K I o2 ss mm1 im wa le ro re1 fa1 nu) := by
        intro v hv
        refine s4_grp hw hR c1 ⟨fun _ => s4_wrong ⟨a, b⟩ ⟨by omega, fun z => absurd rfl z, fun _ => s4_isIn hx3 (by omega) (by omega) (by omega) ⟨fun _ => ⟨by omega, fun _ => ?_, fun z => absurd rfl z⟩, fun z => absurd z (by decide)⟩⟩, fun z => absurd z (by decide)⟩
        refine s4_begins hw hR (fun z hz hzF => s4_minutesOn (wf_think hw) hz a (by omega) (fun fa' r' h5 h6 => ?_))
        exact hv r' h5 (h6 hzF) (fun (r2 : Int) (mm1 : AR) (re1 : AR) (fa1 : AR) => v = r2 ∧ gInv o rw rf lg sg N (mMinutes x2.toNat (mThink N)) K I o2 ss mm1 im wa le ro re1 fa1 nu) (fun _ => ⟨rfl, ⟨hw, ht, hR⟩, hIm, hRo, hLe, hRe⟩) fa'
      refine s3_thinkAhead hw a (by omega) ⟨fun e => ⟨by omega, ref _ (fun r' h5 h6 Q' hQ fa' => ⟨hx3, fun z => absurd e z, fun _ => ⟨by omega, ?_⟩⟩)⟩, fun e => s1_answersOf h4.1 c1.1 (by omega) (ref _ (fun r' h5 h6 Q' hQ fa' => ⟨hx3, fun _ => ⟨fun z => absurd e z, fun _ => s4_answersOf h4.1 h5 c1.1 (by omega) (hQ fa')⟩, fun z => by omega⟩)), fun e => s1_rightOf h4.1 c1.1 (by omega) (ref _ (fun r' h5 h6 Q' hQ fa' => ⟨hx3, fun _ => ⟨fun _ => ⟨fun z => absurd e z, fun _ => s4_rightOf h4.1 h5 c1.1 (by omega) (hQ fa')⟩, fun z => by omega⟩, fun z => by omega⟩)), fun e => s1_copiedBy h4.1 c1.1 (by omega) (ref _ (fun r' h5 h6 Q' hQ fa' => ⟨hx3, fun _ => ⟨fun _ => ⟨fun _ => s4_copiedOf h4.1 h5 h6 c1.1 (by omega) (hQ fa'), fun z => by omega⟩, fun z => by omega⟩, fun z => by omega⟩))⟩
      have h7 := (h5.g c1.1 (by omega)).2.2.2.1
      rw [h7]
      exact hQ fa'
    · exact s4_grp hw hR c1 ⟨fun _ => s4_wrong ⟨a, b⟩ ⟨by omega, fun z => absurd rfl z, fun _ => s4_isInN hx3 (by omega) (by omega) (by omega) ⟨fun z => absurd rfl z, fun _ => no36 (-2) (by omega)⟩⟩, fun z => absurd z (by decide)⟩
    · exact s4_grp hw hR c1 ⟨fun _ => s4_wrong6 hx2 b ⟨by omega, fun _ => no36 (-6) (by omega), fun z => absurd z (by decide)⟩, fun z => absurd z (by decide)⟩
    · exact s4_grp hw hR c1 ⟨fun _ => s4_wrong4 hx2 a ⟨by omega, fun _ => no36 (-4) (by omega), fun z => absurd z (by decide)⟩, fun z => absurd z (by decide)⟩
  · exact s3_grpN hw hx1 c1 ⟨fun z => absurd z (by decide), fun _ => s3_refuse (by omega) (s4_grpN hw hR hx1 c1 ⟨fun z => absurd rfl z, fun _ => ⟨by omega, fun _ => no36 (-1) (by omega), fun z => absurd z (by decide)⟩⟩)⟩
theorem op_done {o : AR} {rw : AR} {rf : AR} {lg : AR} {sg : AR} {N : MS} {T : MS} {K : MS} {I : MS} {o2 : AR} {ss : AR} {mm : AR} {im : AR} {wa : AR} {le : AR} {ro : AR} {re : AR} {fa : AR} {nu : AR} (hI : gInv o rw rf lg sg N T K I o2 ss mm im wa le ro re fa nu) (x1 : Int) (hx1 : gR x1): wX3_done rf N T x1 (fun (r : Int) (rf1 : AR) (T1 : MS) => wX4_done ss mm re fa x1 (fun (r2 : Int) (mm1 : AR) (re1 : AR) (fa1 : AR) => r = r2 ∧ gInv o rw rf1 lg sg N T1 K I o2 ss mm1 im wa le ro re1 fa1 nu)) := by
  obtain ⟨hN, hIm, hRo, hLe, hRe⟩ := hI
  obtain ⟨hw, ht, hR⟩ := hN
  have hgs := hw.gs
  by_cases c1 : 0 ≤ x1 ∧ x1 < N 0 7
  · exact s3_grp hw c1 ⟨fun _ => s3_think (s3_tillDone (wf_think hw) c1.1 (by omega) (fun T' => s3_none (mTill_range _ _) (s4_grp hw hR c1 ⟨fun z => absurd z (by decide), fun _ => s4_doneNow hw hR c1.1 c1.2 (fun mm' fa' => ⟨rfl, ⟨hw, ht, hR⟩, hIm, hRo, hLe, hRe⟩)⟩))), fun z => absurd rfl z⟩
  · exact s3_grpN hw hx1 c1 ⟨fun z => absurd z (by decide), fun _ => s3_refuse (by omega) (s4_grpN hw hR hx1 c1 ⟨fun _ => s4_no (by omega) ⟨rfl, ⟨hw, ht, hR⟩, hIm, hRo, hLe, hRe.no _⟩, fun z => absurd rfl z⟩)⟩
theorem op_answer {o : AR} {rw : AR} {rf : AR} {lg : AR} {sg : AR} {N : MS} {T : MS} {K : MS} {I : MS} {o2 : AR} {ss : AR} {mm : AR} {im : AR} {wa : AR} {le : AR} {ro : AR} {re : AR} {fa : AR} {nu : AR} (hI : gInv o rw rf lg sg N T K I o2 ss mm im wa le ro re fa nu) (x1 x2 x3 : Int) (hx1 : gR x1) (hx2 : gR x2) (hx3 : gR x3): wX3_answer rf N T x1 x2 x3 (fun (r : Int) (rf1 : AR) (T1 : MS) => wX4_answer ss mm re fa x1 x2 x3 (fun (r2 : Int) (mm1 : AR) (re1 : AR) (fa1 : AR) => r = r2 ∧ gInv o rw rf1 lg sg N T1 K I o2 ss mm1 im wa le ro re1 fa1 nu)) := by
  obtain ⟨hN, hIm, hRo, hLe, hRe⟩ := hI
  obtain ⟨hw, ht, hR⟩ := hN
  have hgs := hw.gs
  have hqs := hw.qs
  by_cases c1 : 0 ≤ x1 ∧ x1 < N 0 7
  · refine s3_grp hw c1 ⟨fun z => absurd rfl z, fun _ => ?_⟩
    by_cases c2 : 0 ≤ x2 ∧ x2 < N 0 2
    · have h4 := wf_minutes 99 (wf_think hw)
      have eg : (mThink N) 0 7 = N 0 7 := rfl
      have eq : (mThink N) 0 2 = N 0 2 := rfl
      refine s3_ques hw c2 ⟨fun _ => ⟨hx3, fun c => s3_refuse (by omega) ?_, fun c => ⟨fun d => ?_, fun d => s3_refuse (by omega) ?_⟩⟩, fun z => absurd rfl z⟩
      · exact s4_grp hw hR c1 ⟨fun z => absurd z (by decide), fun _ => s4_ques hw hR c2 ⟨fun _ => s4_isInN hx3 (by omega) (by omega) (by omega) ⟨fun z => absurd rfl z, fun _ => s4_no (by omega) ⟨rfl, ⟨hw, ht, hR⟩, hIm, hRo, hLe, hRe.no _⟩⟩, fun z => absurd z (by decide)⟩⟩
      · refine s3_thinkAhead hw (by omega) (by omega) ⟨fun e => ⟨by omega, ?_⟩, fun e => ⟨by omega, ?_⟩⟩
        · refine s4_grp hw hR c1 ⟨fun z => absurd z (by decide), fun _ => s4_ques hw hR c2 ⟨fun _ => s4_isIn hx3 (by omega) (by omega) (by omega) ⟨fun _ => s4_begins hw hR (fun z hz hzF => s4_minutesOn (wf_think hw) hz (by omega) (by omega) (fun fa' r' h5 h6 => ⟨hx3, fun _ => ⟨by omega, ?_, ⟨hw, ht, hR⟩, hIm, hRo, hLe, hRe⟩, fun z => absurd z e⟩)), fun z => absurd z (by decide)⟩, fun z => absurd z (by decide)⟩⟩
          exact (h6 hzF x1 x2 c1.1 (by rw [show (99 : Int).toNat = 99 from rfl]; omega) c2.1 (by rw [show (99 : Int).toNat = 99 from rfl]; omega)).symm
        · refine s4_grp hw hR c1 ⟨fun z => absurd z (by decide), fun _ => s4_ques hw hR c2 ⟨fun _ => s4_isIn hx3 (by omega) (by omega) (by omega) ⟨fun _ => s4_begins hw hR (fun z hz hzF => s4_minutesOn (wf_think hw) hz (by omega) (by omega) (fun fa' r' h5 h6 => ⟨hx3, fun z => absurd e z, fun _ => ⟨by omega, ?_, ⟨hw, ht, hR⟩, hIm, hRo, hLe, hRe⟩⟩)), fun z => absurd z (by decide)⟩, fun z => absurd z (by decide)⟩⟩
          exact (h5.s c1.1 (by rw [show (99 : Int).toNat = 99 from rfl]; omega) c2.1 (by rw [show (99 : Int).toNat = 99 from rfl]; omega)).symm
      · exact s4_grp hw hR c1 ⟨fun z => absurd z (by decide), fun _ => s4_ques hw hR c2 ⟨fun _ => s4_isInN hx3 (by omega) (by omega) (by omega) ⟨fun z => absurd rfl z, fun _ => s4_no (by omega) ⟨rfl, ⟨hw, ht, hR⟩, hIm, hRo, hLe, hRe.no _⟩⟩, fun z => absurd z (by decide)⟩⟩
    · exact s3_quesN hw hx2 c2 ⟨fun z => absurd z (by decide), fun _ => s3_refuse (by omega) (s4_grp hw hR c1 ⟨fun z => absurd z (by decide), fun _ => s4_quesN hw hR hx2 c2 ⟨fun z => absurd rfl z, fun _ => s4_no (by omega) ⟨rfl, ⟨hw, ht, hR⟩, hIm, hRo, hLe, hRe.no _⟩⟩⟩)⟩
  · exact s3_grpN hw hx1 c1 ⟨fun _ => s3_refuse (by omega) (s4_grpN hw hR hx1 c1 ⟨fun _ => s4_no (by omega) ⟨rfl, ⟨hw, ht, hR⟩, hIm, hRo, hLe, hRe.no _⟩, fun z => absurd rfl z⟩), fun z => absurd z (by decide)⟩
theorem op_right {o : AR} {rw : AR} {rf : AR} {lg : AR} {sg : AR} {N : MS} {T : MS} {K : MS} {I : MS} {o2 : AR} {ss : AR} {mm : AR} {im : AR} {wa : AR} {le : AR} {ro : AR} {re : AR} {fa : AR} {nu : AR} (hI : gInv o rw rf lg sg N T K I o2 ss mm im wa le ro re fa nu) (x1 : Int) (hx1 : gR x1): wX3_right rf N T x1 (fun (r : Int) (rf1 : AR) (T1 : MS) => wX4_right ss mm re fa x1 (fun (r2 : Int) (mm1 : AR) (re1 : AR) (fa1 : AR) => r = r2 ∧ gInv o rw rf1 lg sg N T1 K I o2 ss mm1 im wa le ro re1 fa1 nu)) := by
  obtain ⟨hN, hIm, hRo, hLe, hRe⟩ := hI
  obtain ⟨hw, ht, hR⟩ := hN
  refine ⟨hx1, fun a => ⟨fun b => ?_, fun b => s3_refuse (by omega) (s4_wrong6 hx1 b ⟨by omega, fun z => absurd z (by decide), fun _ => s4_no (by omega) ⟨rfl, ⟨hw, ht, hR⟩, hIm, hRo, hLe, hRe.no _⟩⟩)⟩, fun a => s3_refuse (by omega) (s4_wrong4 hx1 a ⟨by omega, fun z => absurd z (by decide), fun _ => s4_no (by omega) ⟨rfl, ⟨hw, ht, hR⟩, hIm, hRo, hLe, hRe.no _⟩⟩)⟩
  have h4 := wf_minutes x1.toNat (wf_think hw)
  exact s3_thinkAhead hw a (by omega) (s1_rightOfAll h4.1 (s4_wrong ⟨a, b⟩ ⟨by omega, fun _ => s4_lays (fun z hz => s4_minutesOn (wf_think hw) (Rep_think (hR.of hw (fun i i0 i1 => hz i i0 (by omega)))) a (by omega) (fun fa' r' h5 _ => s4_rightAll h4.1 h5 ⟨rfl, ⟨hw, ht, hR⟩, hIm, hRo, hLe, hRe⟩)), fun z => absurd rfl z⟩))
