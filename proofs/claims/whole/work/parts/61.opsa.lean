/-! the calls, one by one: the two answer alike, and stay bound -/
theorem op_letter {o : AR} {rw : AR} {rf : AR} {lg : AR} {sg : AR} {N : MS} {T : MS} {K : MS} {I : MS} {o2 : AR} {ss : AR} {mm : AR} {im : AR} {wa : AR} {le : AR} {ro : AR} {re : AR} {fa : AR} {nu : AR} (hI : gInv o rw rf lg sg N T K I o2 ss mm im wa le ro re fa nu) (x1 : Int) (hx1 : gR x1): wX3_letter rf lg sg x1 (fun (r : Int) (rf1 : AR) (lg1 : AR) (sg1 : AR) => wX4_letter o2 le re x1 (fun (r2 : Int) (o21 : AR) (le1 : AR) (re1 : AR) => r = r2 ∧ gInv o rw rf1 lg1 sg1 N T K I o21 ss mm im wa le1 ro re1 fa nu)) := by
  obtain ⟨hN, hIm, hRo, hLe, hRe⟩ := hI
  have e := hLe.1
  have b := hLe.2.1
  refine ⟨hx1, fun c => ⟨fun c2 => s3_refuse (by omega) ⟨hx1, fun _ => ⟨fun _ => s4_no (by omega) ⟨rfl, hN, hIm, hRo, hLe, hRe.no _⟩, fun _ => by omega⟩, fun _ => by omega⟩, fun c2 => ⟨by omega, fun c3 => ?_, fun c3 => ?_⟩⟩, fun c => s3_refuse (by omega) ⟨hx1, fun _ => by omega, fun _ => s4_no (by omega) ⟨rfl, hN, hIm, hRo, hLe, hRe.no _⟩⟩⟩
  · refine ⟨fun _ => ⟨by omega, fun _ => by omega, fun _ => ⟨by omega, fun z4 e4 z5 e5 => ?_⟩⟩, fun z => absurd rfl z⟩
    subst e4 e5
    refine ⟨hx1, fun _ => ⟨fun _ => by omega, fun _ => ⟨by omega, fun _ => ⟨by omega, fun z9 e9 z10 e10 => ?_⟩, fun _ => by omega⟩⟩, fun _ => by omega⟩
    subst e9 e10
    refine ⟨by rw [su_at, su_at, e], hN, hIm.of rfl (su_ne _ _ (by decide)), hRo.of rfl (su_ne _ _ (by decide)), ⟨by rw [su_at, su_at, e], by rw [su_at]; omega, fun j j0 j1 => ?_⟩, hRe⟩
    rw [su_at] at j1
    rw [← e]
    by_cases c5 : j = lg 1
    · rw [c5, su_at, su_at]; omega
    · rw [su_ne _ _ c5, su_ne _ _ c5]; exact hLe.2.2 j j0 (by omega)
  · refine ⟨fun z => absurd z (by decide), fun _ => s3_refuse (by omega) ⟨hx1, fun _ => ⟨fun _ => by omega, fun _ => ⟨by omega, fun _ => by omega, fun _ => s4_no (by omega) ⟨rfl, hN, hIm, hRo, hLe, hRe.no _⟩⟩⟩, fun _ => by omega⟩⟩
theorem op_row {o : AR} {rw : AR} {rf : AR} {lg : AR} {sg : AR} {N : MS} {T : MS} {K : MS} {I : MS} {o2 : AR} {ss : AR} {mm : AR} {im : AR} {wa : AR} {le : AR} {ro : AR} {re : AR} {fa : AR} {nu : AR} (hI : gInv o rw rf lg sg N T K I o2 ss mm im wa le ro re fa nu) (x1 : Int) (hx1 : gR x1): wX3_row o rw rf x1 (fun (r : Int) (o1 : AR) (rw1 : AR) (rf1 : AR) => wX4_row o2 ro re x1 (fun (r2 : Int) (o21 : AR) (ro1 : AR) (re1 : AR) => r = r2 ∧ gInv o1 rw1 rf1 lg sg N T K I o21 ss mm im wa le ro1 re1 fa nu)) := by
  obtain ⟨hN, hIm, hRo, hLe, hRe⟩ := hI
  have e := hRo.1
  have b := hRo.2.1
  refine ⟨hx1, fun c => ⟨fun c2 => s3_refuse (by omega) ⟨hx1, fun _ => ⟨fun _ => s4_no (by omega) ⟨rfl, hN, hIm, hRo, hLe, hRe.no _⟩, fun _ => by omega⟩, fun _ => by omega⟩, fun c2 => ⟨by omega, fun c3 => ⟨by omega, fun z4 e4 z5 e5 => ?_⟩, fun c3 => ?_⟩⟩, fun c => s3_refuse (by omega) ⟨hx1, fun _ => by omega, fun _ => s4_no (by omega) ⟨rfl, hN, hIm, hRo, hLe, hRe.no _⟩⟩⟩
  · subst e4 e5
    refine ⟨hx1, fun _ => ⟨fun _ => by omega, fun _ => ⟨by omega, fun _ => ⟨by omega, fun z9 e9 z10 e10 => ?_⟩, fun _ => by omega⟩⟩, fun _ => by omega⟩
    subst e9 e10
    refine ⟨by rw [su_at, su_at, e], hN, hIm.of (su_ne _ _ (by decide)) (su_ne _ _ (by decide)), ⟨by rw [su_at, su_at, e], by rw [su_at]; omega, fun j j0 j1 => ?_⟩, hLe.of (su_ne _ _ (by decide)), hRe⟩
    rw [su_at] at j1
    rw [← e]
    by_cases c5 : j = o 7
    · rw [c5, su_at, su_at]; omega
    · rw [su_ne _ _ c5, su_ne _ _ c5]; exact hRo.2.2 j j0 (by omega)
  · exact s3_refuse (by omega) ⟨hx1, fun _ => ⟨fun _ => by omega, fun _ => ⟨by omega, fun _ => by omega, fun _ => s4_no (by omega) ⟨rfl, hN, hIm, hRo, hLe, hRe.no _⟩⟩⟩, fun _ => by omega⟩
theorem op_clear {o : AR} {rw : AR} {rf : AR} {lg : AR} {sg : AR} {N : MS} {T : MS} {K : MS} {I : MS} {o2 : AR} {ss : AR} {mm : AR} {im : AR} {wa : AR} {le : AR} {ro : AR} {re : AR} {fa : AR} {nu : AR} (hI : gInv o rw rf lg sg N T K I o2 ss mm im wa le ro re fa nu) : wX3_clear o (fun (r : Int) (o1 : AR) => wX4_clear o2 (fun (r2 : Int) (o21 : AR) => r = r2 ∧ gInv o1 rw rf lg sg N T K I o21 ss mm im wa le ro re fa nu)) := by
  obtain ⟨hN, hIm, hRo, hLe, hRe⟩ := hI
  intro v ev z ez
  subst ev ez
  intro v ev z ez
  subst ev ez
  exact ⟨hRo.1, hN, hIm.of (su_ne _ _ (by decide)) (su_ne _ _ (by decide)), ⟨by rw [su_at, su_at], by rw [su_at]; omega, fun j j0 j1 => by rw [su_at] at j1; omega⟩, hLe.of (su_ne _ _ (by decide)), hRe⟩
theorem op_image {o : AR} {rw : AR} {rf : AR} {lg : AR} {sg : AR} {N : MS} {T : MS} {K : MS} {I : MS} {o2 : AR} {ss : AR} {mm : AR} {im : AR} {wa : AR} {le : AR} {ro : AR} {re : AR} {fa : AR} {nu : AR} (hI : gInv o rw rf lg sg N T K I o2 ss mm im wa le ro re fa nu) : wX3_image o N (fun (r : Int) (o1 : AR) (I1 : MS) => wX4_image o2 ss im (fun (r2 : Int) (o21 : AR) (im1 : AR) => r = r2 ∧ gInv o1 rw rf lg sg N T K I1 o21 ss mm im1 wa le ro re fa nu)) := by
  obtain ⟨hN, hIm, hRo, hLe, hRe⟩ := hI
  obtain ⟨hw, ht, hR⟩ := hN
  intro z ez
  subst ez
  refine s4_lays (fun z hz w ew => ?_)
  subst ew
  exact ⟨hR.2.2.1.symm, ⟨hw, ht, hR⟩, ⟨by rw [su_at, su_at], Or.inr (su_at _ _ _), fun _ => ⟨hw, ht, hR.of hw (fun i i0 i1 => hz i i0 (by omega))⟩⟩, hRo.of (su_ne _ _ (by decide)) (su_ne _ _ (by decide)), hLe.of (su_ne _ _ (by decide)), hRe⟩
theorem op_on {o : AR} {rw : AR} {rf : AR} {lg : AR} {sg : AR} {N : MS} {T : MS} {K : MS} {I : MS} {o2 : AR} {ss : AR} {mm : AR} {im : AR} {wa : AR} {le : AR} {ro : AR} {re : AR} {fa : AR} {nu : AR} (hI : gInv o rw rf lg sg N T K I o2 ss mm im wa le ro re fa nu) : wX3_on o rf N I (fun (r : Int) (rf1 : AR) (N1 : MS) => wX4_on o2 ss im re (fun (r2 : Int) (ss1 : AR) (re1 : AR) => r = r2 ∧ gInv o rw rf1 lg sg N1 T K I o2 ss1 mm im wa le ro re1 fa nu)) := by
  obtain ⟨hN, hIm, hRo, hLe, hRe⟩ := hI
  have e := hIm.1
  have b := hIm.2.1
  refine ⟨by omega, fun c => ?_, fun c => s3_refuse (by omega) ⟨by omega, fun _ => by omega, fun _ => s4_no (by omega) ⟨rfl, hN, hIm, hRo, hLe, hRe.no _⟩⟩⟩
  obtain ⟨hw, ht, hR⟩ := hIm.2.2 (by omega)
  refine ⟨by omega, fun _ => s4_lays (fun z hz => ?_), fun _ => by omega⟩
  have h2 := hR.of hw (r' := z) (fun i i0 i1 => hz i i0 (by omega))
  exact ⟨h2.2.2.1.symm, ⟨hw, ht, h2⟩, hIm, hRo, hLe, hRe⟩
theorem op_door {o : AR} {rw : AR} {rf : AR} {lg : AR} {sg : AR} {N : MS} {T : MS} {K : MS} {I : MS} {o2 : AR} {ss : AR} {mm : AR} {im : AR} {wa : AR} {le : AR} {ro : AR} {re : AR} {fa : AR} {nu : AR} (hI : gInv o rw rf lg sg N T K I o2 ss mm im wa le ro re fa nu) (x1 x2 : Int) (hx1 : gR x1) (hx2 : gR x2): wX3_door rf N x1 x2 (fun (r : Int) (rf1 : AR) => wX4_door ss re fa x1 x2 (fun (r2 : Int) (re1 : AR) (fa1 : AR) => r = r2 ∧ gInv o rw rf1 lg sg N T K I o2 ss mm im wa le ro re1 fa1 nu)) := by
  obtain ⟨hN, hIm, hRo, hLe, hRe⟩ := hI
  obtain ⟨hw, ht, hR⟩ := hN
  by_cases c1 : 0 ≤ x1 ∧ x1 < 7
  · refine s3_room c1 ⟨fun z => absurd rfl z, fun _ => ?_⟩
    by_cases c2 : 0 ≤ x2 ∧ x2 < 7
    · refine s3_room c2 ⟨fun _ => ?_, fun z => absurd rfl z⟩
      have hd := hw.r.1 x1 x2 c1.1 c1.2 c2.1 c2.2
      refine ⟨by omega, fun v e => ?_⟩
      subst e
      refine ⟨by omega, fun c3 => ?_, fun c3 => ?_⟩
      · refine s4_room c1 ⟨fun z => absurd z (by decide), fun _ => s4_room c2 ⟨fun z => absurd z (by decide), fun _ => s4_doors hw.r (fun a b a0 a1 b0 b1 => hR.d a0 a1 b0 b1) c1.1 c1.2 c2.1 c2.2 (fun z => ⟨?_, ⟨hw, ht, hR⟩, hIm, hRo, hLe, hRe⟩)⟩⟩
        rw [if_neg (by omega)]
      · refine s4_room c1 ⟨fun z => absurd z (by decide), fun _ => s4_room c2 ⟨fun z => absurd z (by decide), fun _ => s4_doors hw.r (fun a b a0 a1 b0 b1 => hR.d a0 a1 b0 b1) c1.1 c1.2 c2.1 c2.2 (fun z => ⟨?_, ⟨hw, ht, hR⟩, hIm, hRo, hLe, hRe⟩)⟩⟩
        rw [if_pos (by omega)]
    · exact s3_roomN hx2 c2 ⟨fun z => absurd z (by decide), fun _ => s3_refuse (by omega) (s4_room c1 ⟨fun z => absurd z (by decide), fun _ => s4_roomN hx2 c2 ⟨fun _ => s4_no (by omega) ⟨rfl, ⟨hw, ht, hR⟩, hIm, hRo, hLe, hRe.no _⟩, fun z => absurd rfl z⟩⟩)⟩
  · exact s3_roomN hx1 c1 ⟨fun _ => s3_refuse (by omega) (s4_roomN hx1 c1 ⟨fun _ => s4_no (by omega) ⟨rfl, ⟨hw, ht, hR⟩, hIm, hRo, hLe, hRe.no _⟩, fun z => absurd rfl z⟩), fun z => absurd z (by decide)⟩
theorem op_question {o : AR} {rw : AR} {rf : AR} {lg : AR} {sg : AR} {N : MS} {T : MS} {K : MS} {I : MS} {o2 : AR} {ss : AR} {mm : AR} {im : AR} {wa : AR} {le : AR} {ro : AR} {re : AR} {fa : AR} {nu : AR} (hI : gInv o rw rf lg sg N T K I o2 ss mm im wa le ro re fa nu) (x1 x2 : Int) (hx1 : gR x1) (hx2 : gR x2): wX3_question rf N x1 x2 (fun (r : Int) (rf1 : AR) => wX4_question ss re x1 x2 (fun (r2 : Int) (re1 : AR) => r = r2 ∧ gInv o rw rf1 lg sg N T K I o2 ss mm im wa le ro re1 fa nu)) := by
  obtain ⟨hN, hIm, hRo, hLe, hRe⟩ := hI
  obtain ⟨hw, ht, hR⟩ := hN
  by_cases c1 : 0 ≤ x1 ∧ x1 < N 0 2
  · have hqs := hw.qs
    have hq := hw.q c1.1 (by omega)
    have hrq := hR.q c1.1 c1.2
    have fin : ∀ v : Int, 0 ≤ x2 → x2 ≤ 3 → v = ss ((10 + (4 * x1)) + x2) → wX4_question ss re x1 x2 (fun (r2 : Int) (re1 : AR) => v = r2 ∧ gInv o rw rf lg sg N T K I o2 ss mm im wa le ro re1 fa nu) := fun v a b e => s4_ques hw hR c1 ⟨fun _ => s4_isIn hx2 (by omega) (by omega) ⟨a, b⟩ ⟨fun z => absurd z (by decide), fun _ => ⟨by omega, e, ⟨hw, ht, hR⟩, hIm, hRo, hLe, hRe⟩⟩, fun z => absurd z (by decide)⟩
    refine s3_ques hw c1 ⟨fun _ => ⟨hx2, fun c => ⟨by omega, fin _ (by omega) (by omega) (by rw [c]; exact hrq.1.symm)⟩, fun c => ⟨by omega, fin _ (by omega) (by omega) (by rw [c]; exact hrq.2.1.symm)⟩, fun c => ⟨by omega, fin _ (by omega) (by omega) (by rw [c]; exact hrq.2.2.1.symm)⟩, fun c => ⟨by omega, fin _ (by omega) (by omega) (by rw [c]; exact hrq.2.2.2.symm)⟩, fun c => ?_, fun c => ?_⟩, fun z => absurd rfl z⟩
    · exact s1_minutesFor c1.1 (by omega) hq.1 (s4_ques hw hR c1 ⟨fun _ => s4_isInN hx2 (by omega) (by omega) (by omega) ⟨fun _ => ⟨hx2, fun _ => by omega, fun _ => s4_minutesOf c1.1 (by omega) hq.1 hrq.1 hrq.2.1 ⟨rfl, ⟨hw, ht, hR⟩, hIm, hRo, hLe, hRe⟩⟩, fun z => absurd rfl z⟩, fun z => absurd z (by decide)⟩)
    · exact s3_refuse (by omega) (s4_ques hw hR c1 ⟨fun _ => s4_isInN hx2 (by omega) (by omega) (by omega) ⟨fun _ => ⟨hx2, fun _ => s4_no (by omega) ⟨rfl, ⟨hw, ht, hR⟩, hIm, hRo, hLe, hRe.no _⟩, fun _ => by omega⟩, fun z => absurd rfl z⟩, fun z => absurd z (by decide)⟩)
  · exact s3_quesN hw hx1 c1 ⟨fun z => absurd z (by decide), fun _ => s3_refuse (by omega) (s4_quesN hw hR hx1 c1 ⟨fun z => absurd rfl z, fun _ => s4_no (by omega) ⟨rfl, ⟨hw, ht, hR⟩, hIm, hRo, hLe, hRe.no _⟩⟩)⟩
theorem op_group {o : AR} {rw : AR} {rf : AR} {lg : AR} {sg : AR} {N : MS} {T : MS} {K : MS} {I : MS} {o2 : AR} {ss : AR} {mm : AR} {im : AR} {wa : AR} {le : AR} {ro : AR} {re : AR} {fa : AR} {nu : AR} (hI : gInv o rw rf lg sg N T K I o2 ss mm im wa le ro re fa nu) (x1 x2 : Int) (hx1 : gR x1) (hx2 : gR x2): wX3_group rf N x1 x2 (fun (r : Int) (rf1 : AR) => wX4_group ss re x1 x2 (fun (r2 : Int) (re1 : AR) => r = r2 ∧ gInv o rw rf1 lg sg N T K I o2 ss mm im wa le ro re1 fa nu)) := by
  obtain ⟨hN, hIm, hRo, hLe, hRe⟩ := hI
  obtain ⟨hw, ht, hR⟩ := hN
  by_cases c1 : 0 ≤ x1 ∧ x1 < N 0 7
  · have hgs := hw.gs
    have hg := hw.g c1.1 (by omega)
    have hrg := hR.g c1.1 c1.2
    have fin : ∀ v : Int, 0 ≤ x2 → x2 ≤ 4 → v = ss ((42 + (5 * x1)) + x2) → wX4_group ss re x1 x2 (fun (r2 : Int) (re1 : AR) => v = r2 ∧ gInv o rw rf lg sg N T K I o2 ss mm im wa le ro re1 fa nu) := fun v a b e => s4_grp hw hR c1 ⟨fun _ => s4_isIn hx2 (by omega) (by omega) ⟨a, b⟩ ⟨fun z => absurd z (by decide), fun _ => ⟨by omega, e, ⟨hw, ht, hR⟩, hIm, hRo, hLe, hRe⟩⟩, fun z => absurd z (by decide)⟩
    refine s3_grp hw c1 ⟨fun _ => ⟨hx2, fun c => ⟨by omega, fin _ (by omega) (by omega) (by rw [c]; exact hrg.1.symm)⟩, fun c => ⟨by omega, fin _ (by omega) (by omega) (by rw [c]; exact hrg.2.1.symm)⟩, fun c => ⟨by omega, fin _ (by omega) (by omega) (by rw [c]; exact hrg.2.2.1.symm)⟩, fun c => ⟨by omega, fin _ (by omega) (by omega) (by rw [c]; exact hrg.2.2.2.1.symm)⟩, fun c => ⟨by omega, fin _ (by omega) (by omega) (by rw [c]; exact hrg.2.2.2.2.symm)⟩, fun c => ?_, fun c => ?_⟩, fun z => absurd rfl z⟩
    · exact s1_nextQuestion hw c1.1 (by omega) (s4_grp hw hR c1 ⟨fun _ => s4_isInN hx2 (by omega) (by omega) (by omega) ⟨fun _ => ⟨hx2, fun _ => by omega, fun _ => s4_nextOf hw hR c1.1 c1.2 ⟨rfl, ⟨hw, ht, hR⟩, hIm, hRo, hLe, hRe⟩⟩, fun z => absurd rfl z⟩, fun z => absurd z (by decide)⟩)
    · exact s3_refuse (by omega) (s4_grp hw hR c1 ⟨fun _ => s4_isInN hx2 (by omega) (by omega) (by omega) ⟨fun _ => ⟨hx2, fun _ => s4_no (by omega) ⟨rfl, ⟨hw, ht, hR⟩, hIm, hRo, hLe, hRe.no _⟩, fun _ => by omega⟩, fun z => absurd rfl z⟩, fun z => absurd z (by decide)⟩)
  · exact s3_grpN hw hx1 c1 ⟨fun z => absurd z (by decide), fun _ => s3_refuse (by omega) (s4_grpN hw hR hx1 c1 ⟨fun z => absurd rfl z, fun _ => s4_no (by omega) ⟨rfl, ⟨hw, ht, hR⟩, hIm, hRo, hLe, hRe.no _⟩⟩)⟩
theorem op_sheet {o : AR} {rw : AR} {rf : AR} {lg : AR} {sg : AR} {N : MS} {T : MS} {K : MS} {I : MS} {o2 : AR} {ss : AR} {mm : AR} {im : AR} {wa : AR} {le : AR} {ro : AR} {re : AR} {fa : AR} {nu : AR} (hI : gInv o rw rf lg sg N T K I o2 ss mm im wa le ro re fa nu) (x1 x2 : Int) (hx1 : gR x1) (hx2 : gR x2): wX3_sheet rf N x1 x2 (fun (r : Int) (rf1 : AR) => wX4_sheet ss re x1 x2 (fun (r2 : Int) (re1 : AR) => r = r2 ∧ gInv o rw rf1 lg sg N T K I o2 ss mm im wa le ro re1 fa nu)) := by
  obtain ⟨hN, hIm, hRo, hLe, hRe⟩ := hI
  obtain ⟨hw, ht, hR⟩ := hN
  have hgs := hw.gs
  have hqs := hw.qs
  by_cases c1 : 0 ≤ x1 ∧ x1 < N 0 7
  · refine s3_grp hw c1 ⟨fun z => absurd rfl z, fun _ => ?_⟩
    by_cases c2 : 0 ≤ x2 ∧ x2 < N 0 2
    · exact s3_ques hw c2 ⟨fun _ => ⟨by omega, s4_grp hw hR c1 ⟨fun z => absurd z (by decide), fun _ => s4_ques hw hR c2 ⟨fun z => absurd z (by decide), fun _ => ⟨by omega, (hR.s c1.1 c1.2 c2.1 c2.2).symm, ⟨hw, ht, hR⟩, hIm, hRo, hLe, hRe⟩⟩⟩⟩, fun z => absurd rfl z⟩
    · exact s3_quesN hw hx2 c2 ⟨fun z => absurd z (by decide), fun _ => s3_refuse (by omega) (s4_grp hw hR c1 ⟨fun z => absurd z (by decide), fun _ => s4_quesN hw hR hx2 c2 ⟨fun _ => s4_no (by omega) ⟨rfl, ⟨hw, ht, hR⟩, hIm, hRo, hLe, hRe.no _⟩, fun z => absurd rfl z⟩⟩)⟩
  · exact s3_grpN hw hx1 c1 ⟨fun _ => s3_refuse (by omega) (s4_grpN hw hR hx1 c1 ⟨fun _ => s4_no (by omega) ⟨rfl, ⟨hw, ht, hR⟩, hIm, hRo, hLe, hRe.no _⟩, fun z => absurd rfl z⟩), fun z => absurd z (by decide)⟩
theorem op_put {o : AR} {rw : AR} {rf : AR} {lg : AR} {sg : AR} {N : MS} {T : MS} {K : MS} {I : MS} {o2 : AR} {ss : AR} {mm : AR} {im : AR} {wa : AR} {le : AR} {ro : AR} {re : AR} {fa : AR} {nu : AR} (hI : gInv o rw rf lg sg N T K I o2 ss mm im wa le ro re fa nu) (x1 x2 : Int) (hx1 : gR x1) (hx2 : gR x2): wX3_put rf N x1 x2 (fun (r : Int) (rf1 : AR) (N1 : MS) => wX4_put ss re x1 x2 (fun (r2 : Int) (ss1 : AR) (re1 : AR) => r = r2 ∧ gInv o rw rf1 lg sg N1 T K I o2 ss1 mm im wa le ro re1 fa nu)) := by
  obtain ⟨hN, hIm, hRo, hLe, hRe⟩ := hI
  obtain ⟨hw, ht, hR⟩ := hN
  have hgs := hw.gs
  by_cases c1 : 0 ≤ x1 ∧ x1 < N 0 7
  · have hrg := hR.g c1.1 c1.2
    refine s3_grp hw c1 ⟨fun z => absurd rfl z, fun _ => ?_⟩
    by_cases c2 : 0 ≤ x2 ∧ x2 < 7
    · refine s3_room c2 ⟨fun _ => ⟨by omega, fun v ev => ⟨by omega, fun z2 e2 => ⟨by omega, fun z4 e4 => ?_⟩⟩⟩, fun z => absurd rfl z⟩
      subst ev e2 e4
      refine s4_grp hw hR c1 ⟨fun z => absurd z (by decide), fun _ => s4_room c2 ⟨fun _ => ⟨by omega, fun v ev => ⟨by omega, fun z2 e2 => ⟨by omega, fun z4 e4 => ?_⟩⟩⟩, fun z => absurd z (by decide)⟩⟩
      subst ev e2 e4
      exact ⟨hrg.2.2.2.1.symm, ⟨wf_st12 (wf_st11 hw c1 c2) c1 (by omega), ht, Rep.st12 (wf_st11 hw c1 c2) (Rep.st11 hw hR c1.1 c1.2 x2) c1.1 c1.2 0⟩, hIm, hRo, hLe, hRe⟩
    · exact s3_roomN hx2 c2 ⟨fun z => absurd z (by decide), fun _ => s3_refuse (by omega) (s4_grp hw hR c1 ⟨fun z => absurd z (by decide), fun _ => s4_roomN hx2 c2 ⟨fun z => absurd rfl z, fun _ => s4_no (by omega) ⟨rfl, ⟨hw, ht, hR⟩, hIm, hRo, hLe, hRe.no _⟩⟩⟩)⟩
  · exact s3_grpN hw hx1 c1 ⟨fun _ => s3_refuse (by omega) (s4_grpN hw hR hx1 c1 ⟨fun _ => s4_no (by omega) ⟨rfl, ⟨hw, ht, hR⟩, hIm, hRo, hLe, hRe.no _⟩, fun z => absurd rfl z⟩), fun z => absurd z (by decide)⟩
theorem op_start {o : AR} {rw : AR} {rf : AR} {lg : AR} {sg : AR} {N : MS} {T : MS} {K : MS} {I : MS} {o2 : AR} {ss : AR} {mm : AR} {im : AR} {wa : AR} {le : AR} {ro : AR} {re : AR} {fa : AR} {nu : AR} (hI : gInv o rw rf lg sg N T K I o2 ss mm im wa le ro re fa nu) (x1 x2 : Int) (hx1 : gR x1) (hx2 : gR x2): wX3_start rf N x1 x2 (fun (r : Int) (rf1 : AR) (N1 : MS) => wX4_start ss re x1 x2 (fun (r2 : Int) (ss1 : AR) (re1 : AR) => r = r2 ∧ gInv o rw rf1 lg sg N1 T K I o2 ss1 mm im wa le ro re1 fa nu)) := by
  obtain ⟨hN, hIm, hRo, hLe, hRe⟩ := hI
  obtain ⟨hw, ht, hR⟩ := hN
  have hgs := hw.gs
  by_cases c1 : 0 ≤ x1 ∧ x1 < N 0 7
  · have hrg := hR.g c1.1 c1.2
    refine s3_grp hw c1 ⟨fun _ => ⟨hx2, fun a => ⟨fun b => ⟨by omega, fun v ev => ⟨by omega, fun z2 e2 => ?_⟩⟩, fun b => s3_refuse (by omega) (s4_grp hw hR c1 ⟨fun _ => ⟨hx2, fun _ => ⟨fun _ => by omega, fun _ => s4_no (by omega) ⟨rfl, ⟨hw, ht, hR⟩, hIm, hRo, hLe, hRe.no _⟩⟩, fun _ => by omega⟩, fun z => absurd z (by decide)⟩)⟩, fun a => s3_refuse (by omega) (s4_grp hw hR c1 ⟨fun _ => ⟨hx2, fun _ => by omega, fun _ => s4_no (by omega) ⟨rfl, ⟨hw, ht, hR⟩, hIm, hRo, hLe, hRe.no _⟩⟩, fun z => absurd z (by decide)⟩)⟩, fun z => absurd rfl z⟩
    subst ev e2
    refine s4_grp hw hR c1 ⟨fun _ => ⟨hx2, fun _ => ⟨fun _ => ⟨by omega, fun v ev => ⟨by omega, fun z2 e2 => ?_⟩⟩, fun _ => by omega⟩, fun _ => by omega⟩, fun z => absurd z (by decide)⟩
    subst ev e2
    exact ⟨hrg.2.2.1.symm, ⟨wf_st10 hw (by omega), ht, Rep.st10 hw hR c1.1 c1.2 x2⟩, hIm, hRo, hLe, hRe⟩
  · exact s3_grpN hw hx1 c1 ⟨fun z => absurd z (by decide), fun _ => s3_refuse (by omega) (s4_grpN hw hR hx1 c1 ⟨fun z => absurd rfl z, fun _ => s4_no (by omega) ⟨rfl, ⟨hw, ht, hR⟩, hIm, hRo, hLe, hRe.no _⟩⟩)⟩
theorem op_write {o : AR} {rw : AR} {rf : AR} {lg : AR} {sg : AR} {N : MS} {T : MS} {K : MS} {I : MS} {o2 : AR} {ss : AR} {mm : AR} {im : AR} {wa : AR} {le : AR} {ro : AR} {re : AR} {fa : AR} {nu : AR} (hI : gInv o rw rf lg sg N T K I o2 ss mm im wa le ro re fa nu) (x1 x2 x3 : Int) (hx1 : gR x1) (hx2 : gR x2) (hx3 : gR x3): wX3_write rf N x1 x2 x3 (fun (r : Int) (rf1 : AR) (N1 : MS) => wX4_write ss re x1 x2 x3 (fun (r2 : Int) (ss1 : AR) (re1 : AR) => r = r2 ∧ gInv o rw rf1 lg sg N1 T K I o2 ss1 mm im wa le ro re1 fa nu)) := by
  obtain ⟨hN, hIm, hRo, hLe, hRe⟩ := hI
  obtain ⟨hw, ht, hR⟩ := hN
  have hgs := hw.gs
  have hqs := hw.qs
  by_cases c1 : 0 ≤ x1 ∧ x1 < N 0 7
  · refine s3_grp hw c1 ⟨fun z => absurd rfl z, fun _ => ?_⟩
    by_cases c2 : 0 ≤ x2 ∧ x2 < N 0 2
    · have hs := hR.s c1.1 c1.2 c2.1 c2.2
      refine s3_ques hw c2 ⟨fun _ => ⟨hx3, fun a => ⟨fun b => ⟨by omega, fun c => ⟨by omega, fun z2 e2 => ?_⟩, fun c => ⟨by omega, fun z2 e2 => ?_⟩⟩, fun b => s3_refuse (by omega) (s4_grp hw hR c1 ⟨fun z => absurd z (by decide), fun _ => s4_ques hw hR c2 ⟨fun _ => ⟨hx3, fun _ => ⟨fun _ => by omega, fun _ => s4_no (by omega) ⟨rfl, ⟨hw, ht, hR⟩, hIm, hRo, hLe, hRe.no _⟩⟩, fun _ => by omega⟩, fun z => absurd z (by decide)⟩⟩)⟩, fun a => s3_refuse (by omega) (s4_grp hw hR c1 ⟨fun z => absurd z (by decide), fun _ => s4_ques hw hR c2 ⟨fun _ => ⟨hx3, fun _ => by omega, fun _ => s4_no (by omega) ⟨rfl, ⟨hw, ht, hR⟩, hIm, hRo, hLe, hRe.no _⟩⟩, fun z => absurd z (by decide)⟩⟩)⟩, fun z => absurd rfl z⟩
      · subst e2
        refine s4_grp hw hR c1 ⟨fun z => absurd z (by decide), fun _ => s4_ques hw hR c2 ⟨fun _ => ⟨hx3, fun _ => ⟨fun _ => ⟨by omega, fun v ev => ⟨fun _ => ⟨by omega, fun z2 e2 => ?_⟩, fun _ => by omega⟩⟩, fun _ => by omega⟩, fun _ => by omega⟩, fun z => absurd z (by decide)⟩⟩
        subst ev e2
        exact ⟨hs.symm, ⟨wf_st13 hw c1 c2 (by omega), ht, Rep.st13 hw hR c1.1 c1.2 c2.1 c2.2 x3⟩, hIm, hRo, hLe, hRe⟩
      · subst e2
        refine s4_grp hw hR c1 ⟨fun z => absurd z (by decide), fun _ => s4_ques hw hR c2 ⟨fun _ => ⟨hx3, fun _ => ⟨fun _ => ⟨by omega, fun v ev => ⟨fun _ => by omega, fun _ => ⟨by omega, fun z2 e2 => ?_⟩⟩⟩, fun _ => by omega⟩, fun _ => by omega⟩, fun z => absurd z (by decide)⟩⟩
        subst ev e2
        exact ⟨hs.symm, ⟨wf_st13 hw c1 c2 (by omega), ht, Rep.st13 hw hR c1.1 c1.2 c2.1 c2.2 (-9)⟩, hIm, hRo, hLe, hRe⟩
    · exact s3_quesN hw hx2 c2 ⟨fun z => absurd z (by decide), fun _ => s3_refuse (by omega) (s4_grp hw hR c1 ⟨fun z => absurd z (by decide), fun _ => s4_quesN hw hR hx2 c2 ⟨fun z => absurd rfl z, fun _ => s4_no (by omega) ⟨rfl, ⟨hw, ht, hR⟩, hIm, hRo, hLe, hRe.no _⟩⟩⟩)⟩
  · exact s3_grpN hw hx1 c1 ⟨fun _ => s3_refuse (by omega) (s4_grpN hw hR hx1 c1 ⟨fun _ => s4_no (by omega) ⟨rfl, ⟨hw, ht, hR⟩, hIm, hRo, hLe, hRe.no _⟩, fun z => absurd rfl z⟩), fun z => absurd z (by decide)⟩
theorem op_minutes {o : AR} {rw : AR} {rf : AR} {lg : AR} {sg : AR} {N : MS} {T : MS} {K : MS} {I : MS} {o2 : AR} {ss : AR} {mm : AR} {im : AR} {wa : AR} {le : AR} {ro : AR} {re : AR} {fa : AR} {nu : AR} (hI : gInv o rw rf lg sg N T K I o2 ss mm im wa le ro re fa nu) (x1 : Int) (hx1 : gR x1): wX3_minutes rf N x1 (fun (r : Int) (rf1 : AR) (N1 : MS) => wX4_minutes ss re fa x1 (fun (r2 : Int) (ss1 : AR) (re1 : AR) (fa1 : AR) => r = r2 ∧ gInv o rw rf1 lg sg N1 T K I o2 ss1 mm im wa le ro re1 fa1 nu)) := by
  obtain ⟨hN, hIm, hRo, hLe, hRe⟩ := hI
  obtain ⟨hw, ht, hR⟩ := hN
  have e2 := hR.2.2.1
  refine ⟨hx1, fun a => ⟨fun b => s3_refuse (by omega) ⟨hx1, fun _ => ⟨fun _ => s4_no (by omega) ⟨rfl, ⟨hw, ht, hR⟩, hIm, hRo, hLe, hRe.no _⟩, fun _ => by omega⟩, fun _ => by omega⟩, fun b => ⟨by omega, fun c => ?_, fun c => s3_refuse (by omega) ⟨hx1, fun _ => ⟨fun _ => by omega, fun _ => ⟨by omega, fun _ => by omega, fun _ => s4_no (by omega) ⟨rfl, ⟨hw, ht, hR⟩, hIm, hRo, hLe, hRe.no _⟩⟩⟩, fun _ => by omega⟩⟩⟩, fun a => s3_refuse (by omega) ⟨hx1, fun _ => by omega, fun _ => s4_no (by omega) ⟨rfl, ⟨hw, ht, hR⟩, hIm, hRo, hLe, hRe.no _⟩⟩⟩
  have h4 := wf_minutes x1.toNat hw
  refine s1_passMinutes hw (by omega) (by omega) (s1_rightOfAll h4.1 ⟨hx1, fun _ => ⟨fun _ => by omega, fun _ => ⟨by omega, fun _ => s4_minutesOn hw hR (by omega) (by omega) (fun fa' r' h5 _ => s4_rightAll h4.1 h5 ⟨rfl, ⟨h4.1, by omega, h5⟩, hIm, hRo, hLe, hRe⟩), fun _ => by omega⟩⟩, fun _ => by omega⟩)
