theorem s4_w175 {Q : AR → Prop} {g q from_ v : Int} {r : AR} (g0 : 0 ≤ g) (g1 : g < 5) (q0 : 0 ≤ q) (q1 : q < 8) (h : Q (su (su r ((67 + (8 * g)) + q) v) ((107 + (8 * g)) + q) from_)) : wX4_writes_175 Q g q from_ v r := by
  unfold wX4_writes_175
  dsimp only [wX4_sheetOf, wX4_fromOf]
  refine ⟨by omega, fun z e => ⟨by omega, fun z2 e2 => ?_⟩⟩
  subst e e2
  exact h
theorem s4_writes {M : MS} {r : AR} (hw : wf M) (r1 : r 1 = M 0 7) (ra : ∀ k : Int, 0 ≤ k → k < M 0 7 → r ((42 + (5 * k)) + 3) = M 11 k) (rs : ∀ k j : Int, 0 ≤ k → k < M 0 7 → 0 ≤ j → j < M 0 2 → r ((67 + (8 * k)) + j) = M 13 (k * 8 + j)) {g q : Int} (g0 : 0 ≤ g) (g1 : g < M 0 7) (q0 : 0 ≤ q) (q1 : q < M 0 2)
    (e0 : r ((10 + (4 * q)) + 0) = M 4 q) (e1 : r ((10 + (4 * q)) + 1) = M 5 q) (e3 : r ((10 + (4 * q)) + 3) = M 7 q) (et : r ((42 + (5 * g)) + 0) = M 8 g) (ew : r ((42 + (5 * g)) + 1) = M 9 g) {Q : AR → Prop} (h : Q (su (su r ((67 + (8 * g)) + q) (mVal M g q)) ((107 + (8 * g)) + q) (mFrom M g q))) : wX4_writes r g q Q := by
  have hgs := hw.gs
  have hqs := hw.qs
  have hg := hw.g g0 (by omega)
  have hq := hw.q q0 (by omega)
  -- what comes behind the choice of whom to copy from
  have fin : ∀ (seen t : Int), (seen = 1 ∧ M 5 q ≤ M 8 g ∨ seen = 0 ∧ M 8 g < M 5 q) → mFrom M g q = t → (t = -9 ∨ (0 ≤ t ∧ t < M 0 7)) → (M 4 q < 3 ∨ 5 < M 4 q) → wX4_writes_143 Q g q (M 7 q) (M 9 g) seen t r := by
    intro seen t hs ht htr hk
    unfold wX4_writes_143
    dsimp only [wX4_sheetOf]
    refine ⟨by omega, fun c => ⟨by omega, fun c2 => ?_, fun c2 => ?_⟩, fun c => ⟨by omega, fun v e => ?_⟩⟩
    · refine s4_w175 g0 (by omega) q0 (by omega) ?_
      have hv : mVal M g q = M 9 g := by
        unfold mVal
        rw [if_pos (by omega)]
        unfold mOwn
        rw [if_neg (by omega), if_neg (by omega), if_neg (by omega), if_pos (by omega)]
      rw [hv, ht] at h
      exact h
    · refine s4_w175 g0 (by omega) q0 (by omega) ?_
      have hv : mVal M g q = M 7 q := by
        unfold mVal
        rw [if_pos (by omega)]
        unfold mOwn
        rw [if_neg (by omega), if_neg (by omega), if_neg (by omega), if_neg (by omega)]
      rw [hv, ht] at h
      exact h
    · refine s4_w175 g0 (by omega) q0 (by omega) ?_
      have hv : mVal M g q = v := by
        unfold mVal
        rw [if_neg (by omega), ht, e]
        exact (rs t q (by omega) (by omega) q0 q1).symm
      rw [hv, ht] at h
      exact h
  have mid : ∀ seen : Int, (seen = 1 ∧ M 5 q ≤ M 8 g ∨ seen = 0 ∧ M 8 g < M 5 q) → wX4_writes_52 Q g q (M 4 q) (M 5 q) (M 7 q) (M 9 g) seen r := by
    intro seen hs
    have nof : (M 4 q = 3 ∨ M 4 q = 4 ∨ M 4 q = 5) → mFrom M g q = -9 := fun c => by
      unfold mFrom
      rw [if_neg (by omega)]
    unfold wX4_writes_52
    refine ⟨by omega, fun c => s4_w175 g0 (by omega) q0 (by omega) ?_, fun c => ⟨by omega, by omega, fun c2 => s4_w175 g0 (by omega) q0 (by omega) ?_, fun c2 => ⟨by omega, fun v e => s4_w175 g0 (by omega) q0 (by omega) ?_⟩⟩, fun c => s4_w175 g0 (by omega) q0 (by omega) ?_, fun c => ⟨by omega, fun c2 => ?_, fun c2 => ⟨fun c3 => ?_, fun c3 => ?_⟩⟩⟩
    · have hv : mVal M g q = M 9 g := by unfold mVal mOwn; rw [if_pos (nof (by omega)), if_pos c]
      rw [hv, nof (by omega)] at h; exact h
    · have hv : mVal M g q = M 7 q := by unfold mVal mOwn; rw [if_pos (nof (by omega)), if_neg (by omega), if_pos c, if_neg (by omega)]
      rw [hv, nof (by omega)] at h; exact h
    · have hv : mVal M g q = v := by unfold mVal mOwn; rw [if_pos (nof (by omega)), if_neg (by omega), if_pos c, if_pos (by omega), e]
      rw [hv, nof (by omega)] at h; exact h
    · have hv : mVal M g q = M 7 q := by unfold mVal mOwn; rw [if_pos (nof (by omega)), if_neg (by omega), if_neg (by omega), if_pos c]
      rw [hv, nof (by omega)] at h; exact h
    · refine s4_other hw r1 ra rs g0 g1 q0 q1 (fin seen _ hs ?_ ?_ c)
      · unfold mFrom; rw [if_pos (by omega)]
      · rcases mSrc_range hw g q with z | z
        · exact Or.inl z
        · exact Or.inr ⟨z.1, z.2.1⟩
    · refine s4_other hw r1 ra rs g0 g1 q0 q1 (fin seen _ hs ?_ ?_ c)
      · unfold mFrom; rw [if_pos (by omega)]
      · rcases mSrc_range hw g q with z | z
        · exact Or.inl z
        · exact Or.inr ⟨z.1, z.2.1⟩
    · refine fin seen _ hs ?_ (Or.inl rfl) c
      unfold mFrom; rw [if_neg (by omega)]
  unfold wX4_writes
  dsimp only [wX4_ask, wX4_of]
  rw [e0, e1, e3, et, ew]
  refine ⟨by omega, fun a ea => ⟨by omega, fun b eb => ⟨by omega, fun c ec => ⟨by omega, fun d ed => ⟨by omega, by omega, by omega, fun k => ?_, fun k => ?_⟩⟩⟩⟩⟩
  · subst ea eb ec ed; exact mid 0 (Or.inr ⟨rfl, k⟩)
  · subst ea eb ec ed; exact mid 1 (Or.inl ⟨rfl, by omega⟩)
theorem s4_goes {M : MS} {fa r : AR} (hw : wf M) (hR : Rep M r) {g : Int} (g0 : 0 ≤ g) (g1 : g < M 0 7) {Q : AR → AR → Prop} (hQ : ∀ fa' r' : AR, Rep (mStep M g) r' → (RepF M r → RepF (mStep M g) r') → Q fa' r') : wX4_goes fa r g Q := by
  have hgs := hw.gs
  have hqs := hw.qs
  have hn := mNext_range hw g
  unfold wX4_goes
  refine s4_nextOf hw hR g0 g1 ?_
  refine ⟨by omega, fun c => ?_, fun c => ?_⟩
  · have hq : 0 ≤ mNext M g ∧ mNext M g < M 0 2 := by omega
    obtain ⟨q, eq⟩ : ∃ q : Int, q = mNext M g := ⟨_, rfl⟩
    have est : mStep M g = mGo M g q := by rw [eq]; exact if_neg (by omega)
    rw [est] at hQ
    rw [← eq] at hq ⊢
    have q1 : q < 8 := by omega
    have ha := hw.g g0 (by omega)
    have hb := hw.q hq.1 q1
    have hm := mMin_range hw hq.1 q1
    have eg := hR.g g0 g1
    have eqq := hR.q hq.1 hq.2
    dsimp only [wX4_of, wX4_ask]
    rw [eg.2.2.2.1, eqq.2.2.1, eg.2.2.2.2]
    unfold mGo at hQ
    refine ⟨by omega, by omega, by omega, by omega, fun c2 => ⟨by omega, by omega, fun z ez => ⟨by omega, ?_⟩⟩, fun c2 => ⟨by omega, by omega, ?_⟩⟩
    · subst ez
      rw [if_pos c2] at hQ
      have f0 : ∀ i : Int, ¬ i = (42 + (5 * g)) + 4 → su r ((42 + (5 * g)) + 4) (M 12 g + 1) i = r i := fun i hi => su_ne _ _ hi
      refine s4_minutesOf hq.1 q1 hb.1 (by rw [f0 _ (by omega)]; exact eqq.1) (by rw [f0 _ (by omega)]; exact eqq.2.1) ?_
      rw [su_at]
      refine ⟨by omega, by omega, fun c3 => ?_, fun c3 => ?_⟩
      · rw [if_neg (by omega)] at hQ
        refine s4_writes hw (by rw [f0 _ (by omega)]; exact hR.2.1) (fun k k0 k1 => by rw [f0 _ (by omega)]; exact (hR.g k0 k1).2.2.2.1) (fun k j k0 k1 j0 j1 => by rw [f0 _ (by omega)]; exact hR.s k0 k1 j0 j1) g0 g1 hq.1 hq.2 (by rw [f0 _ (by omega)]; exact eqq.1) (by rw [f0 _ (by omega)]; exact eqq.2.1) (by rw [f0 _ (by omega)]; exact eqq.2.2.2) (by rw [f0 _ (by omega)]; exact eg.1) (by rw [f0 _ (by omega)]; exact eg.2.1) ?_
        refine ⟨by omega, fun z2 ez2 => ?_⟩
        have e2 : z2 = su (su (su r ((42 + (5 * g)) + 4) 0) ((107 + (8 * g)) + q) (mFrom M g q)) ((67 + (8 * g)) + q) (mVal M g q) := by
          rw [ez2]
          funext i
          unfold su
          repeat' split
          all_goals first | rfl | omega
        rw [e2]
        rw [st12_twice] at hQ
        have w1 : wf (st M 12 g 0) := wf_st12 hw ⟨g0, g1⟩ (by omega)
        have w2 : wf (st (st M 12 g 0) 14 (g * 8 + q) (mFrom M g q)) := wf_st14 w1 (by rcases mFrom_range hw g q with z | z <;> omega)
        have R1 : Rep (st M 12 g 0) (su r ((42 + (5 * g)) + 4) 0) := hR.st12 hw g0 g1 0
        have R2 := R1.st14 w1 (g := g) (q := q) g0 g1 hq.1 hq.2 (mFrom M g q)
        have R3 := R2.st13 w2 (g := g) (q := q) g0 g1 hq.1 hq.2 (mVal M g q)
        refine hQ fa _ R3 (fun hF => ?_)
        have F1 : RepF (st M 12 g 0) (su r ((42 + (5 * g)) + 4) 0) := hF.of rfl rfl (fun i i0 i1 => su_ne _ _ (by omega)) hw
        have F2 := F1.st14 w1 (g := g) (q := q) g0 g1 hq.1 hq.2 (mFrom M g q)
        exact F2.of rfl rfl (fun i i0 i1 => su_ne _ _ (by omega)) w2
      · rw [if_pos (by omega)] at hQ
        exact hQ fa _ (hR.st12 hw g0 g1 _) (fun hF => hF.of rfl rfl (fun i i0 i1 => su_ne _ _ (by omega)) hw)
    · rw [if_neg c2] at hQ
      refine s4_onward hw.r (fun a b a0 a1 b0 b1 => hR.d a0 a1 b0 b1) (by omega) (by omega) (by omega) (by omega) (fun z => ⟨by omega, fun z2 e2 => ⟨by omega, fun z3 e3 => ?_⟩⟩)
      subst e2 e3
      have hT := mTowF_range (op := M 2) (fa := M 3) (a := M 11 g) (t := M 6 q) (by omega) 7 0 (by omega) (by omega)
      have w1 : wf (st M 11 g (mTow (M 2) (M 3) (M 11 g) (M 6 q))) := wf_st11 hw ⟨g0, g1⟩ hT
      have R1 := hR.st11 hw g0 g1 (mTow (M 2) (M 3) (M 11 g) (M 6 q))
      have R2 := R1.st12 w1 (g := g) g0 g1 0
      refine hQ z _ R2 (fun hF => ?_)
      have F1 : RepF (st M 11 g (mTow (M 2) (M 3) (M 11 g) (M 6 q))) (su r ((42 + (5 * g)) + 3) (mTow (M 2) (M 3) (M 11 g) (M 6 q))) := hF.of rfl rfl (fun i i0 i1 => su_ne _ _ (by omega)) hw
      exact F1.of rfl rfl (fun i i0 i1 => su_ne _ _ (by omega)) w1
  · have est : mStep M g = M := if_pos (by omega)
    rw [est] at hQ
    exact hQ fa r hR id
theorem s4_minute {M : MS} {fa r : AR} (hw : wf M) (hR : Rep M r) {Q : AR → AR → Prop} (hQ : ∀ fa' r' : AR, Rep (mMinute M) r' → (RepF M r → RepF (mMinute M) r') → Q fa' r') : wX4_minute fa r Q := by
  intro z e
  subst e
  have hgs := hw.gs
  have e2 := hR.2.2.1
  rw [e2]
  refine gFor (fun n i (a : AR × AR) => wX4_minute_9 Q n i a.1 a.2) (M 0 7) (fun i a => ∃ M' : MS, wf M' ∧ M' 0 7 = M 0 7 ∧ Rep M' a.2 ∧ (RepF M r → RepF M' a.2) ∧ mMinF (M 0 7 - i).toNat i M' = mMinute M) (fun n i a i0 i1 hp ih => ?_) (fun n a hp => ?_) 0 ⟨by omega, by omega⟩ (fa, su r 2 (M 0 1 + 1)) ⟨st M 0 1 (M 0 1 + 1), wf_min hw _, rfl, hR.st0 hw _, fun hF => hF.of' ⟨rfl, rfl, rfl⟩ (fun i i0 i1 => su_ne _ _ (by omega)) hw, by rw [show M 0 7 - 0 = M 0 7 by omega]; rfl⟩
  · obtain ⟨M', hw', hs, hR', hF', hm⟩ := hp
    obtain ⟨fa', r'⟩ := a
    dsimp only at hR' hF' hm ⊢
    have r1 := hR'.2.1
    rw [wX4_minute_9_s, r1, hs]
    rw [show (M 0 7 - i).toNat = (M 0 7 - (i + 1)).toNat + 1 by omega] at hm
    refine ⟨by omega, by omega, fun c => by omega, fun c => s4_goes hw' hR' i0 (by omega) (fun fa2 r2 hR2 hF2 v e => ?_)⟩
    subst e
    exact ih (fa2, r2) ⟨mStep M' i, wf_step hw' ⟨i0, by omega⟩, by rw [mStep_size]; exact hs, hR2, fun hF => hF2 (hF' hF), hm⟩
  · obtain ⟨M', hw', hs, hR', hF', hm⟩ := hp
    obtain ⟨fa', r'⟩ := a
    dsimp only at hR' hF' hm ⊢
    have r1 := hR'.2.1
    rw [wX4_minute_9_s, r1, hs]
    rw [Int.sub_self] at hm
    have hm : M' = mMinute M := hm
    subst hm
    exact ⟨by omega, by omega, fun _ => hQ fa' r' hR' hF', fun c => by omega⟩
theorem s4_minutesOn {M : MS} {fa r : AR} (hw : wf M) (hR : Rep M r) {n : Int} (h0 : 0 ≤ n) (h1 : n ≤ 1000) {Q : AR → AR → Prop} (hQ : ∀ fa' r' : AR, Rep (mMinutes n.toNat M) r' → (RepF M r → RepF (mMinutes n.toNat M) r') → Q fa' r') : wX4_minutesOn fa r n Q := by
  refine gFor (fun k i (a : AR × AR) => wX4_minutesOn_2 Q k n i a.1 a.2) n (fun i a => ∃ M' : MS, wf M' ∧ Rep M' a.2 ∧ (RepF M r → RepF M' a.2) ∧ mMinutes (n - i).toNat M' = mMinutes n.toNat M) (fun k i a i0 i1 hp ih => ?_) (fun k a hp => ?_) 0 ⟨by omega, by omega⟩ (fa, r) ⟨M, hw, hR, id, by rw [show n - 0 = n by omega]⟩
  · obtain ⟨M', hw', hR', hF', hm⟩ := hp
    obtain ⟨fa', r'⟩ := a
    dsimp only at hR' hF' hm ⊢
    rw [wX4_minutesOn_2_s]
    rw [show (n - i).toNat = (n - (i + 1)).toNat + 1 by omega] at hm
    refine ⟨by omega, by omega, fun c => by omega, fun c => s4_minute hw' hR' (fun fa2 r2 hR2 hF2 v e => ?_)⟩
    subst e
    exact ih (fa2, r2) ⟨mMinute M', wf_minute hw', hR2, fun hF => hF2 (hF' hF), hm⟩
  · obtain ⟨M', hw', hR', hF', hm⟩ := hp
    obtain ⟨fa', r'⟩ := a
    dsimp only at hR' hF' hm ⊢
    rw [wX4_minutesOn_2_s]
    rw [Int.sub_self] at hm
    have hm : M' = mMinutes n.toNat M := hm
    subst hm
    exact ⟨by omega, by omega, fun _ => hQ fa' r' hR' hF', fun c => by omega⟩
