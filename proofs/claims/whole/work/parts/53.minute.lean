theorem st_at (M : MS) (c : Nat) (i v : Int) : st M c i v c i = v := by simp [st, uc, su]
theorem st12_twice (M : MS) (g v w : Int) : st (st M 12 g v) 12 g w = st M 12 g w := by
  funext c j
  unfold st uc su
  by_cases hc : c = 12
  · subst hc
    simp
    split <;> simp_all
  · simp [hc]
theorem s1_go92 {M : MS} (hw : wf M) {g q t : Int} (g0 : 0 ≤ g) (g1 : g < 5) (h0 : 0 ≤ q) (h1 : q < 8) (ht : t = -9 ∨ (0 ≤ t ∧ t < 5)) {Q : MS → Prop} (h : Q (st (st M 14 (g * 8 + q) t) 13 (g * 8 + q) (if t = -9 then mOwn M g q else M 13 (t * 8 + q)))) : wX1_goOnWith_92 Q g q t M := by
  refine ⟨by omega, fun z e => ?_⟩
  subst e
  refine ⟨by omega, fun c => ⟨by omega, ?_⟩, fun c => ?_⟩
  · refine ⟨by omega, fun z e => ?_⟩
    subst e
    rw [if_neg c] at h
    exact h
  · refine s1_ownAnswer (wf_st14 hw ht) g0 g1 h0 h1 ⟨by omega, fun z e => ?_⟩
    subst e
    rw [if_pos c] at h
    exact h
theorem s1_goOnWith {M : MS} (hw : wf M) {g q : Int} (hg : 0 ≤ g ∧ g < M 0 7) (hq : 0 ≤ q ∧ q < M 0 2) {Q : MS → Prop} (h : Q (mGo M g q)) : wX1_goOnWith M g q Q := by
  have hgs := hw.gs
  have hqs := hw.qs
  have g1 : g < 5 := by omega
  have q1 : q < 8 := by omega
  have ha := hw.g hg.1 g1
  have hb := hw.q hq.1 q1
  have hm := mMin_range hw hq.1 q1
  unfold mGo at h
  refine ⟨⟨hg.1, g1⟩, ⟨hq.1, q1⟩, by omega, by omega, fun c => ⟨⟨hg.1, g1⟩, ⟨hg.1, g1⟩, fun z e => ?_⟩, fun c => ⟨⟨hg.1, g1⟩, ⟨hq.1, q1⟩, ?_⟩⟩
  · subst e
    rw [if_pos c] at h
    refine ⟨⟨hg.1, g1⟩, s1_minutesFor (M := st M 12 g (M 12 g + 1)) hq.1 q1 hb.1 ?_⟩
    have em : mMin (st M 12 g (M 12 g + 1)) q = mMin M q := rfl
    rw [em, st_at]
    refine ⟨by omega, by omega, fun c2 => ⟨⟨hg.1, g1⟩, fun z e => ?_⟩, fun c2 => ?_⟩
    · subst e
      rw [if_neg (by omega)] at h
      have hw2 : wf (st (st M 12 g (M 12 g + 1)) 12 g 0) := by rw [st12_twice]; exact wf_st12 hw hg (by omega)
      have ef : mFrom M g q = if (M 4 q = 0 ∨ M 4 q = 1) ∧ M 8 g < M 5 q ∨ M 4 q = 2 then mSrc M g q else -9 := rfl
      refine s1_wouldCopy hw2 hg.1 g1 hq.1 q1 ?_
      by_cases cw : (M 4 q = 0 ∨ M 4 q = 1) ∧ M 8 g < M 5 q ∨ M 4 q = 2
      · rw [if_pos cw] at ef
        have e2 : (if ((st (st M 12 g (M 12 g + 1)) 12 g 0) 4 q = 0 ∨ (st (st M 12 g (M 12 g + 1)) 12 g 0) 4 q = 1) ∧ (st (st M 12 g (M 12 g + 1)) 12 g 0) 8 g < (st (st M 12 g (M 12 g + 1)) 12 g 0) 5 q ∨ (st (st M 12 g (M 12 g + 1)) 12 g 0) 4 q = 2 then (1 : Int) else 0) = 1 := if_pos cw
        rw [e2]
        refine ⟨fun c3 => absurd c3 (by decide), fun _ => s1_sourceFor hw2 hg.1 g1 hq.1 q1 ?_⟩
        have e3 : mSrc (st (st M 12 g (M 12 g + 1)) 12 g 0) g q = mFrom M g q := ef.symm
        rw [e3]
        exact s1_go92 hw2 hg.1 g1 hq.1 q1 (by rcases mFrom_range hw g q with z | z <;> omega) h
      · rw [if_neg cw] at ef
        have e2 : (if ((st (st M 12 g (M 12 g + 1)) 12 g 0) 4 q = 0 ∨ (st (st M 12 g (M 12 g + 1)) 12 g 0) 4 q = 1) ∧ (st (st M 12 g (M 12 g + 1)) 12 g 0) 8 g < (st (st M 12 g (M 12 g + 1)) 12 g 0) 5 q ∨ (st (st M 12 g (M 12 g + 1)) 12 g 0) 4 q = 2 then (1 : Int) else 0) = 0 := if_neg cw
        rw [e2]
        refine ⟨fun _ => ?_, fun c3 => absurd rfl c3⟩
        have hv : mVal M g q = mOwn M g q := by unfold mVal; rw [if_pos ef]
        refine s1_go92 hw2 hg.1 g1 hq.1 q1 (Or.inl rfl) ?_
        rw [if_pos rfl]
        rw [ef, hv] at h
        exact h
    · rw [if_pos (by omega)] at h
      exact h
  · rw [if_neg c] at h
    refine s2_towards hw.r (by omega) (by omega) (by omega) (by omega) ⟨⟨hg.1, g1⟩, fun z e => ⟨⟨hg.1, g1⟩, fun z2 e2 => ?_⟩⟩
    subst e e2
    exact h
theorem mGo_size (M : MS) (g q : Int) : mGo M g q 0 = M 0 := by
  unfold mGo
  repeat' split
  all_goals rfl
theorem mStep_size (M : MS) (g : Int) : mStep M g 0 = M 0 := by
  unfold mStep
  split
  · rfl
  · exact mGo_size _ _ _
theorem wf_step {M : MS} (hw : wf M) {g : Int} (hg : 0 ≤ g ∧ g < M 0 7) : wf (mStep M g) := by
  unfold mStep
  split
  · exact hw
  · rcases mNext_range hw g with h | h
    · contradiction
    · exact wf_go hw hg ⟨h.1, h.2.1⟩
theorem s1_passMinute {M : MS} (hw : wf M) {Q : MS → Prop} (h : Q (mMinute M)) : wX1_passMinute M Q := by
  intro z e
  subst e
  have hgs := hw.gs
  refine gFor (fun n i M' => wX1_passMinute_12 Q n i M') (M 0 7) (fun i M' => wf M' ∧ M' 0 7 = M 0 7 ∧ Q (mMinF (M 0 7 - i).toNat i M')) (fun n i M' i0 i1 hp ih => ?_) (fun n M' hp => ?_) 0 ⟨by omega, by omega⟩ (st M 0 1 (M 0 1 + 1)) ⟨wf_min hw _, rfl, by rw [show M 0 7 - 0 = M 0 7 by omega]; exact h⟩
  · obtain ⟨hw', hs, hp⟩ := hp
    rw [wX1_passMinute_12_s, hs]
    rw [show (M 0 7 - i).toNat = (M 0 7 - (i + 1)).toNat + 1 by omega] at hp
    have hr := mNext_range hw' i
    have hqs := hw'.qs
    have hst := mStep_size M' i
    have hws := wf_step hw' (g := i) ⟨i0, by omega⟩
    refine ⟨by omega, by omega, fun c => by omega, fun c => s1_nextQuestion hw' i0 (by omega) ⟨by omega, fun c2 v e => ?_, fun c2 => ?_⟩⟩
    · subst e
      have e2 : mStep M' i = M' := if_pos c2
      have hp : Q (mMinF (M 0 7 - (i + 1)).toNat (i + 1) (mStep M' i)) := hp
      rw [e2] at hp
      exact ih M' ⟨hw', hs, hp⟩
    · have e2 : mStep M' i = mGo M' i (mNext M' i) := if_neg c2
      refine s1_goOnWith hw' ⟨i0, by omega⟩ (by omega) (fun v e => ?_)
      subst e
      rw [← e2]
      exact ih _ ⟨hws, by rw [hst]; exact hs, hp⟩
  · obtain ⟨hw', hs, hp⟩ := hp
    rw [wX1_passMinute_12_s, hs]
    rw [Int.sub_self] at hp
    exact ⟨by omega, by omega, fun _ => hp, fun c => by omega⟩
theorem mMinF_wf : ∀ (n : Nat) (i : Int) (M : MS), wf M → 0 ≤ i → i + n ≤ M 0 7 → wf (mMinF n i M) ∧ mMinF n i M 0 = M 0 := by
  intro n
  induction n with
  | zero => intro i M h _ _; exact ⟨h, rfl⟩
  | succ n ih =>
    intro i M h h0 h1
    have hs := mStep_size M i
    have := ih (i + 1) (mStep M i) (wf_step h ⟨h0, by omega⟩) (by omega) (by rw [hs]; omega)
    exact ⟨this.1, this.2.trans hs⟩
theorem wf_minute {M : MS} (hw : wf M) : wf (mMinute M) := (mMinF_wf _ 0 _ (wf_min hw _) (by omega) (by have := hw.gs; show (0 : Int) + ((M 0 7).toNat : Int) ≤ M 0 7; omega)).1
theorem mMinute_size {M : MS} (hw : wf M) : mMinute M 0 = su (M 0) 1 (M 0 1 + 1) := (mMinF_wf _ 0 _ (wf_min hw _) (by omega) (by have := hw.gs; show (0 : Int) + ((M 0 7).toNat : Int) ≤ M 0 7; omega)).2
theorem mMinute_qs {M : MS} (hw : wf M) : mMinute M 0 2 = M 0 2 := by rw [mMinute_size hw]; rfl
theorem mMinute_gs {M : MS} (hw : wf M) : mMinute M 0 7 = M 0 7 := by rw [mMinute_size hw]; rfl
theorem mMinute_t {M : MS} (hw : wf M) : mMinute M 0 1 = M 0 1 + 1 := by rw [mMinute_size hw]; rfl
theorem wf_minutes : ∀ (n : Nat) {M : MS}, wf M → wf (mMinutes n M) ∧ mMinutes n M 0 2 = M 0 2 ∧ mMinutes n M 0 7 = M 0 7 ∧ mMinutes n M 0 1 = M 0 1 + n := by
  intro n
  induction n with
  | zero => intro M h; exact ⟨h, rfl, rfl, by show M 0 1 = M 0 1 + 0; omega⟩
  | succ n ih =>
    intro M h
    obtain ⟨h1, h2, h3, h4⟩ := ih (wf_minute h)
    exact ⟨h1, h2.trans (mMinute_qs h), h3.trans (mMinute_gs h), by
      show mMinutes n (mMinute M) 0 1 = _
      rw [h4, mMinute_t h]; omega⟩
theorem s1_passMinutes {M : MS} (hw : wf M) {n : Int} (h0 : 0 ≤ n) (h1 : n ≤ 1000) {Q : MS → Prop} (h : Q (mMinutes n.toNat M)) : wX1_passMinutes M n Q := by
  refine gFor (fun k i M' => wX1_passMinutes_2 Q k n i M') n (fun i M' => wf M' ∧ Q (mMinutes (n - i).toNat M')) (fun k i M' i0 i1 hp ih => ?_) (fun k M' hp => ?_) 0 ⟨by omega, by omega⟩ M ⟨hw, by rw [show n - 0 = n by omega]; exact h⟩
  · rw [wX1_passMinutes_2_s]
    rw [show (n - i).toNat = (n - (i + 1)).toNat + 1 by omega] at hp
    refine ⟨by omega, by omega, fun c => by omega, fun c => s1_passMinute hp.1 (fun v e => ?_)⟩
    subst e
    exact ih _ ⟨wf_minute hp.1, hp.2⟩
  · rw [wX1_passMinutes_2_s]
    rw [Int.sub_self] at hp
    exact ⟨by omega, by omega, fun _ => hp.2, fun c => by omega⟩
