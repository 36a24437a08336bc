theorem su_at (f : AR) (i v : Int) : su f i v i = v := if_pos rfl
theorem su_ne (f : AR) {i j : Int} (v : Int) (h : ¬ j = i) : su f i v j = f j := if_neg h
theorem wf_st11 {M : MS} (h : wf M) {g v : Int} (hg : 0 ≤ g ∧ g < M 0 7) (hv : 0 ≤ v ∧ v < 7) : wf (st M 11 g v) := by
  refine ⟨h.1, h.2.1, h.2.2.1, fun k k0 k1 => ?_, h.2.2.2.2.1, fun k k0 k1 => ?_, h.2.2.2.2.2.2⟩
  · have := h.g k0 k1
    show (0 ≤ M 8 k ∧ _) ∧ (0 ≤ M 9 k ∧ _) ∧ (0 ≤ M 10 k ∧ _) ∧ (0 ≤ su (M 11) g v k ∧ su (M 11) g v k < 7) ∧ (0 ≤ M 12 k ∧ _)
    refine ⟨this.1, this.2.1, this.2.2.1, ?_, this.2.2.2.2⟩
    unfold su; split <;> omega
  · show su (M 11) g v k = 0 ∧ M 12 k = 0
    rw [su_ne _ _ (show ¬ k = g by have h2 : M 0 7 ≤ k := k0; omega)]
    exact h.2.2.2.2.2.1 k k0 k1
theorem wf_st12 {M : MS} (h : wf M) {g v : Int} (hg : 0 ≤ g ∧ g < M 0 7) (hv : 0 ≤ v ∧ v ≤ 9) : wf (st M 12 g v) := by
  refine ⟨h.1, h.2.1, h.2.2.1, fun k k0 k1 => ?_, h.2.2.2.2.1, fun k k0 k1 => ?_, h.2.2.2.2.2.2⟩
  · have := h.g k0 k1
    show (0 ≤ M 8 k ∧ _) ∧ (0 ≤ M 9 k ∧ _) ∧ (0 ≤ M 10 k ∧ _) ∧ (0 ≤ M 11 k ∧ _) ∧ (0 ≤ su (M 12) g v k ∧ su (M 12) g v k ≤ 9)
    refine ⟨this.1, this.2.1, this.2.2.1, this.2.2.2.1, ?_⟩
    unfold su; split <;> omega
  · show M 11 k = 0 ∧ su (M 12) g v k = 0
    rw [su_ne _ _ (show ¬ k = g by have h2 : M 0 7 ≤ k := k0; omega)]
    exact h.2.2.2.2.2.1 k k0 k1
theorem wf_st10 {M : MS} (h : wf M) {g v : Int} (hv : 0 ≤ v ∧ v ≤ 7) : wf (st M 10 g v) := by
  refine ⟨h.1, h.2.1, h.2.2.1, fun k k0 k1 => ?_, h.2.2.2.2.1, h.2.2.2.2.2.1, h.2.2.2.2.2.2⟩
  have := h.g k0 k1
  show (0 ≤ M 8 k ∧ _) ∧ (0 ≤ M 9 k ∧ _) ∧ (0 ≤ su (M 10) g v k ∧ su (M 10) g v k ≤ 7) ∧ (0 ≤ M 11 k ∧ _) ∧ (0 ≤ M 12 k ∧ _)
  refine ⟨this.1, this.2.1, ?_, this.2.2.2.1, this.2.2.2.2⟩
  unfold su; split <;> omega
theorem wf_st9 {M : MS} (h : wf M) {g v : Int} (hv : 0 ≤ v ∧ v ≤ 9) : wf (st M 9 g v) := by
  refine ⟨h.1, h.2.1, h.2.2.1, fun k k0 k1 => ?_, h.2.2.2.2.1, h.2.2.2.2.2.1, h.2.2.2.2.2.2⟩
  have := h.g k0 k1
  show (0 ≤ M 8 k ∧ _) ∧ (0 ≤ su (M 9) g v k ∧ su (M 9) g v k ≤ 9) ∧ (0 ≤ M 10 k ∧ _) ∧ (0 ≤ M 11 k ∧ _) ∧ (0 ≤ M 12 k ∧ _)
  refine ⟨this.1, ?_, this.2.2.1, this.2.2.2.1, this.2.2.2.2⟩
  unfold su; split <;> omega
theorem wf_st4 {M : MS} (h : wf M) {q v : Int} (hv : 0 ≤ v ∧ v ≤ 5) : wf (st M 4 q v) := by
  refine ⟨h.1, h.2.1, fun k k0 k1 => ?_, h.2.2.2.1, h.2.2.2.2.1, h.2.2.2.2.2.1, h.2.2.2.2.2.2⟩
  have := h.q k0 k1
  show (0 ≤ su (M 4) q v k ∧ su (M 4) q v k ≤ 5) ∧ (0 ≤ M 5 k ∧ _) ∧ (0 ≤ M 6 k ∧ _) ∧ (0 ≤ M 7 k ∧ _)
  refine ⟨?_, this.2.1, this.2.2.1, this.2.2.2⟩
  unfold su; split <;> omega
theorem wf_st13 {M : MS} (h : wf M) {g q v : Int} (hg : 0 ≤ g ∧ g < M 0 7) (hq : 0 ≤ q ∧ q < M 0 2) (hv : v = -9 ∨ (0 ≤ v ∧ v ≤ 9)) : wf (st M 13 (g * 8 + q) v) := by
  refine ⟨h.1, h.2.1, h.2.2.1, h.2.2.2.1, fun k j k0 k1 j0 j1 => ?_, h.2.2.2.2.2.1, h.2.2.2.2.2.2⟩
  have hs := h.s k0 k1 j0 j1
  have hqs := h.qs
  show (su (M 13) (g * 8 + q) v (k * 8 + j) = -9 ∨ (0 ≤ su (M 13) (g * 8 + q) v (k * 8 + j) ∧ su (M 13) (g * 8 + q) v (k * 8 + j) ≤ 9)) ∧ _ ∧ (M 0 7 ≤ k ∨ M 0 2 ≤ j → su (M 13) (g * 8 + q) v (k * 8 + j) = -9)
  unfold su
  split
  · exact ⟨hv, hs.2.1, fun c => by omega⟩
  · exact hs
theorem wf_st14 {M : MS} (h : wf M) {i v : Int} (hv : v = -9 ∨ (0 ≤ v ∧ v < 5)) : wf (st M 14 i v) := by
  refine ⟨h.1, h.2.1, h.2.2.1, h.2.2.2.1, fun k j k0 k1 j0 j1 => ?_, h.2.2.2.2.2.1, h.2.2.2.2.2.2⟩
  have hs := h.s k0 k1 j0 j1
  show _ ∧ (su (M 14) i v (k * 8 + j) = -9 ∨ (0 ≤ su (M 14) i v (k * 8 + j) ∧ su (M 14) i v (k * 8 + j) < 5)) ∧ _
  refine ⟨hs.1, ?_, hs.2.2⟩
  unfold su
  split
  · exact hv
  · exact hs.2.1
theorem wf_min {M : MS} (h : wf M) (v : Int) : wf (st M 0 1 v) := h
theorem wf_forget {M : MS} (h : wf M) : wf (uc M 14 (fun _ => -9)) := by
  refine ⟨h.1, h.2.1, h.2.2.1, h.2.2.2.1, fun k j k0 k1 j0 j1 => ?_, h.2.2.2.2.2.1, h.2.2.2.2.2.2⟩
  have hs := h.s k0 k1 j0 j1
  exact ⟨hs.1, Or.inl rfl, hs.2.2⟩
theorem s1_minutesFor {M : MS} {q : Int} (h0 : 0 ≤ q) (h1 : q < 8) (hk : 0 ≤ M 4 q ∧ M 4 q ≤ 5) {Q : Int → Prop} (h : Q (mMin M q)) : wX1_minutesFor M q Q := by
  unfold mMin at h
  refine ⟨⟨h0, h1⟩, by omega, fun c => ⟨⟨h0, h1⟩, ?_⟩, fun c => ?_, fun c => ?_, fun c => ⟨⟨h0, h1⟩, ?_⟩, fun c => ?_, fun c => ?_⟩
  · rw [if_pos (Or.inl c)] at h; exact h
  · rw [if_neg (by omega), if_neg (by omega), if_neg (by omega)] at h; exact h
  · rw [if_neg (by omega), if_pos c] at h; exact h
  · rw [if_pos (Or.inr c)] at h; exact h
  · rw [if_neg (by omega), if_neg (by omega), if_pos c] at h; exact h
  · rw [if_neg (by omega), if_neg (by omega), if_neg (by omega)] at h; exact h
theorem mMin_range {M : MS} (hw : wf M) {q : Int} (h0 : 0 ≤ q) (h1 : q < 8) : 1 ≤ mMin M q ∧ mMin M q ≤ 10 := by
  have := hw.q h0 h1
  unfold mMin
  repeat' split
  all_goals omega
theorem s1_wouldCopy {M : MS} (hw : wf M) {g q : Int} (g0 : 0 ≤ g) (g1 : g < 5) (h0 : 0 ≤ q) (h1 : q < 8) {Q : Int → Prop} (h : Q (if (M 4 q = 0 ∨ M 4 q = 1) ∧ M 8 g < M 5 q ∨ M 4 q = 2 then 1 else 0)) : wX1_wouldCopy M g q Q := by
  have hq := hw.q h0 h1
  have hg := hw.g g0 g1
  refine ⟨⟨h0, h1⟩, by omega, fun c => ⟨⟨g0, g1⟩, ⟨h0, h1⟩, by omega, by omega, fun c2 => ?_, fun c2 => ?_⟩, fun c => ⟨⟨g0, g1⟩, ⟨h0, h1⟩, by omega, by omega, fun c2 => ?_, fun c2 => ?_⟩, fun c => ⟨⟨h0, h1⟩, fun c2 => ?_, fun c2 => ?_⟩⟩
  · rw [if_neg (by omega)] at h; exact h
  · rw [if_pos (by omega)] at h; exact h
  · rw [if_neg (by omega)] at h; exact h
  · rw [if_pos (by omega)] at h; exact h
  · rw [if_neg (by omega)] at h; exact h
  · rw [if_pos (by omega)] at h; exact h
theorem s1_sourceFor {M : MS} (hw : wf M) {g q : Int} (g0 : 0 ≤ g) (g1 : g < 5) (h0 : 0 ≤ q) (h1 : q < 8) {Q : Int → Prop} (h : Q (mSrc M g q)) : wX1_sourceFor M g q Q := by
  have hgs := hw.gs
  refine gFor (fun n i (_ : Unit) => wX1_sourceFor_2 M Q n g q i) (M 0 7) (fun i _ => Q (mSrcF (M 11) (M 13) g q (M 0 7 - i).toNat i)) (fun n i _ i0 i1 hp ih => ?_) (fun n _ hp => ?_) 0 ⟨by omega, by omega⟩ () (by rw [show M 0 7 - 0 = M 0 7 by omega]; exact h)
  · rw [wX1_sourceFor_2_s]
    have ha := (hw.g i0 (by omega)).2.2.2.1
    have hb := (hw.g g0 g1).2.2.2.1
    have hs := (hw.s i0 (by omega) h0 h1).1
    rw [show (M 0 7 - i).toNat = (M 0 7 - (i + 1)).toNat + 1 by omega] at hp
    unfold mSrcF at hp
    refine ⟨by omega, by omega, fun c => by omega, fun c => ⟨by omega, fun c2 => ?_, fun c2 => ⟨by omega, by omega, by omega, by omega, fun c3 => ?_, fun c3 => ?_⟩⟩⟩
    · refine ⟨by omega, fun _ v e => ?_, fun c3 => absurd rfl c3⟩
      subst e
      rw [if_neg (fun z => z.1 c2)] at hp
      exact ih () hp
    · refine ⟨by omega, fun _ v e => ?_, fun c4 => absurd rfl c4⟩
      subst e
      rw [if_neg (fun z => c3 z.2.1)] at hp
      exact ih () hp
    · refine ⟨by omega, fun c4 => absurd c4 (by decide), fun _ => ⟨by omega, by omega, fun c4 v e => ?_, fun c4 => ?_⟩⟩
      · subst e
        rw [if_neg (fun z => z.2.2 c4)] at hp
        exact ih () hp
      · rw [if_pos ⟨c2, c3, c4⟩] at hp
        exact hp
  · rw [wX1_sourceFor_2_s]
    rw [Int.sub_self] at hp
    exact ⟨by omega, by omega, fun _ => hp, fun c => by omega⟩
theorem mSrcF_range {at_ sh : AR} {g q : Int} : ∀ (n : Nat) (i : Int), 0 ≤ i → mSrcF at_ sh g q n i = -9 ∨ (0 ≤ mSrcF at_ sh g q n i ∧ mSrcF at_ sh g q n i < i + n ∧ ¬ mSrcF at_ sh g q n i = g ∧ ¬ sh (mSrcF at_ sh g q n i * 8 + q) = -9) := by
  intro n
  induction n with
  | zero => intro i _; exact Or.inl rfl
  | succ n ih =>
    intro i h0
    unfold mSrcF
    split
    · rename_i c
      exact Or.inr ⟨h0, by omega, c.1, c.2.2⟩
    · rcases ih (i + 1) (by omega) with h | h
      · exact Or.inl h
      · exact Or.inr ⟨h.1, by omega, h.2.2⟩
theorem mSrc_range {M : MS} (hw : wf M) (g q : Int) : mSrc M g q = -9 ∨ (0 ≤ mSrc M g q ∧ mSrc M g q < M 0 7 ∧ ¬ mSrc M g q = g ∧ ¬ M 13 (mSrc M g q * 8 + q) = -9) := by
  have hgs := hw.gs
  rcases mSrcF_range (at_ := M 11) (sh := M 13) (g := g) (q := q) (M 0 7).toNat 0 (by omega) with h | h
  · exact Or.inl h
  · exact Or.inr ⟨h.1, by unfold mSrc; omega, h.2.2⟩
theorem mFrom_range {M : MS} (hw : wf M) (g q : Int) : mFrom M g q = -9 ∨ (0 ≤ mFrom M g q ∧ mFrom M g q < M 0 7 ∧ ¬ mFrom M g q = g ∧ ¬ M 13 (mFrom M g q * 8 + q) = -9) := by
  unfold mFrom
  split
  · exact mSrc_range hw g q
  · exact Or.inl rfl
theorem mOwn_range {M : MS} (hw : wf M) {g q : Int} (g0 : 0 ≤ g) (g1 : g < 5) (h0 : 0 ≤ q) (h1 : q < 8) : 0 ≤ mOwn M g q ∧ mOwn M g q ≤ 9 := by
  have hq := hw.q h0 h1
  have hg := hw.g g0 g1
  unfold mOwn
  repeat' split
  all_goals omega
theorem mVal_range {M : MS} (hw : wf M) {g q : Int} (g0 : 0 ≤ g) (g1 : g < 5) (h0 : 0 ≤ q) (h1 : q < 8) : 0 ≤ mVal M g q ∧ mVal M g q ≤ 9 := by
  unfold mVal
  have hgs := hw.gs
  split
  · exact mOwn_range hw g0 g1 h0 h1
  · rcases mFrom_range hw g q with h | h
    · contradiction
    · have hs := (hw.s h.1 (by omega) h0 h1).1
      omega
theorem s1_ownAnswer {M : MS} (hw : wf M) {g q : Int} (g0 : 0 ≤ g) (g1 : g < 5) (h0 : 0 ≤ q) (h1 : q < 8) {Q : Int → Prop} (h : Q (mOwn M g q)) : wX1_ownAnswer M g q Q := by
  have hq := hw.q h0 h1
  have hg := hw.g g0 g1
  unfold mOwn at h
  refine ⟨⟨h0, h1⟩, fun v e => ⟨⟨h0, h1⟩, by omega, fun c => ⟨⟨g0, g1⟩, ?_⟩, fun c => ⟨⟨g0, g1⟩, ⟨h0, h1⟩, by omega, by omega, fun c2 => ?_, fun c2 => ⟨by omega, ?_⟩⟩, fun c => ?_, fun c => ⟨⟨g0, g1⟩, ⟨h0, h1⟩, by omega, by omega, fun c2 => ?_, fun c2 => ⟨⟨g0, g1⟩, ?_⟩⟩⟩⟩
  · rw [if_pos c] at h; exact h
  · subst e; rw [if_neg (by omega), if_pos c, if_neg (by omega)] at h; exact h
  · subst e; rw [if_neg (by omega), if_pos c, if_pos (by omega)] at h; exact h
  · subst e; rw [if_neg (by omega), if_neg (by omega), if_pos c] at h; exact h
  · subst e; rw [if_neg (by omega), if_neg (by omega), if_neg (by omega), if_neg (by omega)] at h; exact h
  · rw [if_neg (by omega), if_neg (by omega), if_neg (by omega), if_pos (by omega)] at h; exact h
theorem mTowF_range {op fa : AR} {a t : Int} (ha : 0 ≤ a ∧ a < 7) : ∀ (n : Nat) (i : Int), 0 ≤ i → i + n ≤ 7 → 0 ≤ mTowF op fa a t n i ∧ mTowF op fa a t n i < 7 := by
  intro n
  induction n with
  | zero => intro i _ _; exact ha
  | succ n ih =>
    intro i h0 h1
    unfold mTowF
    split
    · omega
    · exact ih (i + 1) (by omega) (by omega)
theorem s2_towards {op fa : AR} (hr : wfR op fa) {a t : Int} (a0 : 0 ≤ a) (a1 : a < 7) (t0 : 0 ≤ t) (t1 : t < 7) {Q : Int → Prop} (h : Q (mTow op fa a t)) : wX2_towards op fa a t Q := by
  refine ⟨by omega, fun v e => ?_⟩
  subst e
  have hd := (hr.1 a t a0 a1 t0 t1).2.2.2.1
  refine gFor (fun n i (_ : Unit) => wX2_towards_15 op fa Q n a t (fa (a * 7 + t)) i) 7 (fun i _ => Q (mTowF op fa a t (7 - i).toNat i)) (fun n i _ i0 i1 hp ih => ?_) (fun n _ hp => ?_) 0 ⟨by omega, by omega⟩ () (by rw [show ((7 : Int) - 0).toNat = 7 from rfl]; exact h)
  · rw [wX2_towards_15_s]
    have ho := (hr.1 a i a0 a1 i0 i1).1
    have hf := (hr.1 i t i0 i1 t0 t1).2.2.2.1
    rw [show (7 - i).toNat = (7 - (i + 1)).toNat + 1 by omega] at hp
    unfold mTowF at hp
    refine ⟨by omega, fun c => by omega, fun c => ⟨by omega, by omega, fun c2 v e => ?_, fun c2 => ⟨by omega, by omega, by omega, fun c3 v e => ?_, fun c3 => ?_⟩⟩⟩
    · subst e; rw [if_neg (fun z => c2 z.1)] at hp; exact ih () hp
    · subst e; rw [if_neg (fun z => by omega)] at hp; exact ih () hp
    · rw [if_pos ⟨c2, by omega⟩] at hp; exact hp
  · rw [wX2_towards_15_s]
    rw [Int.sub_self] at hp
    exact ⟨by omega, fun _ => hp, fun c => by omega⟩
theorem wf_go {M : MS} (hw : wf M) {g q : Int} (hg : 0 ≤ g ∧ g < M 0 7) (hq : 0 ≤ q ∧ q < M 0 2) : wf (mGo M g q) := by
  have hgs := hw.gs
  have hqs := hw.qs
  have ha := hw.g hg.1 (by omega)
  have hb := hw.q hq.1 (by omega)
  have hm := mMin_range hw hq.1 (by omega)
  unfold mGo
  split
  · split
    · exact wf_st12 hw hg (by omega)
    · have h1 : wf (st (st M 12 g (M 12 g + 1)) 12 g 0) := by
        have e : st (st M 12 g (M 12 g + 1)) 12 g 0 = st M 12 g 0 := by
          funext c j
          unfold st uc su
          by_cases hc : c = 12
          · subst hc
            simp
            split <;> simp_all
          · simp [hc]
        rw [e]
        exact wf_st12 hw hg (by omega)
      have h2 := wf_st14 (i := g * 8 + q) (v := mFrom M g q) h1 (by rcases mFrom_range hw g q with h | h <;> omega)
      exact wf_st13 h2 hg hq (Or.inr (mVal_range hw hg.1 (by omega) hq.1 (by omega)))
  · exact wf_st12 (wf_st11 hw hg (mTowF_range (by omega) 7 0 (by omega) (by omega))) hg (by omega)
