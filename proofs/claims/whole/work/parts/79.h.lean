theorem s4_grpDone {N : MS} {ss fa nu v : AR} (hw : wf N) (hR : Rep N ss) (hg : N 0 7 < 5) (hn : ∀ j : Int, 0 ≤ j → j < 3 → nu j = v j) {Q : Int → AR → AR → Prop} (h : ∀ ss' fa' : AR, Rep (mGrp N (v 0) (v 1) (v 2)) ss' → Q 1 ss' fa') : ∃ k : Nat, wX4_isDone_227 nu Q k 0 ss fa := by
  have hgs := hw.gs
  have e1 := hR.2.1
  refine gFor (α := AR) (fun n k r => wX4_isDone_227 nu Q n k r fa) 5 (fun k r => (∀ i : Int, ¬ (42 + 5 * N 0 7 ≤ i ∧ i < 42 + 5 * N 0 7 + k) → r i = ss i) ∧ ∀ j : Int, 0 ≤ j → j < k → r ((42 + (5 * N 0 7)) + j) = if 3 ≤ j then 0 else v j) (fun n k r k0 k1 hp ih => ?_) (fun n r hp => ?_) 0 ⟨by omega, by omega⟩ ss ⟨fun _ _ => rfl, fun j j0 j1 => by omega⟩
  · rw [wX4_isDone_227_s]
    obtain ⟨ho, hj⟩ := hp
    have r1 : r 1 = N 0 7 := by rw [ho 1 (by omega), e1]
    refine ⟨by omega, fun z => by omega, fun _ => s4_of ⟨fun c => ⟨by omega, fun z14 e14 v15 e15 => ?_⟩, fun c => ⟨by omega, by omega, fun z18 e18 v19 e19 => ?_⟩⟩⟩
    · subst e14 e15
      rw [r1]
      refine ih _ ⟨fun i hi => ?_, fun j j0 j1 => ?_⟩
      · rw [su_ne _ _ (by omega)]; exact ho i (by omega)
      · by_cases e : j = k
        · rw [e, su_at, if_pos c]
        · rw [su_ne _ _ (by omega)]; exact hj j j0 (by omega)
    · subst e18 e19
      rw [r1]
      refine ih _ ⟨fun i hi => ?_, fun j j0 j1 => ?_⟩
      · rw [su_ne _ _ (by omega)]; exact ho i (by omega)
      · by_cases e : j = k
        · rw [e, su_at, if_neg c]
          exact hn k k0 (by omega)
        · rw [su_ne _ _ (by omega)]; exact hj j j0 (by omega)
  · rw [wX4_isDone_227_s]
    obtain ⟨ho, hj⟩ := hp
    have r1 : r 1 = N 0 7 := by rw [ho 1 (by omega), e1]
    refine ⟨by omega, fun _ => ?_, fun z => by omega⟩
    refine gFor (α := AR) (fun n k t => wX4_isDone_275 nu Q n k t fa) 8 (fun k t => (∀ i : Int, ¬ (67 + 8 * N 0 7 ≤ i ∧ i < 67 + 8 * N 0 7 + k) → t i = r i) ∧ ∀ j : Int, 0 ≤ j → j < k → t ((67 + (8 * N 0 7)) + j) = -9) (fun n k t k0 k1 hp ih => ?_) (fun n t hp => ?_) 0 ⟨by omega, by omega⟩ r ⟨fun _ _ => rfl, fun j j0 j1 => by omega⟩
    · rw [wX4_isDone_275_s]
      obtain ⟨ho2, hj2⟩ := hp
      have t1 : t 1 = N 0 7 := by rw [ho2 1 (by omega), r1]
      refine ⟨by omega, fun z => by omega, fun _ => ?_⟩
      show (0 ≤ (67 + (8 * t 1)) + k ∧ (67 + (8 * t 1)) + k < 147) ∧ _
      refine ⟨by omega, fun z6 e6 v7 e7 => ?_⟩
      subst e6 e7
      rw [t1]
      refine ih _ ⟨fun i hi => ?_, fun j j0 j1 => ?_⟩
      · rw [su_ne _ _ (by omega)]; exact ho2 i (by omega)
      · by_cases e : j = k
        · rw [e, su_at]
        · rw [su_ne _ _ (by omega)]; exact hj2 j j0 (by omega)
    · rw [wX4_isDone_275_s]
      obtain ⟨ho2, hj2⟩ := hp
      have t1 : t 1 = N 0 7 := by rw [ho2 1 (by omega), r1]
      refine ⟨by omega, fun _ z3 e3 => h _ _ ?_, fun z => by omega⟩
      subst e3
      rw [t1]
      have hz : ∀ j : Int, 0 ≤ j → j < 5 → su t 1 (N 0 7 + 1) ((42 + (5 * N 0 7)) + j) = if 3 ≤ j then 0 else v j := fun j j0 j1 => by
        rw [su_ne _ _ (by omega), ho2 _ (by omega)]
        exact hj j j0 j1
      refine Rep.grp hw hR hg (su_at _ _ _) ⟨?_, ?_, ?_, ?_, ?_⟩ (fun q q0 q1 => ?_) (fun i i1 i2 i3 => ?_)
      · rw [hz 0 (by omega) (by omega), if_neg (by omega)]
      · rw [hz 1 (by omega) (by omega), if_neg (by omega)]
      · rw [hz 2 (by omega) (by omega), if_neg (by omega)]
      · rw [hz 3 (by omega) (by omega), if_pos (by omega)]
      · rw [hz 4 (by omega) (by omega), if_pos (by omega)]
      · rw [su_ne _ _ (by omega)]; exact hj2 q q0 q1
      · rw [su_ne _ _ i1, ho2 i (by omega), ho i (by omega)]
theorem d_group {N : MS} (hw : wf N) (ht : 0 ≤ N 0 1 ∧ N 0 1 ≤ 999) {v : AR} (h0 : 0 ≤ v 0 ∧ v 0 ≤ 9) (h1 : 0 ≤ v 1 ∧ v 1 ≤ 9) (h2 : 0 ≤ v 2 ∧ v 2 ≤ 9) {Q : Int → MS → Prop} (hok : ∀ N', dOk 103 v 3 N N' → Q 1 N') (hno : dNo 103 v 3 N → Q 0 N) : wX3_performGroup N (v 0) (v 1) (v 2) Q := by
  have hgs := hw.gs
  refine ⟨by omega, fun a => hno (fun ss fa nu Q hR hn h v35 e35 v36 e36 => ?_), fun a => ⟨by omega, fun c => ⟨by omega, fun _ => ⟨by omega, fun z4 e4 => ?_⟩, fun z => absurd c z⟩, fun c => hno (fun ss fa nu Q hR hn h v35 e35 v36 e36 => ?_)⟩⟩
  · have n2 := hn 2 (by omega) (by omega)
    exact ⟨by omega, fun z => absurd z (by decide), fun z => absurd z (by decide), fun _ => ⟨by omega, fun _ => h _ _, fun z => by omega⟩, fun z => absurd z (by decide), fun z => absurd z (by decide), fun z => absurd rfl z.2.2.1⟩
  · subst e4
    refine ⟨(by omega : 0 ≤ N 0 7 ∧ N 0 7 < 5), fun z6 e6 => ?_⟩
    subst e6
    refine ⟨(by omega : 0 ≤ N 0 7 ∧ N 0 7 < 5), fun z8 e8 z9 e9 => ?_⟩
    subst e8 e9
    refine hok (mGrp N (v 0) (v 1) (v 2)) ⟨wf_grp hw c h0 h1 ⟨h2.1, by omega⟩, ht, fun ss fa nu Q hR hn h v35 e35 v36 e36 => ?_⟩
    have n2 := hn 2 (by omega) (by omega)
    have e1 := hR.2.1
    exact ⟨by omega, fun z => absurd z (by decide), fun z => absurd z (by decide), fun _ => ⟨by omega, fun z => by omega, fun _ => ⟨by omega, fun _ => s4_grpDone hw hR c hn h, fun z => by omega⟩⟩, fun z => absurd z (by decide), fun z => absurd z (by decide), fun z => absurd rfl z.2.2.1⟩
  · have n2 := hn 2 (by omega) (by omega)
    have e1 := hR.2.1
    exact ⟨by omega, fun z => absurd z (by decide), fun z => absurd z (by decide), fun _ => ⟨by omega, fun z => by omega, fun _ => ⟨by omega, fun z => by omega, fun _ => h _ _⟩⟩, fun z => absurd z (by decide), fun z => absurd z (by decide), fun z => absurd rfl z.2.2.1⟩
/-! a question more -/
def mQue (M : MS) (a b c d : Int) : MS := st (st (st (st (st M 4 (M 0 2) a) 5 (M 0 2) b) 6 (M 0 2) c) 7 (M 0 2) d) 0 2 (M 0 2 + 1)
theorem wf_que {M : MS} (h : wf M) (hq : M 0 2 < 8) {a b c d : Int} (ha : 0 ≤ a ∧ a ≤ 5) (hb : 0 ≤ b ∧ b ≤ 9) (hc : 0 ≤ c ∧ c < 7) (hd : 0 ≤ d ∧ d ≤ 9) : wf (mQue M a b c d) := by
  have hqs := h.qs
  refine ⟨⟨by show 0 ≤ M 0 2 + 1; omega, by show M 0 2 + 1 ≤ 8; omega⟩, h.2.1, fun k k0 k1 => ?_, h.2.2.2.1, fun k j k0 k1 j0 j1 => ?_, h.2.2.2.2.2.1, h.2.2.2.2.2.2⟩
  · have hk := h.q k0 k1
    show (0 ≤ su (M 4) (M 0 2) a k ∧ su (M 4) (M 0 2) a k ≤ 5) ∧ (0 ≤ su (M 5) (M 0 2) b k ∧ su (M 5) (M 0 2) b k ≤ 9) ∧ (0 ≤ su (M 6) (M 0 2) c k ∧ su (M 6) (M 0 2) c k < 7) ∧ (0 ≤ su (M 7) (M 0 2) d k ∧ su (M 7) (M 0 2) d k ≤ 9)
    refine ⟨?_, ?_, ?_, ?_⟩
    · unfold su; split <;> omega
    · unfold su; split <;> omega
    · unfold su; split <;> omega
    · unfold su; split <;> omega
  · have hs := h.s k0 k1 j0 j1
    refine ⟨hs.1, hs.2.1, fun cc => hs.2.2 ?_⟩
    have cc : M 0 7 ≤ k ∨ M 0 2 + 1 ≤ j := cc
    omega
theorem Rep.que {M : MS} {r z : AR} (hw : wf M) (h : Rep M r) (hq : M 0 2 < 8) {a b c d : Int} (hz0 : z 0 = M 0 2 + 1) (hzq : z ((10 + (4 * M 0 2)) + 0) = a ∧ z ((10 + (4 * M 0 2)) + 1) = b ∧ z ((10 + (4 * M 0 2)) + 2) = c ∧ z ((10 + (4 * M 0 2)) + 3) = d) (hzs : ∀ g : Int, 0 ≤ g → g < 5 → z ((67 + (8 * g)) + M 0 2) = -9) (ho : ∀ i : Int, ¬ i = 0 → ¬ (10 + 4 * M 0 2 ≤ i ∧ i < 14 + 4 * M 0 2) → (∀ g : Int, 0 ≤ g → g < 5 → ¬ i = (67 + (8 * g)) + M 0 2) → z i = r i) : Rep (mQue M a b c d) z := by
  have hgs := hw.gs
  have hqs := hw.qs
  refine ⟨hz0, ?_, ?_, fun x y x0 x1 y0 y1 => ?_, fun k k0 k1 => ?_, fun k k0 k1 => ?_, fun k j k0 k1 j0 j1 => ?_⟩
  · rw [ho 1 (by omega) (by omega) (fun g _ _ => by omega)]; exact h.2.1
  · rw [ho 2 (by omega) (by omega) (fun g _ _ => by omega)]; exact h.2.2.1
  · rw [ho (3 + x) (by omega) (by omega) (fun g _ _ => by omega)]; exact h.d x0 x1 y0 y1
  · have k1 : k < M 0 2 + 1 := k1
    show _ = su (M 4) (M 0 2) a k ∧ _ = su (M 5) (M 0 2) b k ∧ _ = su (M 6) (M 0 2) c k ∧ _ = su (M 7) (M 0 2) d k
    by_cases e : k = M 0 2
    · rw [e, su_at, su_at, su_at, su_at]
      exact hzq
    · rw [su_ne _ _ e, su_ne _ _ e, su_ne _ _ e, su_ne _ _ e, ho _ (by omega) (by omega) (fun g _ _ => by omega), ho _ (by omega) (by omega) (fun g _ _ => by omega), ho _ (by omega) (by omega) (fun g _ _ => by omega), ho _ (by omega) (by omega) (fun g _ _ => by omega)]
      exact h.q k0 (by omega)
  · have k1 : k < M 0 7 := k1
    rw [ho _ (by omega) (by omega) (fun g _ _ => by omega), ho _ (by omega) (by omega) (fun g _ _ => by omega), ho _ (by omega) (by omega) (fun g _ _ => by omega), ho _ (by omega) (by omega) (fun g _ _ => by omega), ho _ (by omega) (by omega) (fun g _ _ => by omega)]
    exact h.g k0 k1
  · have k1 : k < M 0 7 := k1
    have j1 : j < M 0 2 + 1 := j1
    show _ = M 13 (k * 8 + j)
    by_cases e : j = M 0 2
    · have hs := (hw.s (g := k) (q := j) k0 (by omega) j0 (by omega)).2.2 (Or.inr (by omega))
      rw [hs, e]
      exact hzs k k0 (by omega)
    · rw [ho _ (by omega) (by omega) (fun g _ _ => by omega)]
      exact h.s k0 k1 j0 (by omega)
theorem s4_queDone {N : MS} {ss fa nu v : AR} (hw : wf N) (hR : Rep N ss) (hq : N 0 2 < 8) (hn : ∀ j : Int, 0 ≤ j → j < 4 → nu j = v j) {Q : Int → AR → AR → Prop} (h : ∀ ss' fa' : AR, Rep (mQue N (v 0) (v 1) (v 2) (v 3)) ss' → Q 1 ss' fa') : ∃ k : Nat, wX4_isDone_121 nu Q k 0 ss fa := by
  have hqs := hw.qs
  have e1 := hR.1
  refine gFor (α := AR) (fun n k r => wX4_isDone_121 nu Q n k r fa) 4 (fun k r => (∀ i : Int, ¬ (10 + 4 * N 0 2 ≤ i ∧ i < 10 + 4 * N 0 2 + k) → r i = ss i) ∧ ∀ j : Int, 0 ≤ j → j < k → r ((10 + (4 * N 0 2)) + j) = v j) (fun n k r k0 k1 hp ih => ?_) (fun n r hp => ?_) 0 ⟨by omega, by omega⟩ ss ⟨fun _ _ => rfl, fun j j0 j1 => by omega⟩
  · rw [wX4_isDone_121_s]
    obtain ⟨ho, hj⟩ := hp
    have r1 : r 0 = N 0 2 := by rw [ho 0 (by omega), e1]
    refine ⟨by omega, fun z => by omega, fun _ => ?_⟩
    show (0 ≤ k ∧ k < 4) ∧ (0 ≤ (10 + (4 * r 0)) + k ∧ (10 + (4 * r 0)) + k < 147) ∧ _
    refine ⟨by omega, by omega, fun z33 e33 v34 e34 => ?_⟩
    subst e33 e34
    rw [r1]
    refine ih _ ⟨fun i hi => ?_, fun j j0 j1 => ?_⟩
    · rw [su_ne _ _ (by omega)]; exact ho i (by omega)
    · by_cases e : j = k
      · rw [e, su_at]
        exact hn k k0 (by omega)
      · rw [su_ne _ _ (by omega)]; exact hj j j0 (by omega)
  · rw [wX4_isDone_121_s]
    obtain ⟨ho, hj⟩ := hp
    have r1 : r 0 = N 0 2 := by rw [ho 0 (by omega), e1]
    refine ⟨by omega, fun _ => ?_, fun z => by omega⟩
    refine gFor (α := AR) (fun n k t => wX4_isDone_159 nu Q n k t fa) 5 (fun k t => (∀ i : Int, (∀ g : Int, 0 ≤ g → g < k → ¬ i = (67 + (8 * g)) + N 0 2) → t i = r i) ∧ ∀ g : Int, 0 ≤ g → g < k → t ((67 + (8 * g)) + N 0 2) = -9) (fun n k t k0 k1 hp ih => ?_) (fun n t hp => ?_) 0 ⟨by omega, by omega⟩ r ⟨fun _ _ => rfl, fun j j0 j1 => by omega⟩
    · rw [wX4_isDone_159_s]
      obtain ⟨ho2, hj2⟩ := hp
      have t1 : t 0 = N 0 2 := by rw [ho2 0 (fun g _ _ => by omega), r1]
      refine ⟨by omega, fun z => by omega, fun _ => ?_⟩
      show (0 ≤ (67 + (8 * k)) + t 0 ∧ (67 + (8 * k)) + t 0 < 147) ∧ _
      refine ⟨by omega, fun z6 e6 v7 e7 => ?_⟩
      subst e6 e7
      rw [t1]
      refine ih _ ⟨fun i hi => ?_, fun j j0 j1 => ?_⟩
      · rw [su_ne _ _ (hi k k0 (by omega))]; exact ho2 i (fun g g0 g1 => hi g g0 (by omega))
      · by_cases e : j = k
        · rw [e, su_at]
        · rw [su_ne _ _ (by omega)]; exact hj2 j j0 (by omega)
    · rw [wX4_isDone_159_s]
      obtain ⟨ho2, hj2⟩ := hp
      have t1 : t 0 = N 0 2 := by rw [ho2 0 (fun g _ _ => by omega), r1]
      refine ⟨by omega, fun _ z3 e3 => h _ _ ?_, fun z => by omega⟩
      subst e3
      rw [t1]
      have hz : ∀ j : Int, 0 ≤ j → j < 4 → su t 0 (N 0 2 + 1) ((10 + (4 * N 0 2)) + j) = v j := fun j j0 j1 => by
        rw [su_ne _ _ (by omega), ho2 _ (fun g _ _ => by omega)]
        exact hj j j0 j1
      refine Rep.que hw hR hq (su_at _ _ _) ⟨hz 0 (by omega) (by omega), hz 1 (by omega) (by omega), hz 2 (by omega) (by omega), hz 3 (by omega) (by omega)⟩ (fun g g0 g1 => ?_) (fun i i1 i2 i3 => ?_)
      · rw [su_ne _ _ (by omega)]; exact hj2 g g0 g1
      · rw [su_ne _ _ i1, ho2 i i3, ho i (by omega)]
theorem d_question {N : MS} (hw : wf N) (ht : 0 ≤ N 0 1 ∧ N 0 1 ≤ 999) {v : AR} (h0 : 0 ≤ v 0 ∧ v 0 ≤ 5) (h1 : 0 ≤ v 1 ∧ v 1 ≤ 9) (h2 : 0 ≤ v 2 ∧ v 2 ≤ 9) (h3 : 0 ≤ v 3 ∧ v 3 ≤ 9) {Q : Int → MS → Prop} (hok : ∀ N', dOk 113 v 4 N N' → Q 1 N') (hno : dNo 113 v 4 N → Q 0 N) : wX3_performQuestion N (v 0) (v 1) (v 2) (v 3) Q := by
  have hqs := hw.qs
  by_cases c2 : 0 ≤ v 2 ∧ v 2 < 7
  · refine s3_room c2 ⟨fun z => absurd rfl z, fun _ => ⟨by omega, fun c => ⟨by omega, fun _ => ⟨by omega, fun z4 e4 => ?_⟩, fun z => absurd c z⟩, fun c => hno (fun ss fa nu Q hR hn h v35 e35 v36 e36 => ?_)⟩⟩
    · subst e4
      refine ⟨(by omega : 0 ≤ N 0 2 ∧ N 0 2 < 8), fun z6 e6 => ?_⟩
      subst e6
      refine ⟨(by omega : 0 ≤ N 0 2 ∧ N 0 2 < 8), fun z8 e8 => ?_⟩
      subst e8
      refine ⟨(by omega : 0 ≤ N 0 2 ∧ N 0 2 < 8), fun z10 e10 z11 e11 => ?_⟩
      subst e10 e11
      refine hok (mQue N (v 0) (v 1) (v 2) (v 3)) ⟨wf_que hw c h0 h1 c2 h3, ht, fun ss fa nu Q hR hn h v35 e35 v36 e36 => ?_⟩
      have e1 := hR.1
      have n2 := hn 2 (by omega) (by omega)
      refine ⟨by omega, fun z => absurd z (by decide), fun z => absurd z (by decide), fun z => absurd z (by decide), fun _ => ?_, fun z => absurd z (by decide), fun z => absurd rfl z.2.2.2.1⟩
      rw [n2]
      exact s4_room c2 ⟨fun z => absurd z (by decide), fun _ => ⟨by omega, fun _ => s4_queDone hw hR c hn h, fun z => by omega⟩⟩
    · have e1 := hR.1
      have n2 := hn 2 (by omega) (by omega)
      refine ⟨by omega, fun z => absurd z (by decide), fun z => absurd z (by decide), fun z => absurd z (by decide), fun _ => ?_, fun z => absurd z (by decide), fun z => absurd rfl z.2.2.2.1⟩
      rw [n2]
      exact s4_room c2 ⟨fun z => absurd z (by decide), fun _ => ⟨by omega, fun z => by omega, fun _ => h _ _⟩⟩
  · refine s3_roomN (by omega) c2 ⟨fun _ => hno (fun ss fa nu Q hR hn h v35 e35 v36 e36 => ?_), fun z => absurd z (by decide)⟩
    have n2 := hn 2 (by omega) (by omega)
    refine ⟨by omega, fun z => absurd z (by decide), fun z => absurd z (by decide), fun z => absurd z (by decide), fun _ => ?_, fun z => absurd z (by decide), fun z => absurd rfl z.2.2.2.1⟩
    rw [n2]
    exact s4_roomN (by omega) c2 ⟨fun _ => h _ _, fun z => absurd rfl z⟩
