/-! statements performed, by both -/
def dOk (c : Int) (v : AR) (m : Int) (N N' : MS) : Prop := wf N' ∧ (0 ≤ N' 0 1 ∧ N' 0 1 ≤ 999) ∧ ∀ (ss fa nu : AR) (Q : Int → AR → AR → Prop), Rep N ss → (∀ j : Int, 0 ≤ j → j < m → nu j = v j) → (∀ ss' fa' : AR, Rep N' ss' → Q 1 ss' fa') → wX4_isDone ss fa nu c Q
def dNo (c : Int) (v : AR) (m : Int) (N : MS) : Prop := ∀ (ss fa nu : AR) (Q : Int → AR → AR → Prop), Rep N ss → (∀ j : Int, 0 ≤ j → j < m → nu j = v j) → (∀ ss' fa' : AR, Q 0 ss' fa') → wX4_isDone ss fa nu c Q
theorem d_place {N : MS} (hw : wf N) (ht : 0 ≤ N 0 1 ∧ N 0 1 ≤ 999) {v : AR} (h0 : 0 ≤ v 0 ∧ v 0 ≤ 9) (h1 : 0 ≤ v 1 ∧ v 1 ≤ 9) {Q : Int → MS → Prop} (hok : ∀ N', dOk 97 v 2 N N' → Q 1 N') (hno : dNo 97 v 2 N → Q 0 N) : wX3_performPlace N (v 0) (v 1) Q := by
  have hgs := hw.gs
  by_cases c1 : 0 ≤ v 0 ∧ v 0 < N 0 7
  · refine s3_grp hw c1 ⟨fun z => absurd rfl z, fun _ => ?_⟩
    by_cases c2 : 0 ≤ v 1 ∧ v 1 < 7
    · refine s3_room c2 ⟨fun _ => ⟨by omega, fun z2 e2 => ⟨by omega, fun z4 e4 => ?_⟩⟩, fun z => absurd rfl z⟩
      subst e2 e4
      refine hok _ ⟨wf_st12 (wf_st11 hw c1 c2) c1 (by omega), ht, fun ss fa nu Q hR hn h v35 e35 v36 e36 => ?_⟩
      rw [hn 0 (by omega) (by omega)] at e35
      rw [hn 1 (by omega) (by omega)] at e36
      subst e35 e36
      refine ⟨by omega, fun _ => s4_grp hw hR c1 ⟨fun z => absurd z (by decide), fun _ => s4_room c2 ⟨fun _ => s4_of ⟨by omega, fun z2 e2 => s4_of ⟨by omega, fun z4 e4 => ?_⟩⟩, fun z => absurd z (by decide)⟩⟩, fun z => absurd z (by decide), fun z => absurd z (by decide), fun z => absurd z (by decide), fun z => absurd z (by decide), fun z => absurd rfl z.1⟩
      subst e2 e4
      exact h _ _ (Rep.st12 (wf_st11 hw c1 c2) (Rep.st11 hw hR c1.1 c1.2 (v 1)) c1.1 c1.2 0)
    · refine s3_roomN (by omega) c2 ⟨fun z => absurd z (by decide), fun _ => hno (fun ss fa nu Q hR hn h v35 e35 v36 e36 => ?_)⟩
      rw [hn 0 (by omega) (by omega)] at e35
      rw [hn 1 (by omega) (by omega)] at e36
      subst e35 e36
      exact ⟨by omega, fun _ => s4_grp hw hR c1 ⟨fun z => absurd z (by decide), fun _ => s4_roomN (by omega) c2 ⟨fun z => absurd rfl z, fun _ => h _ _⟩⟩, fun z => absurd z (by decide), fun z => absurd z (by decide), fun z => absurd z (by decide), fun z => absurd z (by decide), fun z => absurd rfl z.1⟩
  · refine s3_grpN hw (by omega) c1 ⟨fun _ => hno (fun ss fa nu Q hR hn h v35 e35 v36 e36 => ?_), fun z => absurd z (by decide)⟩
    rw [hn 0 (by omega) (by omega)] at e35
    rw [hn 1 (by omega) (by omega)] at e36
    subst e35 e36
    exact ⟨by omega, fun _ => s4_grpN hw hR (by omega) c1 ⟨fun _ => h _ _, fun z => absurd rfl z⟩, fun z => absurd z (by decide), fun z => absurd z (by decide), fun z => absurd z (by decide), fun z => absurd z (by decide), fun z => absurd rfl z.1⟩
theorem d_door {N : MS} (hw : wf N) (ht : 0 ≤ N 0 1 ∧ N 0 1 ≤ 999) {v : AR} (h0 : 0 ≤ v 0 ∧ v 0 ≤ 9) (h1 : 0 ≤ v 1 ∧ v 1 ≤ 9) {Q : Int → MS → Prop} (hok : ∀ N', dOk 100 v 2 N N' → Q 1 N') (hno : dNo 100 v 2 N → Q 0 N) : wX3_performDoor N (v 0) (v 1) Q := by
  by_cases c1 : 0 ≤ v 0 ∧ v 0 < 7
  · refine s3_room c1 ⟨fun z => absurd rfl z, fun _ => ?_⟩
    by_cases c2 : 0 ≤ v 1 ∧ v 1 < 7
    · refine s3_room c2 ⟨fun z => absurd rfl z, fun _ => ⟨by omega, by omega, fun c3 => s2_turn hw c1 c2 c3 (fun f hf z10 e10 => ?_), fun c3 => hno (fun ss fa nu Q hR hn h v35 e35 v36 e36 => ?_)⟩⟩
      · subst e10
        refine hok _ ⟨wf_doors hw hf, ht, fun ss fa nu Q hR hn h v35 e35 v36 e36 => ?_⟩
        rw [hn 0 (by omega) (by omega)] at e35
        rw [hn 1 (by omega) (by omega)] at e36
        subst e35 e36
        exact ⟨by omega, fun z => absurd z (by decide), fun _ => s4_room c1 ⟨fun z => absurd z (by decide), fun _ => s4_room c2 ⟨fun z => absurd z (by decide), fun _ => ⟨by omega, by omega, fun _ => s4_turnsDoor hR c1 c2 c3 (h _ _ (hR.turned hw c1 c2 c3 rfl f)), fun z => absurd z c3⟩⟩⟩, fun z => absurd z (by decide), fun z => absurd z (by decide), fun z => absurd z (by decide), fun z => absurd rfl z.2.1⟩
      · rw [hn 0 (by omega) (by omega)] at e35
        rw [hn 1 (by omega) (by omega)] at e36
        subst e35 e36
        exact ⟨by omega, fun z => absurd z (by decide), fun _ => s4_room c1 ⟨fun z => absurd z (by decide), fun _ => s4_room c2 ⟨fun z => absurd z (by decide), fun _ => ⟨by omega, by omega, fun z => absurd c3 z, fun _ => h _ _⟩⟩⟩, fun z => absurd z (by decide), fun z => absurd z (by decide), fun z => absurd z (by decide), fun z => absurd rfl z.2.1⟩
    · refine s3_roomN (by omega) c2 ⟨fun _ => hno (fun ss fa nu Q hR hn h v35 e35 v36 e36 => ?_), fun z => absurd z (by decide)⟩
      rw [hn 0 (by omega) (by omega)] at e35
      rw [hn 1 (by omega) (by omega)] at e36
      subst e35 e36
      exact ⟨by omega, fun z => absurd z (by decide), fun _ => s4_room c1 ⟨fun z => absurd z (by decide), fun _ => s4_roomN (by omega) c2 ⟨fun _ => h _ _, fun z => absurd rfl z⟩⟩, fun z => absurd z (by decide), fun z => absurd z (by decide), fun z => absurd z (by decide), fun z => absurd rfl z.2.1⟩
  · refine s3_roomN (by omega) c1 ⟨fun _ => hno (fun ss fa nu Q hR hn h v35 e35 v36 e36 => ?_), fun z => absurd z (by decide)⟩
    rw [hn 0 (by omega) (by omega)] at e35
    rw [hn 1 (by omega) (by omega)] at e36
    subst e35 e36
    exact ⟨by omega, fun z => absurd z (by decide), fun _ => s4_roomN (by omega) c1 ⟨fun _ => h _ _, fun z => absurd rfl z⟩, fun z => absurd z (by decide), fun z => absurd z (by decide), fun z => absurd z (by decide), fun z => absurd rfl z.2.1⟩
theorem d_answer {N : MS} (hw : wf N) (ht : 0 ≤ N 0 1 ∧ N 0 1 ≤ 999) {v : AR} (h0 : 0 ≤ v 0 ∧ v 0 ≤ 9) (h1 : 0 ≤ v 1 ∧ v 1 ≤ 9) (h2 : 0 ≤ v 2 ∧ v 2 ≤ 9) {Q : Int → MS → Prop} (hok : ∀ N', dOk 119 v 3 N N' → Q 1 N') (hno : dNo 119 v 3 N → Q 0 N) : wX3_performAnswer N (v 0) (v 1) (v 2) Q := by
  have hgs := hw.gs
  have hqs := hw.qs
  by_cases c1 : 0 ≤ v 0 ∧ v 0 < N 0 7
  · refine s3_grp hw c1 ⟨fun z => absurd rfl z, fun _ => ?_⟩
    by_cases c2 : 0 ≤ v 1 ∧ v 1 < N 0 2
    · refine s3_ques hw c2 ⟨fun _ => ⟨by omega, fun z2 e2 => ?_⟩, fun z => absurd rfl z⟩
      subst e2
      refine hok _ ⟨wf_st13 hw c1 c2 (Or.inr h2), ht, fun ss fa nu Q hR hn h v35 e35 v36 e36 => ?_⟩
      rw [hn 0 (by omega) (by omega)] at e35
      rw [hn 1 (by omega) (by omega)] at e36
      subst e35 e36
      refine ⟨by omega, fun z => absurd z (by decide), fun z => absurd z (by decide), fun z => absurd z (by decide), fun z => absurd z (by decide), fun _ => s4_grp hw hR c1 ⟨fun z => absurd z (by decide), fun _ => s4_ques hw hR c2 ⟨fun _ => ⟨by omega, fun z2 e2 => ?_⟩, fun z => absurd z (by decide)⟩⟩, fun z => absurd rfl z.2.2.2.2⟩
      rw [hn 2 (by omega) (by omega)] at e2
      subst e2
      exact h _ _ (Rep.st13 hw hR c1.1 c1.2 c2.1 c2.2 (v 2))
    · refine s3_quesN hw (by omega) c2 ⟨fun z => absurd z (by decide), fun _ => hno (fun ss fa nu Q hR hn h v35 e35 v36 e36 => ?_)⟩
      rw [hn 0 (by omega) (by omega)] at e35
      rw [hn 1 (by omega) (by omega)] at e36
      subst e35 e36
      exact ⟨by omega, fun z => absurd z (by decide), fun z => absurd z (by decide), fun z => absurd z (by decide), fun z => absurd z (by decide), fun _ => s4_grp hw hR c1 ⟨fun z => absurd z (by decide), fun _ => s4_quesN hw hR (by omega) c2 ⟨fun z => absurd rfl z, fun _ => h _ _⟩⟩, fun z => absurd rfl z.2.2.2.2⟩
  · refine s3_grpN hw (by omega) c1 ⟨fun _ => hno (fun ss fa nu Q hR hn h v35 e35 v36 e36 => ?_), fun z => absurd z (by decide)⟩
    rw [hn 0 (by omega) (by omega)] at e35
    rw [hn 1 (by omega) (by omega)] at e36
    subst e35 e36
    exact ⟨by omega, fun z => absurd z (by decide), fun z => absurd z (by decide), fun z => absurd z (by decide), fun z => absurd z (by decide), fun _ => s4_grpN hw hR (by omega) c1 ⟨fun _ => h _ _, fun z => absurd rfl z⟩, fun z => absurd rfl z.2.2.2.2⟩
theorem d_minutes {N : MS} (hw : wf N) (ht : 0 ≤ N 0 1 ∧ N 0 1 ≤ 999) {v : AR} (h0 : 0 ≤ v 0 ∧ v 0 ≤ 9) (h1 : 0 ≤ v 1 ∧ v 1 ≤ 9) {Q : Int → MS → Prop} (hok : ∀ N', dOk 109 v 2 N N' → Q 1 N') (hno : dNo 109 v 2 N → Q 0 N) : wX3_performMinutes N ((10 * v 0) + v 1) Q := by
  have no1 : ¬ (1 ≤ (10 * v 0) + v 1 ∧ (10 * v 0) + v 1 ≤ 60) → dNo 109 v 2 N := fun c ss fa nu Q hR hn h v35 e35 v36 e36 => by
    rw [hn 0 (by omega) (by omega)] at e35
    rw [hn 1 (by omega) (by omega)] at e36
    subst e35 e36
    refine ⟨by omega, fun z => absurd z (by decide), fun z => absurd z (by decide), fun z => absurd z (by decide), fun z => absurd z (by decide), fun z => absurd z (by decide), fun _ w ew => ?_⟩
    subst ew
    exact s4_isInN (by omega) (by omega) (by omega) c ⟨fun _ => h _ _, fun z => absurd rfl z⟩
  refine ⟨by omega, fun a => hno (no1 (by omega)), fun a => ⟨fun b => hno (no1 (by omega)), fun b => ⟨by omega, fun c => ?_, fun c => hno (fun ss fa nu Q hR hn h v35 e35 v36 e36 => ?_)⟩⟩⟩
  · have h4 := wf_minutes ((10 * v 0) + v 1).toNat hw
    refine s1_passMinutes hw (by omega) (by omega) (hok _ ⟨h4.1, by omega, fun ss fa nu Q hR hn h v35 e35 v36 e36 => ?_⟩)
    have e2 := hR.2.2.1
    rw [hn 0 (by omega) (by omega)] at e35
    rw [hn 1 (by omega) (by omega)] at e36
    subst e35 e36
    refine ⟨by omega, fun z => absurd z (by decide), fun z => absurd z (by decide), fun z => absurd z (by decide), fun z => absurd z (by decide), fun z => absurd z (by decide), fun _ w ew => ?_⟩
    subst ew
    exact s4_isIn (by omega) (by omega) (by omega) (by omega) ⟨fun z => absurd z (by decide), fun _ => ⟨by omega, fun _ => s4_minutesOn hw hR (by omega) (by omega) (fun fa' r' h5 _ => h _ _ h5), fun z => by omega⟩⟩
  · have e2 := hR.2.2.1
    rw [hn 0 (by omega) (by omega)] at e35
    rw [hn 1 (by omega) (by omega)] at e36
    subst e35 e36
    refine ⟨by omega, fun z => absurd z (by decide), fun z => absurd z (by decide), fun z => absurd z (by decide), fun z => absurd z (by decide), fun z => absurd z (by decide), fun _ w ew => ?_⟩
    subst ew
    exact s4_isIn (by omega) (by omega) (by omega) (by omega) ⟨fun z => absurd z (by decide), fun _ => ⟨by omega, fun z => by omega, fun _ => h _ _⟩⟩
/-! a group more -/
def mGrp (M : MS) (a b c : Int) : MS := st (st (st (st M 8 (M 0 7) a) 9 (M 0 7) b) 10 (M 0 7) c) 0 7 (M 0 7 + 1)
theorem wf_grp {M : MS} (h : wf M) (hg : M 0 7 < 5) {a b c : Int} (ha : 0 ≤ a ∧ a ≤ 9) (hb : 0 ≤ b ∧ b ≤ 9) (hc : 0 ≤ c ∧ c ≤ 7) : wf (mGrp M a b c) := by
  have hgs := h.gs
  refine ⟨h.1, ⟨by show 0 ≤ M 0 7 + 1; omega, by show M 0 7 + 1 ≤ 5; omega⟩, h.2.2.1, fun k k0 k1 => ?_, fun k j k0 k1 j0 j1 => ?_, fun k k0 k1 => ?_, h.2.2.2.2.2.2⟩
  · have hk := h.g k0 k1
    show (0 ≤ su (M 8) (M 0 7) a k ∧ su (M 8) (M 0 7) a k ≤ 9) ∧ (0 ≤ su (M 9) (M 0 7) b k ∧ su (M 9) (M 0 7) b k ≤ 9) ∧ (0 ≤ su (M 10) (M 0 7) c k ∧ su (M 10) (M 0 7) c k ≤ 7) ∧ (0 ≤ M 11 k ∧ _) ∧ (0 ≤ M 12 k ∧ _)
    refine ⟨?_, ?_, ?_, hk.2.2.2.1, hk.2.2.2.2⟩
    · unfold su; split <;> omega
    · unfold su; split <;> omega
    · unfold su; split <;> omega
  · have hs := h.s k0 k1 j0 j1
    refine ⟨hs.1, hs.2.1, fun cc => hs.2.2 ?_⟩
    have cc : M 0 7 + 1 ≤ k ∨ M 0 2 ≤ j := cc
    omega
  · have k0 : M 0 7 + 1 ≤ k := k0
    exact h.2.2.2.2.2.1 k (by omega) k1
theorem Rep.grp {M : MS} {r z : AR} (hw : wf M) (h : Rep M r) (hg : M 0 7 < 5) {a b c : Int} (hz1 : z 1 = M 0 7 + 1) (hzg : z ((42 + (5 * M 0 7)) + 0) = a ∧ z ((42 + (5 * M 0 7)) + 1) = b ∧ z ((42 + (5 * M 0 7)) + 2) = c ∧ z ((42 + (5 * M 0 7)) + 3) = 0 ∧ z ((42 + (5 * M 0 7)) + 4) = 0) (hzs : ∀ q : Int, 0 ≤ q → q < 8 → z ((67 + (8 * M 0 7)) + q) = -9) (ho : ∀ i : Int, ¬ i = 1 → ¬ (42 + 5 * M 0 7 ≤ i ∧ i < 47 + 5 * M 0 7) → ¬ (67 + 8 * M 0 7 ≤ i ∧ i < 75 + 8 * M 0 7) → z i = r i) : Rep (mGrp M a b c) z := by
  have hgs := hw.gs
  have hqs := hw.qs
  refine ⟨?_, hz1, ?_, fun x y x0 x1 y0 y1 => ?_, fun k k0 k1 => ?_, fun k k0 k1 => ?_, fun k j k0 k1 j0 j1 => ?_⟩
  · rw [ho 0 (by omega) (by omega) (by omega)]; exact h.1
  · rw [ho 2 (by omega) (by omega) (by omega)]; exact h.2.2.1
  · rw [ho (3 + x) (by omega) (by omega) (by omega)]; exact h.d x0 x1 y0 y1
  · have k1 : k < M 0 2 := k1
    rw [ho _ (by omega) (by omega) (by omega), ho _ (by omega) (by omega) (by omega), ho _ (by omega) (by omega) (by omega), ho _ (by omega) (by omega) (by omega)]
    exact h.q k0 k1
  · have k1 : k < M 0 7 + 1 := k1
    show _ = su (M 8) (M 0 7) a k ∧ _ = su (M 9) (M 0 7) b k ∧ _ = su (M 10) (M 0 7) c k ∧ _ = M 11 k ∧ _ = M 12 k
    by_cases e : k = M 0 7
    · have h6 := hw.2.2.2.2.2.1 (M 0 7) (Int.le_refl _) hg
      rw [e, su_at, su_at, su_at, h6.1, h6.2]
      exact hzg
    · rw [su_ne _ _ e, su_ne _ _ e, su_ne _ _ e, ho _ (by omega) (by omega) (by omega), ho _ (by omega) (by omega) (by omega), ho _ (by omega) (by omega) (by omega), ho _ (by omega) (by omega) (by omega), ho _ (by omega) (by omega) (by omega)]
      exact h.g k0 (by omega)
  · have k1 : k < M 0 7 + 1 := k1
    have j1 : j < M 0 2 := j1
    show _ = M 13 (k * 8 + j)
    by_cases e : k = M 0 7
    · have hs := (hw.s (g := k) (q := j) k0 (by omega) j0 (by omega)).2.2 (Or.inl (by omega))
      rw [hs, e]
      exact hzs j j0 (by omega)
    · rw [ho _ (by omega) (by omega) (by omega)]
      exact h.s k0 (by omega) j0 j1
