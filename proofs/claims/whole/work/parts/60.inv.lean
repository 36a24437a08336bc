/-! what binds the class's state to the reference's -/
def gNow (N : MS) (ss : AR) : Prop := wf N ∧ (0 ≤ N 0 1 ∧ N 0 1 ≤ 999) ∧ Rep N ss
def gImg (o : AR) (I : MS) (o2 im : AR) : Prop := o 4 = o2 4 ∧ (o 4 = 0 ∨ o 4 = 1) ∧ (o 4 = 1 → gNow I im)
def gRow (o rw o2 ro : AR) : Prop := o 7 = o2 9 ∧ (0 ≤ o 7 ∧ o 7 ≤ 12) ∧ ∀ j : Int, 0 ≤ j → j < o 7 → rw j = ro j ∧ 0 ≤ rw j ∧ rw j ≤ 99
def gLet (lg sg o2 le : AR) : Prop := lg 1 = o2 8 ∧ (0 ≤ lg 1 ∧ lg 1 ≤ 96) ∧ ∀ j : Int, 0 ≤ j → j < lg 1 → sg j = le j ∧ 0 ≤ sg j ∧ sg j ≤ 255
def gRef (rf re : AR) : Prop := ∀ j : Int, 1 ≤ j → j ≤ 6 → rf j = re j
def gInv (o : AR) (rw : AR) (rf : AR) (lg : AR) (sg : AR) (N : MS) (T : MS) (K : MS) (I : MS) (o2 : AR) (ss : AR) (mm : AR) (im : AR) (wa : AR) (le : AR) (ro : AR) (re : AR) (fa : AR) (nu : AR) : Prop := gNow N ss ∧ gImg o I o2 im ∧ gRow o rw o2 ro ∧ gLet lg sg o2 le ∧ gRef rf re
theorem gImg.of {o o' o2 o2' im : AR} {I : MS} (h : gImg o I o2 im) (e : o' 4 = o 4) (e2 : o2' 4 = o2 4) : gImg o' I o2' im := ⟨by rw [e, e2]; exact h.1, by rw [e]; exact h.2.1, fun c => h.2.2 (by rw [← e]; exact c)⟩
theorem gRow.of {o o' rw o2 o2' ro : AR} (h : gRow o rw o2 ro) (e : o' 7 = o 7) (e2 : o2' 9 = o2 9) : gRow o' rw o2' ro := ⟨by rw [e, e2]; exact h.1, by rw [e]; exact h.2.1, fun j j0 j1 => h.2.2 j j0 (by rw [← e]; exact j1)⟩
theorem gLet.of {lg sg o2 o2' le : AR} (h : gLet lg sg o2 le) (e2 : o2' 8 = o2 8) : gLet lg sg o2' le := ⟨by rw [e2]; exact h.1, h.2⟩
theorem gRef.no {rf re : AR} (h : gRef rf re) (c : Int) : gRef (su rf c (rf c + 1)) (su re c (re c + 1)) := fun j j0 j1 => by
  unfold su
  by_cases e : j = c
  · subst e; rw [if_pos rfl, if_pos rfl, h j j0 j1]
  · rw [if_neg e, if_neg e, h j j0 j1]
/-! how the state began -/
def mFar0 : AR := fun i => if 0 ≤ i ∧ i < 49 ∧ ¬ i % 8 = 0 then 1000 else 0
theorem far0 {a t : Int} (a0 : 0 ≤ a) (a1 : a < 7) (t0 : 0 ≤ t) (t1 : t < 7) : mFar0 (a * 7 + t) = if a = t then 0 else 1000 := by
  show (if _ then _ else _) = _
  by_cases c : a = t
  · rw [if_pos c, if_neg (by omega)]
  · rw [if_neg c, if_pos (by omega)]
theorem far0r (i : Int) : 0 ≤ mFar0 i ∧ mFar0 i ≤ 1000 := by
  unfold mFar0
  by_cases c : 0 ≤ i ∧ i < 49 ∧ ¬ i % 8 = 0
  · rw [if_pos c]; decide
  · rw [if_neg c]; decide
theorem su_same (f : AR) (i : Int) : su f i (f i) = f := by
  funext j
  unfold su
  by_cases e : j = i
  · rw [if_pos e, e]
  · rw [if_neg e]
theorem measure0 : wX2_measure (fun _ => 0) (fun _ => 0) (fun z => z = mFar0) := by
  have sh : ∀ (k : Int) (Q : AR → Prop), 0 ≤ k → k < 7 → Q mFar0 → wX2_shortenBy mFar0 k Q := by
    intro k Q k0 k1 hQ
    refine gFor (fun n i z' => wX2_shortenBy_2 Q n k i z') 7 (fun _ z' => z' = mFar0) (fun n i z' i0 i1 hp ih => ?_) (fun n z' hp => ?_) 0 ⟨by omega, by omega⟩ mFar0 rfl
    · rw [wX2_shortenBy_2_s]
      refine ⟨by omega, fun c => by omega, fun c => ?_⟩
      refine gFor (fun n t z' => wX2_shortenBy_10 (wX2_shortenBy_2 Q _) Q n k i t z') 7 (fun _ z' => z' = mFar0) (fun n t z' t0 t1 hp ih2 => ?_) (fun n z' hp => ?_) 0 ⟨by omega, by omega⟩ z' hp
      · subst hp
        rw [wX2_shortenBy_10_s]
        have e1 := far0 i0 i1 k0 k1
        have e2 := far0 k0 k1 t0 t1
        have e3 := far0 i0 i1 t0 t1
        have b1 : 0 ≤ mFar0 (i * 7 + k) ∧ mFar0 (i * 7 + k) ≤ 1000 ∧ 0 ≤ mFar0 (k * 7 + t) ∧ mFar0 (k * 7 + t) ≤ 1000 ∧ 0 ≤ mFar0 (i * 7 + t) ∧ mFar0 (i * 7 + t) ≤ 1000 := by
          exact ⟨(far0r _).1, (far0r _).2, (far0r _).1, (far0r _).2, (far0r _).1, (far0r _).2⟩
        refine ⟨by omega, fun c => by omega, fun c => ⟨by omega, by omega, fun v ev => ⟨by omega, by omega, by omega, by omega, fun w ew v2 ev2 => ?_⟩⟩⟩
        subst ev ew ev2
        refine ih2 _ ?_
        have e4 : min (mFar0 (i * 7 + t)) (mFar0 (i * 7 + k) + mFar0 (k * 7 + t)) = mFar0 (i * 7 + t) := by
          by_cases c3 : i = t
          · rw [if_pos c3] at e3; omega
          · rw [if_neg c3] at e3
            by_cases c1 : i = k
            · rw [if_neg (show ¬ k = t by omega)] at e2; omega
            · rw [if_neg c1] at e1; omega
        rw [e4]
        exact su_same _ _
      · rw [wX2_shortenBy_10_s]
        refine ⟨by omega, fun _ v ev => ?_, fun c => by omega⟩
        subst ev
        exact ih z' hp
    · rw [wX2_shortenBy_2_s]
      subst hp
      exact ⟨by omega, fun _ => hQ, fun c => by omega⟩
  have l3 : ∃ n : Nat, wX2_measure_68 (fun _ => 0) (fun z => z = mFar0) n 0 mFar0 := by
    refine gFor (fun n i z' => wX2_measure_68 (fun _ => 0) (fun z => z = mFar0) n i z') 7 (fun _ z' => z' = mFar0) (fun n i z' i0 i1 hp ih => ?_) (fun n z' hp => ?_) 0 ⟨by omega, by omega⟩ mFar0 rfl
    · rw [wX2_measure_68_s]
      subst hp
      refine ⟨by omega, fun c => by omega, fun c => sh i _ i0 i1 (fun v e => ?_)⟩
      subst e
      exact ih _ rfl
    · rw [wX2_measure_68_s]
      exact ⟨by omega, fun _ => hp, fun c => by omega⟩
  have l2 : ∀ z : AR, z = (fun j => if 0 ≤ j ∧ j < 49 ∧ ¬ (j % 8 = 0 ∧ j < 8 * 0) then 1000 else 0) → ∃ n : Nat, wX2_measure_42 (fun _ => 0) (fun z => z = mFar0) n 0 z := by
    intro z hz
    refine gFor (fun n i z' => wX2_measure_42 (fun _ => 0) (fun z => z = mFar0) n i z') 7 (fun i z' => z' = (fun j => if 0 ≤ j ∧ j < 49 ∧ ¬ (j % 8 = 0 ∧ j < 8 * i) then 1000 else 0)) (fun n i z' i0 i1 hp ih => ?_) (fun n z' hp => ?_) 0 ⟨by omega, by omega⟩ z hz
    · rw [wX2_measure_42_s]
      refine ⟨by omega, fun c => by omega, fun c => ⟨by omega, fun w ew v e => ?_⟩⟩
      subst ew e hp
      refine ih _ ?_
      funext j
      unfold su
      by_cases c1 : j = i * 7 + i
      · rw [if_pos c1, if_neg (by omega)]
      · rw [if_neg c1]
        dsimp only
        by_cases c2 : 0 ≤ j ∧ j < 49 ∧ ¬ (j % 8 = 0 ∧ j < 8 * i)
        · rw [if_pos c2, if_pos (by omega)]
        · rw [if_neg c2, if_neg (by omega)]
    · rw [wX2_measure_42_s]
      have e : z' = mFar0 := by
        rw [hp]
        funext j
        show _ = if _ then _ else _
        by_cases c2 : 0 ≤ j ∧ j < 49 ∧ ¬ j % 8 = 0
        · rw [if_pos c2, if_pos (by omega)]
        · rw [if_neg c2, if_neg (by omega)]
      rw [e]
      exact ⟨by omega, fun _ => l3, fun c => by omega⟩
  refine gFor (fun n i z' => wX2_measure_2 (fun _ => 0) (fun z => z = mFar0) n i z') 49 (fun i z' => z' = (fun j => if 0 ≤ j ∧ j < i then 1000 else 0)) (fun n i z' i0 i1 hp ih => ?_) (fun n z' hp => ?_) 0 ⟨by omega, by omega⟩ (fun _ => 0) ?_
  · rw [wX2_measure_2_s]
    refine ⟨by omega, fun c => by omega, fun c => ⟨by omega, by omega, fun c2 => ⟨by omega, fun w ew v e => ?_⟩, fun c2 => absurd c2 (by omega)⟩⟩
    subst ew e hp
    refine ih _ ?_
    funext j
    unfold su
    by_cases c1 : j = i
    · rw [if_pos c1, if_pos (by omega)]
    · rw [if_neg c1]
      dsimp only
      by_cases c3 : 0 ≤ j ∧ j < i
      · rw [if_pos c3, if_pos (by omega)]
      · rw [if_neg c3, if_neg (by omega)]
  · rw [wX2_measure_2_s]
    refine ⟨by omega, fun _ => l2 z' ?_, fun c => by omega⟩
    rw [hp]
    funext j
    by_cases c3 : 0 ≤ j ∧ j < 49
    · rw [if_pos c3, if_pos (by omega)]
    · rw [if_neg c3, if_neg (by omega)]
  · funext j
    rw [if_neg (by omega)]
theorem wf_m0 : wf (m0 mFar0) := by
  have z5 : (0 : Int) ≤ 0 ∧ (0 : Int) ≤ 5 := by decide
  have z7 : (0 : Int) ≤ 0 ∧ (0 : Int) < 7 := by decide
  have zb : (0 : Int) ≤ 0 ∧ (0 : Int) ≤ 7 := by decide
  have z8 : (0 : Int) ≤ 0 ∧ (0 : Int) ≤ 8 := by decide
  have z9 : (0 : Int) ≤ 0 ∧ (0 : Int) ≤ 9 := by decide
  refine ⟨z8, z5, fun q q0 q1 => ⟨z5, z9, z7, z9⟩, fun g g0 g1 => ⟨z9, z9, zb, z7, z9⟩, fun g q _ _ _ _ => ⟨Or.inl rfl, Or.inl rfl, fun _ => rfl⟩, fun g _ _ => ⟨rfl, rfl⟩, ?_⟩
  refine ⟨fun a b a0 a1 b0 b1 => ⟨Or.inl rfl, rfl, rfl, ?_, ?_, fun c => ?_⟩, fun a b t _ _ _ _ _ _ c => absurd (show (0 : Int) = 1 from c) (by decide), fun a t a0 a1 t0 t1 c => Or.inl ?_, fun a t a0 a1 t0 t1 => ?_⟩
  · show 0 ≤ mFar0 (a * 7 + b) ∧ mFar0 (a * 7 + b) ≤ 1000
    rw [far0 a0 a1 b0 b1]
    by_cases c : a = b <;> simp [c]
  · show mFar0 (a * 7 + a) = 0
    rw [far0 a0 a1 a0 a1, if_pos rfl]
  · show 1 ≤ mFar0 (a * 7 + b)
    rw [far0 a0 a1 b0 b1, if_neg c]
    decide
  · show mFar0 (a * 7 + t) = 1000
    rw [far0 a0 a1 t0 t1, if_neg c]
  · show mFar0 (a * 7 + t) ≤ 6 ∨ mFar0 (a * 7 + t) = 1000
    rw [far0 a0 a1 t0 t1]
    by_cases c : a = t <;> simp [c]
theorem Rep_m0 : Rep (m0 mFar0) (fun _ => 0) := by
  refine ⟨rfl, rfl, rfl, fun a b a0 a1 b0 b1 => ⟨⟨Int.le_refl 0, (by decide : (0 : Int) ≤ 127)⟩, ?_⟩, fun q q0 q1 => ?_, fun g g0 g1 => ?_, fun g q g0 g1 => ?_⟩
  · show (0 : Int) / 2 ^ b.toNat % (1 + 1) = 0
    rw [Int.zero_ediv]; rfl
  · exact absurd (show q < 0 from q1) (by omega)
  · exact absurd (show g < 0 from g1) (by omega)
  · exact absurd (show g < 0 from g1) (by omega)
theorem gInv0 : gInv (fun _ => 0) (fun _ => 0) (fun _ => 0) (fun _ => 0) (fun _ => 0) (m0 mFar0) (m0 mFar0) (m0 mFar0) (m0 mFar0) (fun _ => 0) (fun _ => 0) (fun _ => 0) (fun _ => 0) (fun _ => 0) (fun _ => 0) (fun _ => 0) (fun _ => 0) (fun _ => 0) (fun _ => 0) :=
  ⟨⟨wf_m0, ⟨by decide, by decide⟩, Rep_m0⟩, ⟨rfl, Or.inl rfl, fun c => absurd (show (0 : Int) = 1 from c) (by decide)⟩, ⟨rfl, ⟨by decide, by decide⟩, fun j j0 j1 => absurd (show j < 0 from j1) (by omega)⟩, ⟨rfl, ⟨by decide, by decide⟩, fun j j0 j1 => absurd (show j < 0 from j1) (by omega)⟩, fun _ _ _ => rfl⟩
/-! a call refused; a place in or out -/
theorem s3_refuse {rf : AR} {c : Int} (hc : -6 ≤ c ∧ c ≤ 0) {Q : Int → AR → Prop} (h : Q c (su rf (-c) ((rf (-c)) + 1))) : wX3_refuse rf c Q := ⟨by omega, by omega, fun z e => by subst e; exact h⟩
theorem s4_no {re : AR} {c : Int} (hc : -6 ≤ c ∧ c ≤ 0) {Q : Int → AR → Prop} (h : Q c (su re (-c) ((re (-c)) + 1))) : wX4_no re c Q := ⟨by omega, by omega, fun z e => by subst e; exact h⟩
theorem s3_room {x : Int} (c : 0 ≤ x ∧ x < 7) {Q : Int → Prop} (h : Q 0) : wX3_noRoom x Q := ⟨by omega, fun _ => by omega, fun _ => ⟨fun _ => h, fun _ => by omega⟩⟩
theorem s3_roomN {x : Int} (hx : gR x) (c : ¬ (0 ≤ x ∧ x < 7)) {Q : Int → Prop} (h : Q 1) : wX3_noRoom x Q := ⟨hx, fun _ => h, fun _ => ⟨fun _ => by omega, fun _ => h⟩⟩
theorem s3_ques {N : MS} (hw : wf N) {x : Int} (c : 0 ≤ x ∧ x < N 0 2) {Q : Int → Prop} (h : Q 0) : wX3_noQuestion N x Q := by
  have := hw.qs
  exact ⟨by omega, fun _ => by omega, fun _ => ⟨by omega, fun _ => h, fun _ => by omega⟩⟩
theorem s3_quesN {N : MS} (hw : wf N) {x : Int} (hx : gR x) (c : ¬ (0 ≤ x ∧ x < N 0 2)) {Q : Int → Prop} (h : Q 1) : wX3_noQuestion N x Q := by
  have := hw.qs
  exact ⟨hx, fun _ => h, fun _ => ⟨by omega, fun _ => by omega, fun _ => h⟩⟩
theorem s3_grp {N : MS} (hw : wf N) {x : Int} (c : 0 ≤ x ∧ x < N 0 7) {Q : Int → Prop} (h : Q 0) : wX3_noGroup N x Q := by
  have := hw.gs
  exact ⟨by omega, fun _ => by omega, fun _ => ⟨by omega, fun _ => h, fun _ => by omega⟩⟩
theorem s3_grpN {N : MS} (hw : wf N) {x : Int} (hx : gR x) (c : ¬ (0 ≤ x ∧ x < N 0 7)) {Q : Int → Prop} (h : Q 1) : wX3_noGroup N x Q := by
  have := hw.gs
  exact ⟨hx, fun _ => h, fun _ => ⟨by omega, fun _ => by omega, fun _ => h⟩⟩
theorem s4_isIn {x a b : Int} (hx : gR x) (ha : gR a) (hb : gR b) (c : a ≤ x ∧ x ≤ b) {Q : Int → Prop} (h : Q 1) : wX4_isIn x a b Q := ⟨hx, ha, fun _ => by omega, fun _ => ⟨hb, fun _ => by omega, fun _ => h⟩⟩
theorem s4_isInN {x a b : Int} (hx : gR x) (ha : gR a) (hb : gR b) (c : ¬ (a ≤ x ∧ x ≤ b)) {Q : Int → Prop} (h : Q 0) : wX4_isIn x a b Q := ⟨hx, ha, fun _ => h, fun _ => ⟨hb, fun _ => h, fun _ => by omega⟩⟩
theorem s4_room {x : Int} (c : 0 ≤ x ∧ x < 7) {Q : Int → Prop} (h : Q 1) : wX4_isRoom x Q := s4_isIn (by omega) (by omega) (by omega) (by omega) h
theorem s4_roomN {x : Int} (hx : gR x) (c : ¬ (0 ≤ x ∧ x < 7)) {Q : Int → Prop} (h : Q 0) : wX4_isRoom x Q := s4_isInN hx (by omega) (by omega) (by omega) h
theorem s4_ques {N : MS} {ss : AR} (hw : wf N) (hR : Rep N ss) {x : Int} (c : 0 ≤ x ∧ x < N 0 2) {Q : Int → Prop} (h : Q 1) : wX4_isQuestion ss x Q := by
  have := hw.qs
  have := hR.1
  exact s4_isIn (by omega) (by omega) (by omega) (by omega) h
theorem s4_quesN {N : MS} {ss : AR} (hw : wf N) (hR : Rep N ss) {x : Int} (hx : gR x) (c : ¬ (0 ≤ x ∧ x < N 0 2)) {Q : Int → Prop} (h : Q 0) : wX4_isQuestion ss x Q := by
  have := hw.qs
  have := hR.1
  exact s4_isInN hx (by omega) (by omega) (by omega) h
theorem s4_grp {N : MS} {ss : AR} (hw : wf N) (hR : Rep N ss) {x : Int} (c : 0 ≤ x ∧ x < N 0 7) {Q : Int → Prop} (h : Q 1) : wX4_isGroup ss x Q := by
  have := hw.gs
  have := hR.2.1
  exact s4_isIn (by omega) (by omega) (by omega) (by omega) h
theorem s4_grpN {N : MS} {ss : AR} (hw : wf N) (hR : Rep N ss) {x : Int} (hx : gR x) (c : ¬ (0 ≤ x ∧ x < N 0 7)) {Q : Int → Prop} (h : Q 0) : wX4_isGroup ss x Q := by
  have := hw.gs
  have := hR.2.1
  exact s4_isInN hx (by omega) (by omega) (by omega) h
theorem Rep.of {M : MS} {r r' : AR} (hw : wf M) (h : Rep M r) (e : ∀ i : Int, 0 ≤ i → i < 107 → r' i = r i) : Rep M r' := by
  have hq := hw.qs
  have hg := hw.gs
  refine ⟨?_, ?_, ?_, fun a b a0 a1 b0 b1 => ?_, fun q q0 q1 => ?_, fun g g0 g1 => ?_, fun g q g0 g1 q0 q1 => ?_⟩
  · rw [e _ (by omega) (by omega)]; exact h.1
  · rw [e _ (by omega) (by omega)]; exact h.2.1
  · rw [e _ (by omega) (by omega)]; exact h.2.2.1
  · rw [e _ (by omega) (by omega)]; exact h.d a0 a1 b0 b1
  · rw [e _ (by omega) (by omega), e _ (by omega) (by omega), e _ (by omega) (by omega), e _ (by omega) (by omega)]; exact h.q q0 q1
  · rw [e _ (by omega) (by omega), e _ (by omega) (by omega), e _ (by omega) (by omega), e _ (by omega) (by omega), e _ (by omega) (by omega)]; exact h.g g0 g1
  · rw [e _ (by omega) (by omega)]; exact h.s g0 g1 q0 q1
theorem s4_lays {f g : AR} {Q : AR → Prop} (h : ∀ z : AR, (∀ i : Int, 0 ≤ i → i < 147 → z i = f i) → Q z) : wX4_lays f g Q := by
  refine gFor (fun n i z' => wX4_lays_2 f Q n i z') 147 (fun i z' => ∀ j : Int, 0 ≤ j → j < i → z' j = f j) (fun n i z' i0 i1 hp ih => ?_) (fun n z' hp => ?_) 0 ⟨by omega, by omega⟩ g (fun j j0 j1 => by omega)
  · rw [wX4_lays_2_s]
    refine ⟨by omega, fun c => by omega, fun c => ⟨by omega, by omega, fun w ew v e => ?_⟩⟩
    subst ew e
    refine ih _ (fun j j0 j1 => ?_)
    by_cases c3 : j = i
    · rw [c3, su_at]
    · rw [su_ne _ _ c3]; exact hp j j0 (by omega)
  · rw [wX4_lays_2_s]
    exact ⟨by omega, fun _ => h z' hp, fun c => by omega⟩
