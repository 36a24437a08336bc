/-! who is too far; where it is fullest -/
theorem gor_small {x : Int} (hx : 0 ≤ x ∧ x ≤ 31) {b : Int} (b0 : 0 ≤ b) (b1 : b < 5) : 0 ≤ gor x (1 * 2 ^ b.toNat) ∧ gor x (1 * 2 ^ b.toNat) ≤ 31 := by
  have h : ((1 : Int) * 2 ^ b.toNat).toNat < 2 ^ 5 := by
    rcases (show b = 0 ∨ b = 1 ∨ b = 2 ∨ b = 3 ∨ b = 4 by omega) with rfl | rfl | rfl | rfl | rfl <;> decide
  have h2 : x.toNat ||| ((1 : Int) * 2 ^ b.toNat).toNat < 2 ^ 5 := Nat.or_lt_two_pow (by omega) h
  have h3 : gor x (1 * 2 ^ b.toNat) = ((x.toNat ||| ((1 : Int) * 2 ^ b.toNat).toNat : Nat) : Int) := rfl
  omega
theorem gor_none {x : Int} (hx : 0 ≤ x) : gor x 0 = x := by
  have h3 : gor x 0 = ((x.toNat ||| 0 : Nat) : Int) := rfl
  rw [h3, Nat.or_zero]
  omega
theorem s2_distance {op fa : AR} (hr : wfR op fa) {a b : Int} (a0 : 0 ≤ a) (a1 : a < 7) (b0 : 0 ≤ b) (b1 : b < 7) {Q : Int → Prop} (h : Q (if fa (a * 7 + b) = 1000 then -9 else fa (a * 7 + b))) : wX2_distance fa a b Q := by
  have h1 := hr.1 a b a0 a1 b0 b1
  have h2 := hr.2.2.2 a b a0 a1 b0 b1
  refine ⟨by omega, fun v ev => ?_⟩
  subst ev
  refine ⟨by omega, fun c => ?_, fun c => ?_⟩
  · rw [if_neg (by omega)] at h; exact h
  · rw [if_pos (by omega)] at h; exact h
def mFarOf (M : MS) (g : Int) : Int := if M 3 (M 11 g * 7 + 0) = 1000 then -9 else M 3 (M 11 g * 7 + 0)
theorem mFarOf_range {M : MS} (hw : wf M) {g : Int} (g0 : 0 ≤ g) (g1 : g < 5) : mFarOf M g = -9 ∨ (0 ≤ mFarOf M g ∧ mFarOf M g ≤ 6) := by
  have ha := (hw.g g0 g1).2.2.2.1
  have h1 := hw.r.1 (M 11 g) 0 ha.1 ha.2 (by omega) (by omega)
  have h2 := hw.r.2.2.2 (M 11 g) 0 ha.1 ha.2 (by omega) (by omega)
  unfold mFarOf
  by_cases c : M 3 (M 11 g * 7 + 0) = 1000
  · rw [if_pos c]; exact Or.inl rfl
  · rw [if_neg c]; omega
def mMissF (d : Int → Int) (n : Int) : Nat → Int
  | 0 => 0
  | k + 1 => if d (k : Int) = -9 ∨ n < d (k : Int) then gor (mMissF d n k) (1 * 2 ^ k) else mMissF d n k
theorem mMissF_s (d : Int → Int) (n : Int) {i : Int} (h : 0 ≤ i) : mMissF d n (i + 1).toNat = if d i = -9 ∨ n < d i then gor (mMissF d n i.toNat) (1 * 2 ^ i.toNat) else mMissF d n i.toNat := by
  obtain ⟨k, rfl⟩ := Int.eq_ofNat_of_zero_le h
  rw [show ((k : Int) + 1).toNat = k + 1 by omega, Int.toNat_natCast]
  rfl
theorem op_missing {o : AR} {rw : AR} {rf : AR} {lg : AR} {sg : AR} {N : MS} {T : MS} {K : MS} {I : MS} {o2 : AR} {ss : AR} {mm : AR} {im : AR} {wa : AR} {le : AR} {ro : AR} {re : AR} {fa : AR} {nu : AR} (hI : gInv o rw rf lg sg N T K I o2 ss mm im wa le ro re fa nu) (x1 x2 : Int) (hx1 : gR x1) (hx2 : gR x2): wX3_missing rf N T x1 x2 (fun (r : Int) (rf1 : AR) (T1 : MS) => wX4_missing ss mm re fa x1 x2 (fun (r2 : Int) (mm1 : AR) (re1 : AR) (fa1 : AR) => r = r2 ∧ gInv o rw rf1 lg sg N T1 K I o2 ss mm1 im wa le ro re1 fa1 nu)) := by
  obtain ⟨hN, hIm, hRo, hLe, hRe⟩ := hI
  obtain ⟨hw, ht, hR⟩ := hN
  have hgs := hw.gs
  have e1 := hR.2.1
  refine ⟨hx1, fun a => s3_refuse (by omega) ⟨hx1, fun _ => s4_no (by omega) ⟨rfl, ⟨hw, ht, hR⟩, hIm, hRo, hLe, hRe.no _⟩, fun z => absurd a z⟩, fun a => ⟨hx2, fun b => ⟨fun c => s3_refuse (by omega) ⟨hx1, fun z => absurd z a, fun _ => ⟨hx2, fun _ => ⟨fun _ => s4_no (by omega) ⟨rfl, ⟨hw, ht, hR⟩, hIm, hRo, hLe, hRe.no _⟩, fun z => absurd c z⟩, fun z => absurd b z⟩⟩, fun c => ⟨fun d => ?_, fun d => s3_refuse (by omega) ⟨hx1, fun z => absurd z a, fun _ => ⟨hx2, fun _ => ⟨fun z => absurd z c, fun _ => ⟨fun z => absurd z d, fun _ => s4_no (by omega) ⟨rfl, ⟨hw, ht, hR⟩, hIm, hRo, hLe, hRe.no _⟩⟩⟩, fun z => absurd b z⟩⟩⟩⟩, fun b => s3_refuse (by omega) ⟨hx1, fun z => absurd z a, fun _ => ⟨hx2, fun z => absurd z b, fun _ => s4_no (by omega) ⟨rfl, ⟨hw, ht, hR⟩, hIm, hRo, hLe, hRe.no _⟩⟩⟩⟩⟩
  have h4 := wf_minutes x1.toNat (wf_think hw)
  have eg : (mThink N) 0 7 = N 0 7 := rfl
  refine s3_thinkAhead hw (by omega) (by omega) ?_
  obtain ⟨M, eM⟩ : ∃ M : MS, M = mMinutes x1.toNat (mThink N) := ⟨_, rfl⟩
  rw [← eM]
  rw [← eM] at h4
  refine gFor (α := Int) (fun n i y3 => wX3_missing_44 N _ n x2 y3 i rf M) (N 0 7) (fun i y3 => y3 = mMissF (mFarOf M) x2 i.toNat ∧ (0 ≤ y3 ∧ y3 ≤ 31)) (fun n i y3 i0 i1 hp ih => ?_) (fun n y3 hp => ?_) 0 ⟨by omega, by omega⟩ 0 ⟨rfl, by decide⟩
  · rw [wX3_missing_44_s]
    obtain ⟨hp, hb⟩ := hp
    have hf := mFarOf_range h4.1 i0 (by omega)
    have ha := (h4.1.g i0 (by omega)).2.2.2.1
    have p := pw2 i0 (by omega)
    have gs := gor_small hb i0 (by omega)
    have e := mMissF_s (mFarOf M) x2 i0
    rw [← hp] at e
    refine ⟨by omega, by omega, fun c => by omega, fun c => ⟨by omega, s2_distance h4.1.r ha.1 ha.2 (by omega) (by omega) ?_⟩⟩
    rw [show (if M 3 (M 11 i * 7 + 0) = 1000 then -9 else M 3 (M 11 i * 7 + 0)) = mFarOf M i from rfl]
    refine ⟨by omega, fun c2 => ⟨by omega, by omega, fun v ev w ew => ?_⟩, fun c2 => ⟨by omega, fun c3 w ew => ?_, fun c3 => ⟨by omega, by omega, fun v ev w ew => ?_⟩⟩⟩
    · subst ev ew
      rw [if_pos (Or.inl c2)] at e
      exact ih _ ⟨e.symm, gs⟩
    · subst ew
      rw [if_neg (by omega)] at e
      exact ih _ ⟨e.symm, hb⟩
    · subst ev ew
      rw [if_pos (by omega)] at e
      exact ih _ ⟨e.symm, gs⟩
  · rw [wX3_missing_44_s]
    refine ⟨by omega, by omega, fun _ => ?_, fun c => by omega⟩
    refine ⟨hx1, fun z => absurd z a, fun _ => ⟨hx2, fun _ => ⟨fun z => absurd z c, fun _ => ⟨fun _ => s4_lays (fun z hz => s4_minutesOn (wf_think hw) (Rep_think (hR.of hw (fun i i0 i1 => hz i i0 (by omega)))) (by omega) (by omega) (fun fa' r' h5 _ => ?_)), fun z => absurd d z⟩⟩, fun z => absurd b z⟩⟩
    rw [← eM] at h5
    refine gFor (α := Int × AR) (fun n i a => wX4_missing_59 ss _ n x2 a.1 i r' re a.2) (N 0 7) (fun i a => a.1 = mMissF (mFarOf M) x2 i.toNat ∧ (0 ≤ a.1 ∧ a.1 ≤ 31)) (fun n i a i0 i1 hp2 ih => ?_) (fun n a hp2 => ?_) 0 ⟨by omega, by omega⟩ (0, fa') ⟨rfl, (by decide : (0 : Int) ≤ 0 ∧ (0 : Int) ≤ 31)⟩
    · obtain ⟨z3, fa1⟩ := a
      dsimp only at hp2
      dsimp only
      rw [wX4_missing_59_s]
      obtain ⟨hp2, hb⟩ := hp2
      have hf := mFarOf_range h4.1 i0 (by omega)
      have ha := (h4.1.g i0 (by omega)).2.2.2.1
      have hg := (h5.g i0 (by omega : i < M 0 7)).2.2.2.1
      have p := pw2 i0 (by omega)
      have gs := gor_small hb i0 (by omega)
      have e := mMissF_s (mFarOf M) x2 i0
      rw [← hp2] at e
      refine ⟨by omega, by omega, fun c => by omega, fun c => ⟨by omega, ?_⟩⟩
      show wX4_doors fa1 r' (r' ((42 + (5 * i)) + 3)) 0 _
      rw [hg]
      refine s4_doors h4.1.r (fun a b a0 a1 b0 b1 => h5.d a0 a1 b0 b1) ha.1 ha.2 (by omega) (by omega) (fun z => ?_)
      rw [show (if M 3 (M 11 i * 7 + 0) = 1000 then -9 else M 3 (M 11 i * 7 + 0)) = mFarOf M i from rfl]
      refine ⟨by omega, fun c2 => ⟨by omega, by omega, fun v ev w ew => ?_⟩, fun c2 => ⟨by omega, fun c3 => ⟨by omega, fun v ev w ew => ?_⟩, fun c3 => ⟨by omega, by omega, fun v ev w ew => ?_⟩⟩⟩
      · subst ev ew
        rw [if_pos (by omega)] at e
        exact ih (_, z) ⟨e.symm, gs⟩
      · subst ev ew
        rw [if_neg (by omega)] at e
        refine ih (_, z) ⟨?_, ?_⟩
        · show gor z3 0 = _
          rw [gor_none hb.1]; exact e.symm
        · show 0 ≤ gor z3 0 ∧ gor z3 0 ≤ 31
          rw [gor_none hb.1]; exact hb
      · subst ev ew
        rw [if_pos (by omega)] at e
        exact ih (_, z) ⟨e.symm, gs⟩
    · obtain ⟨z3, fa1⟩ := a
      dsimp only at hp2
      dsimp only
      rw [wX4_missing_59_s]
      exact ⟨by omega, by omega, fun _ => ⟨by rw [hp.1, hp2.1], ⟨hw, ht, hR⟩, hIm, hRo, hLe, hRe⟩, fun c => by omega⟩
/-! the fullest room, and when -/
def mFullR (c : Int → Int) (y : Int) : Nat → Int → Int × Int × Int → Int × Int × Int
  | 0, _, s => s
  | n + 1, r, s => mFullR c y n (r + 1) (if s.1 < c r then (c r, y, r) else s)
def mFullF : Nat → Int → MS → Int × Int × Int → Int × Int × Int
  | 0, _, _, s => s
  | n + 1, y, M, s => mFullF n (y + 1) (mMinute M) (mFullR (mAt M) y 7 0 s)
def mFull (M : MS) (n : Int) : Int × Int × Int := mFullF (n + 1).toNat 0 M (0, 0, 0)
theorem mAt_range {M : MS} (hw : wf M) (r : Int) : 0 ≤ mAt M r ∧ mAt M r ≤ 5 := by
  have hg := hw.gs
  have h := (sum01 (f := fun g => if M 11 g = r then 1 else 0) (M 0 7).toNat (fun i i0 i1 => by by_cases c : M 11 i = r <;> simp [c])).1
  unfold mAt
  omega
theorem mFull_start {M : MS} (hw : wf M) {n : Int} (n0 : 0 ≤ n) : mFullF (n + 1).toNat 0 M (-1, 0, 0) = mFull M n := by
  unfold mFull
  rw [show (n + 1).toNat = n.toNat + 1 by omega]
  have h := mAt_range hw 0
  have e1 : (if ((-1, 0, 0) : Int × Int × Int).1 < mAt M 0 then (mAt M 0, (0 : Int), (0 : Int)) else (-1, 0, 0)) = (mAt M 0, 0, 0) := if_pos (by show (-1 : Int) < mAt M 0; omega)
  have e2 : (if ((0, 0, 0) : Int × Int × Int).1 < mAt M 0 then (mAt M 0, (0 : Int), (0 : Int)) else (0, 0, 0)) = (mAt M 0, 0, 0) := by
    by_cases c : (0 : Int) < mAt M 0
    · exact if_pos c
    · rw [if_neg c, show mAt M 0 = 0 by omega]
  show mFullF n.toNat (0 + 1) (mMinute M) (mFullR (mAt M) 0 6 (0 + 1) (if ((-1, 0, 0) : Int × Int × Int).1 < mAt M 0 then (mAt M 0, (0 : Int), (0 : Int)) else (-1, 0, 0))) = mFullF n.toNat (0 + 1) (mMinute M) (mFullR (mAt M) 0 6 (0 + 1) (if ((0, 0, 0) : Int × Int × Int).1 < mAt M 0 then (mAt M 0, (0 : Int), (0 : Int)) else (0, 0, 0)))
  rw [e1, e2]
theorem s3_fullest {T : MS} (hw : wf T) {n k : Int} (n0 : 0 ≤ n) (n1 : n ≤ 99) (hk : gR k) {Q : Int → MS → Prop} (h : ∀ T', Q (if k = 0 then (mFull T n).1 else if k = 1 then (mFull T n).2.1 else (mFull T n).2.2) T') : wX3_fullest T n k Q := by
  refine gFor (α := (Int × Int × Int) × MS) (fun m y a => wX3_fullest_11 Q m n k a.1.1 a.1.2.1 a.1.2.2 y a.2) (n + 1) (fun y a => wf a.2 ∧ (-1 ≤ a.1.1 ∧ a.1.1 ≤ 5) ∧ mFullF (n + 1 - y).toNat y a.2 a.1 = mFull T n) (fun m y a y0 y1 hp ih => ?_) (fun m a hp => ?_) 0 ⟨by omega, by omega⟩ ((-1, 0, 0), T) ⟨hw, (by decide : (-1 : Int) ≤ -1 ∧ (-1 : Int) ≤ 5), by rw [show n + 1 - 0 = n + 1 by omega]; exact mFull_start hw n0⟩
  · obtain ⟨s, T'⟩ := a
    dsimp only at hp
    dsimp only
    rw [wX3_fullest_11_s]
    obtain ⟨hw', hb, he⟩ := hp
    rw [show (n + 1 - y).toNat = (n + 1 - (y + 1)).toNat + 1 by omega] at he
    have he : mFullF (n + 1 - (y + 1)).toNat (y + 1) (mMinute T') (mFullR (mAt T') y 7 0 s) = mFull T n := he
    refine ⟨by omega, by omega, fun c => by omega, fun c => ?_⟩
    refine gFor (α := Int × Int × Int) (fun m' r b => wX3_fullest_20 (wX3_fullest_11 Q _) Q m' n k b.1 b.2.1 b.2.2 y r T') 7 (fun r b => (-1 ≤ b.1 ∧ b.1 ≤ 5) ∧ mFullR (mAt T') y (7 - r).toNat r b = mFullR (mAt T') y 7 0 s) (fun m' r b r0 r1 hq ih2 => ?_) (fun m' b hq => ?_) 0 ⟨by omega, by omega⟩ s ⟨hb, by rw [show ((7 : Int) - 0).toNat = 7 from rfl]⟩
    · obtain ⟨y3, y4, y5⟩ := b
      dsimp only at hq
      dsimp only
      rw [wX3_fullest_20_s]
      obtain ⟨hb2, hq⟩ := hq
      have hr := mAt_range hw' r
      rw [show ((7 : Int) - r).toNat = (7 - (r + 1)).toNat + 1 by omega] at hq
      have hq : mFullR (mAt T') y (7 - (r + 1)).toNat (r + 1) (if y3 < mAt T' r then (mAt T' r, y, r) else (y3, y4, y5)) = mFullR (mAt T') y 7 0 s := hq
      refine ⟨by omega, fun c => by omega, fun c => s1_groupsAt hw' (by omega) ⟨by omega, by omega, fun c2 v ev => ?_, fun c2 v ev => ?_⟩⟩
      · subst ev
        rw [if_neg (by omega)] at hq
        exact ih2 (y3, y4, y5) ⟨hb2, hq⟩
      · subst ev
        rw [if_pos (by omega)] at hq
        exact ih2 (mAt T' r, y, r) ⟨(by omega : -1 ≤ mAt T' r ∧ mAt T' r ≤ 5), hq⟩
    · obtain ⟨y3, y4, y5⟩ := b
      dsimp only at hq
      dsimp only
      rw [wX3_fullest_20_s]
      obtain ⟨hb2, hq⟩ := hq
      rw [show (7 : Int) - 7 = 0 by omega] at hq
      refine ⟨by omega, fun _ => s1_passMinute hw' (fun v ev => ?_), fun c => by omega⟩
      subst ev
      refine ih ((y3, y4, y5), mMinute T') ⟨wf_minute hw', hb2, ?_⟩
      rw [show (y3, y4, y5) = mFullR (mAt T') y 7 0 s from hq]
      exact he
  · obtain ⟨s, T'⟩ := a
    obtain ⟨y3, y4, y5⟩ := s
    dsimp only at hp
    dsimp only
    rw [wX3_fullest_11_s]
    obtain ⟨hw', hb, he⟩ := hp
    rw [show n + 1 - (n + 1) = (0 : Int) by omega] at he
    have h' := h T'
    rw [← show (y3, y4, y5) = mFull T n from he] at h'
    refine ⟨by omega, by omega, fun _ => ⟨hk, fun c1 => ⟨fun c2 => ?_, fun c2 => ?_⟩, fun c1 => ?_⟩, fun c => by omega⟩
    · rw [if_neg c1, if_neg c2] at h'; exact h'
    · rw [if_neg c1, if_pos c2] at h'; exact h'
    · rw [if_pos c1] at h'; exact h'
theorem s4_inRoom {M : MS} {r : AR} (hw : wf M) (hR : Rep M r) {a : Int} (ha : gR a) {Q : Int → Prop} (h : Q (mAt M a)) : wX4_inRoom r a Q := by
  have hgs := hw.gs
  have e1 := hR.2.1
  refine gFor (α := Int) (fun n i y => wX4_inRoom_4 r Q n a y i) (M 0 7) (fun i y => y = sumI (fun g => if M 11 g = a then 1 else 0) i.toNat) (fun n i y i0 i1 hp ih => ?_) (fun n y hp => ?_) 0 ⟨by omega, by omega⟩ 0 rfl
  · rw [wX4_inRoom_4_s]
    have hg := (hR.g i0 i1).2.2.2.1
    have hb := (hw.g i0 (by omega)).2.2.2.1
    have e := sumI_s (fun g => if M 11 g = a then 1 else 0) i0
    rw [← hp] at e
    refine ⟨by omega, by omega, fun c => by omega, fun c => ⟨by omega, by omega, ha, fun c3 w ew w2 ew2 => ?_, fun c3 w ew w2 ew2 => ?_⟩⟩
    · subst ew ew2
      rw [if_neg (by rw [← hg]; exact c3)] at e
      exact ih _ e.symm
    · subst ew ew2
      rw [if_pos (by rw [← hg]; exact c3)] at e
      exact ih _ e.symm
  · rw [wX4_inRoom_4_s]
    refine ⟨by omega, by omega, fun _ => ?_, fun c => by omega⟩
    rw [hp]
    exact h
theorem s4_findsFull {M : MS} {o mm fa : AR} (hw : wf M) (hR : Rep M mm) {n : Int} (n0 : 0 ≤ n) (n1 : n ≤ 99) {Q : AR → AR → AR → Prop} (h : ∀ o' mm' fa', o' 13 = (mFull M n).1 → o' 14 = (mFull M n).2.1 → o' 15 = (mFull M n).2.2 → (∀ i : Int, i < 13 ∨ 15 < i → o' i = o i) → Q o' mm' fa') : wX4_findsFull o mm fa n Q := by
  intro z20 e20 z21 e21 z22 e22
  have hz : ∀ i : Int, i < 13 ∨ 15 < i → z22 i = o i := fun i hi => by rw [e22, e21, e20, su_ne _ _ (by omega), su_ne _ _ (by omega), su_ne _ _ (by omega)]
  have h13 : z22 13 = 0 := by rw [e22, e21, e20, su_ne _ _ (by omega), su_ne _ _ (by omega), su_at]
  have h14 : z22 14 = 0 := by rw [e22, e21, su_ne _ _ (by omega), su_at]
  have h15 : z22 15 = 0 := by rw [e22, su_at]
  refine gFor (α := AR × AR × AR) (fun m y a => wX4_findsFull_17 Q m n y a.1 a.2.1 a.2.2) (n + 1) (fun y a => ∃ M' : MS, wf M' ∧ Rep M' a.2.1 ∧ (0 ≤ a.1 13 ∧ a.1 13 ≤ 5) ∧ (∀ i : Int, i < 13 ∨ 15 < i → a.1 i = o i) ∧ mFullF (n + 1 - y).toNat y M' (a.1 13, a.1 14, a.1 15) = mFull M n) (fun m y a y0 y1 hp ih => ?_) (fun m a hp => ?_) 0 ⟨by omega, by omega⟩ (z22, mm, fa) ⟨M, hw, hR, by dsimp only; omega, hz, by dsimp only; rw [show n + 1 - 0 = n + 1 by omega, h13, h14, h15]; rfl⟩
  · obtain ⟨o1, mm1, fa1⟩ := a
    dsimp only at hp
    dsimp only
    rw [wX4_findsFull_17_s]
    obtain ⟨M', hw', hR', hb, ho, he⟩ := hp
    rw [show (n + 1 - y).toNat = (n + 1 - (y + 1)).toNat + 1 by omega] at he
    have he : mFullF (n + 1 - (y + 1)).toNat (y + 1) (mMinute M') (mFullR (mAt M') y 7 0 (o1 13, o1 14, o1 15)) = mFull M n := he
    refine ⟨by omega, by omega, fun c => by omega, fun c => ?_⟩
    refine gFor (α := AR) (fun m' r b => wX4_findsFull_24 (wX4_findsFull_17 Q _) Q m' n y r b mm1 fa1) 7 (fun r b => (0 ≤ b 13 ∧ b 13 ≤ 5) ∧ (∀ i : Int, i < 13 ∨ 15 < i → b i = o i) ∧ mFullR (mAt M') y (7 - r).toNat r (b 13, b 14, b 15) = mFullR (mAt M') y 7 0 (o1 13, o1 14, o1 15)) (fun m' r b r0 r1 hq ih2 => ?_) (fun m' b hq => ?_) 0 ⟨by omega, by omega⟩ o1 ⟨hb, ho, by rw [show ((7 : Int) - 0).toNat = 7 from rfl]⟩
    · rw [wX4_findsFull_24_s]
      obtain ⟨hb2, ho2, hq⟩ := hq
      have hr := mAt_range hw' r
      rw [show ((7 : Int) - r).toNat = (7 - (r + 1)).toNat + 1 by omega] at hq
      have hq : mFullR (mAt M') y (7 - (r + 1)).toNat (r + 1) (if b 13 < mAt M' r then (mAt M' r, y, r) else (b 13, b 14, b 15)) = mFullR (mAt M') y 7 0 (o1 13, o1 14, o1 15) := hq
      refine ⟨by omega, fun c => by omega, fun c => s4_inRoom hw' hR' (by omega) ⟨by omega, by omega, fun c2 => s4_inRoom hw' hR' (by omega) (fun z11 e11 z12 e12 z13 e13 v ev => ?_), fun c2 v ev => ?_⟩⟩
      · subst ev
        have g13 : z13 13 = mAt M' r := by rw [e13, e12, e11, su_ne _ _ (by omega), su_ne _ _ (by omega), su_at]
        have g14 : z13 14 = y := by rw [e13, e12, su_ne _ _ (by omega), su_at]
        have g15 : z13 15 = r := by rw [e13, su_at]
        rw [if_pos c2] at hq
        refine ih2 z13 ⟨by omega, fun i hi => ?_, by rw [g13, g14, g15]; exact hq⟩
        rw [e13, e12, e11, su_ne _ _ (by omega), su_ne _ _ (by omega), su_ne _ _ (by omega)]
        exact ho2 i hi
      · subst ev
        rw [if_neg c2] at hq
        exact ih2 b ⟨hb2, ho2, hq⟩
    · rw [wX4_findsFull_24_s]
      obtain ⟨hb2, ho2, hq⟩ := hq
      rw [show (7 : Int) - 7 = 0 by omega] at hq
      refine ⟨by omega, fun _ => s4_minute hw' hR' (fun fa2 mm2 h2 _ v ev => ?_), fun c => by omega⟩
      subst ev
      refine ih (b, mm2, fa2) ⟨mMinute M', wf_minute hw', h2, hb2, ho2, ?_⟩
      dsimp only
      rw [show (b 13, b 14, b 15) = mFullR (mAt M') y 7 0 (o1 13, o1 14, o1 15) from hq]
      exact he
  · obtain ⟨o1, mm1, fa1⟩ := a
    dsimp only at hp
    dsimp only
    rw [wX4_findsFull_17_s]
    obtain ⟨M', hw', hR', hb, ho, he⟩ := hp
    rw [show n + 1 - (n + 1) = (0 : Int) by omega] at he
    have he : (o1 13, o1 14, o1 15) = mFull M n := he
    refine ⟨by omega, by omega, fun _ => h o1 mm1 fa1 (by rw [← he]) (by rw [← he]) (by rw [← he]) ho, fun c => by omega⟩
theorem op_full {o : AR} {rw : AR} {rf : AR} {lg : AR} {sg : AR} {N : MS} {T : MS} {K : MS} {I : MS} {o2 : AR} {ss : AR} {mm : AR} {im : AR} {wa : AR} {le : AR} {ro : AR} {re : AR} {fa : AR} {nu : AR} (hI : gInv o rw rf lg sg N T K I o2 ss mm im wa le ro re fa nu) (x1 x2 : Int) (hx1 : gR x1) (hx2 : gR x2): wX3_full rf N T x1 x2 (fun (r : Int) (rf1 : AR) (T1 : MS) => wX4_full o2 ss mm re fa x1 x2 (fun (r2 : Int) (o21 : AR) (mm1 : AR) (re1 : AR) (fa1 : AR) => r = r2 ∧ gInv o rw rf1 lg sg N T1 K I o21 ss mm1 im wa le ro re1 fa1 nu)) := by
  obtain ⟨hN, hIm, hRo, hLe, hRe⟩ := hI
  obtain ⟨hw, ht, hR⟩ := hN
  have no21 : ∀ c : Int, (-6 ≤ c ∧ c ≤ -1) → wX4_full_21 ss (fun (r2 : Int) (o21 : AR) (mm1 : AR) (re1 : AR) (fa1 : AR) => c = r2 ∧ gInv o rw (su rf (-c) ((rf (-c)) + 1)) lg sg N T K I o21 ss mm1 im wa le ro re1 fa1 nu) x1 x2 c o2 mm re fa := fun c h => ⟨by omega, fun z => by omega, fun _ => s4_no (by omega) ⟨rfl, ⟨hw, ht, hR⟩, hIm, hRo, hLe, hRe.no _⟩⟩
  refine ⟨hx1, fun a => ⟨fun b => ⟨hx2, fun c => s3_refuse (by omega) (s4_wrong ⟨a, b⟩ ⟨by omega, fun z => absurd rfl z, fun _ => s4_isInN hx2 (by omega) (by omega) (by omega) ⟨fun z => absurd rfl z, fun _ => no21 (-2) (by omega)⟩⟩), fun c => ⟨fun d => ?_, fun d => s3_refuse (by omega) (s4_wrong ⟨a, b⟩ ⟨by omega, fun z => absurd rfl z, fun _ => s4_isInN hx2 (by omega) (by omega) (by omega) ⟨fun z => absurd rfl z, fun _ => no21 (-2) (by omega)⟩⟩)⟩⟩, fun b => s3_refuse (by omega) (s4_wrong6 hx1 b ⟨by omega, fun _ => no21 (-6) (by omega), fun z => absurd z (by decide)⟩)⟩, fun a => s3_refuse (by omega) (s4_wrong4 hx1 a ⟨by omega, fun _ => no21 (-4) (by omega), fun z => absurd z (by decide)⟩)⟩
  refine s3_think (s3_fullest (wf_think hw) a b hx2 (fun T' => s4_wrong ⟨a, b⟩ ⟨by omega, fun z => absurd rfl z, fun _ => s4_isIn hx2 (by omega) (by omega) (by omega) ⟨fun _ => ⟨by omega, fun _ => s4_lays (fun z hz => ?_), fun z => absurd rfl z⟩, fun z => absurd z (by decide)⟩⟩))
  refine s4_findsFull (wf_think hw) (Rep_think (hR.of hw (fun i i0 i1 => hz i i0 (by omega)))) a b (fun o' mm' fa' e13 e14 e15 ho => ?_)
  have fin : gInv o rw rf lg sg N T' K I o' ss mm' im wa le ro re fa' nu := ⟨⟨hw, ht, hR⟩, hIm.of rfl (ho 4 (by omega)), hRo.of rfl (ho 9 (by omega)), hLe.of (ho 8 (by omega)), hRe⟩
  refine ⟨hx2, fun c1 => ⟨fun c2 => ⟨?_, fin⟩, fun c2 => ⟨?_, fin⟩⟩, fun c1 => ⟨?_, fin⟩⟩
  · rw [if_neg c1, if_neg c2, e15]
  · rw [if_neg c1, if_pos c2, e14]
  · rw [if_pos c1, e13]
