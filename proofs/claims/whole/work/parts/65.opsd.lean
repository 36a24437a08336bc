/-! the first of the least -/
def mMinB (t : Int → Int) (b : Int) : Nat → Int × Int
  | 0 => (-9, b)
  | n + 1 => if t (n : Int) < (mMinB t b n).2 then ((n : Int), t (n : Int)) else mMinB t b n
theorem mMinB_s (t : Int → Int) (b : Int) {i : Int} (h : 0 ≤ i) : mMinB t b (i + 1).toNat = if t i < (mMinB t b i.toNat).2 then (i, t i) else mMinB t b i.toNat := by
  obtain ⟨n, rfl⟩ := Int.eq_ofNat_of_zero_le h
  rw [show ((n : Int) + 1).toNat = n + 1 by omega, Int.toNat_natCast]
  rfl
def isFirst (t : Int → Int) (n a : Int) : Prop := (a = -9 ∧ ∀ g : Int, 0 ≤ g → g < n → 100 ≤ t g) ∨ ((0 ≤ a ∧ a < n) ∧ t a < 100 ∧ ∀ g : Int, 0 ≤ g → g < n → t a ≤ t g ∧ (g < a → t a < t g))
theorem isFirst_eq {t : Int → Int} {n a b : Int} (ha : isFirst t n a) (hb : isFirst t n b) : a = b := by
  rcases ha with ⟨a1, a2⟩ | ⟨a1, a2, a3⟩
  · rcases hb with ⟨b1, b2⟩ | ⟨b1, b2, b3⟩
    · rw [a1, b1]
    · have := a2 b b1.1 b1.2; omega
  · rcases hb with ⟨b1, b2⟩ | ⟨b1, b2, b3⟩
    · have := b2 a a1.1 a1.2; omega
    · have h1 := a3 b b1.1 b1.2
      have h2 := b3 a a1.1 a1.2
      by_cases c : a = b
      · exact c
      · by_cases c2 : a < b
        · have := h2.2 c2; omega
        · have := h1.2 (by omega); omega
theorem mMinB_spec (t : Int → Int) (n : Nat) : isFirst t n (mMinB t 100 n).1 ∧ ((mMinB t 100 n).1 = -9 → (mMinB t 100 n).2 = 100) ∧ (¬ (mMinB t 100 n).1 = -9 → (mMinB t 100 n).2 = t (mMinB t 100 n).1) := by
  induction n with
  | zero => exact ⟨Or.inl ⟨rfl, fun g g0 g1 => by omega⟩, fun _ => rfl, fun z => absurd rfl z⟩
  | succ n ih =>
    have e : mMinB t 100 (n + 1) = if t (n : Int) < (mMinB t 100 n).2 then ((n : Int), t (n : Int)) else mMinB t 100 n := rfl
    rw [e]
    obtain ⟨i1, i2, i3⟩ := ih
    by_cases c : t (n : Int) < (mMinB t 100 n).2
    · rw [if_pos c]
      refine ⟨Or.inr ⟨⟨by omega, by omega⟩, ?_, fun g g0 g1 => ?_⟩, fun z => ?_, fun _ => rfl⟩
      · rcases i1 with ⟨a1, a2⟩ | ⟨a1, a2, a3⟩
        · have := i2 a1
          show t (n : Int) < 100
          omega
        · have := i3 (by omega)
          show t (n : Int) < 100
          omega
      · dsimp only
        rcases i1 with ⟨a1, a2⟩ | ⟨a1, a2, a3⟩
        · have := i2 a1
          by_cases c2 : g = n
          · rw [c2]; omega
          · have := a2 g g0 (by omega); omega
        · have h9 := i3 (by omega)
          by_cases c2 : g = n
          · rw [c2]; omega
          · have := a3 g g0 (by omega); omega
      · dsimp only at z; omega
    · rw [if_neg c]
      refine ⟨?_, i2, i3⟩
      rcases i1 with ⟨a1, a2⟩ | ⟨a1, a2, a3⟩
      · have := i2 a1
        refine Or.inl ⟨a1, fun g g0 g1 => ?_⟩
        by_cases c2 : g = n
        · rw [c2]; omega
        · exact a2 g g0 (by omega)
      · have h9 := i3 (by omega)
        refine Or.inr ⟨by omega, a2, fun g g0 g1 => ?_⟩
        by_cases c2 : g = n
        · rw [c2]; omega
        · exact a3 g g0 (by omega)
/-- what the reference keeps: the first of the least, the least so far or a thousand million -/
def kept (t : Int → Int) (i y z : Int) : Prop := y = (mMinB t 100 i.toNat).1 ∧ (z = (mMinB t 100 i.toNat).2 ∨ (y = -9 ∧ z = 1000000000)) ∧ (0 ≤ z ∧ z ≤ 1000000000)
theorem kept0 (t : Int → Int) : kept t 0 (-9) 1000000000 := ⟨rfl, Or.inr ⟨rfl, rfl⟩, by omega⟩
theorem kept_skip {t : Int → Int} {i y z : Int} (i0 : 0 ≤ i) (h : kept t i y z) (ht : z ≤ t i ∨ 100 ≤ t i) : kept t (i + 1) y z := by
  have h2 := mMinB_spec t i.toNat
  obtain ⟨h3, h4, h5⟩ := h
  have h6 : ¬ t i < (mMinB t 100 i.toNat).2 := by
    rcases h2.1 with ⟨a1, a2⟩ | ⟨a1, a2, a3⟩
    · have := h2.2.1 a1; omega
    · have := h2.2.2 (by omega)
      rcases h4 with h4 | h4
      · omega
      · omega
  have e := mMinB_s t 100 i0
  rw [if_neg h6] at e
  unfold kept
  rw [e]
  exact ⟨h3, h4, h5⟩
theorem kept_take {t : Int → Int} {i y z : Int} (i0 : 0 ≤ i) (h : kept t i y z) (ht : t i < z ∧ 0 ≤ t i ∧ t i < 100) : kept t (i + 1) i (t i) := by
  have h2 := mMinB_spec t i.toNat
  obtain ⟨h3, h4, h5⟩ := h
  have h6 : t i < (mMinB t 100 i.toNat).2 := by
    rcases h2.1 with ⟨a1, a2⟩ | ⟨a1, a2, a3⟩
    · have := h2.2.1 a1; omega
    · have := h2.2.2 (by omega)
      rcases h4 with h4 | h4
      · omega
      · omega
  have e := mMinB_s t 100 i0
  rw [if_pos h6] at e
  unfold kept
  rw [e]
  exact ⟨rfl, Or.inl rfl, by omega⟩
/-! when a thing is done -/
theorem mMinutes_succ (n : Nat) (M : MS) : mMinutes (n + 1) M = mMinute (mMinutes n M) := by
  induction n generalizing M with
  | zero => rfl
  | succ n ih => exact ih (mMinute M)
theorem till_ge (D : MS → Int) : ∀ (n : Nat) (M : MS) (y : Nat), y ≤ n → ((y : Int) ≤ mTillF D n M ↔ ∀ j : Nat, j < y → ¬ D (mMinutes j M) = 0) := by
  intro n
  induction n with
  | zero => intro M y hy; exact ⟨fun _ j hj => by omega, fun _ => by have := (mTillF_range D 0 M).1; omega⟩
  | succ n ih =>
    intro M y hy
    have hr := mTillF_range D n (mMinute M)
    unfold mTillF
    by_cases c : D M = 0
    · rw [if_pos c]
      refine ⟨fun h j hj => by omega, fun h => ?_⟩
      by_cases c2 : y = 0
      · omega
      · exact absurd c (h 0 (by omega))
    · rw [if_neg c]
      by_cases c2 : y = 0
      · exact ⟨fun _ j hj => by omega, fun _ => by omega⟩
      · have k := ih (mMinute M) (y - 1) (by omega)
        refine ⟨fun h j hj => ?_, fun h => ?_⟩
        · by_cases c3 : j = 0
          · rw [c3]; exact c
          · have := k.1 (by omega) (j - 1) (by omega)
            rw [show j = (j - 1) + 1 by omega]; exact this
        · have := k.2 (fun j hj => h (j + 1) (by omega))
          omega
theorem till_at {D : MS → Int} {M : MS} {y : Int} (y0 : 0 ≤ y) (y1 : y < 100) (h : y ≤ mTillF D 100 M) : (D (mMinutes y.toNat M) = 0 → mTillF D 100 M = y) ∧ (¬ D (mMinutes y.toNat M) = 0 → y + 1 ≤ mTillF D 100 M) := by
  have h1 := (till_ge D 100 M y.toNat (by omega)).1 (by omega)
  have h2 := till_ge D 100 M (y.toNat + 1) (by omega)
  refine ⟨fun c => ?_, fun c => ?_⟩
  · have h3 : ¬ (((y.toNat + 1 : Nat) : Int) ≤ mTillF D 100 M) := fun z => h2.1 z y.toNat (by omega) c
    omega
  · have h3 := h2.2 (fun j hj => ?_)
    · omega
    · by_cases c2 : j = y.toNat
      · rw [c2]; exact c
      · exact h1 j (by omega)
theorem s3_firstDone {T : MS} (hw : wf T) {Q : Int → MS → Prop} (h : ∀ T', Q (mMinB (mTill T) 100 (T 0 7).toNat).1 T') : wX3_firstDone T Q := by
  have hgs := hw.gs
  have un := (mMinB_spec (mTill T) (T 0 7).toNat).1
  rw [show ((T 0 7).toNat : Int) = T 0 7 by omega] at un
  refine gFor (fun n y T' => wX3_firstDone_2 Q n y T') 100 (fun y T' => T' = mMinutes y.toNat T ∧ ∀ g : Int, 0 ≤ g → g < T 0 7 → y ≤ mTill T g) (fun n y T' y0 y1 hp ih => ?_) (fun n T' hp => ?_) 0 ⟨by omega, by omega⟩ T ⟨rfl, fun g g0 g1 => (mTill_range T g).1⟩
  · rw [wX3_firstDone_2_s]
    refine ⟨by omega, fun c => by omega, fun c => ?_⟩
    obtain ⟨hT, hy⟩ := hp
    have h4 := wf_minutes y.toNat hw
    rw [← hT] at h4
    refine gFor (fun n g T2 => wX3_firstDone_10 (wX3_firstDone_2 Q _) Q n y g T2) (T 0 7) (fun g T2 => T2 = T' ∧ ∀ k : Int, 0 ≤ k → k < g → y + 1 ≤ mTill T k) (fun n g T2 g0 g1 hq ih2 => ?_) (fun n T2 hq => ?_) 0 ⟨by omega, by omega⟩ T' ⟨rfl, fun k k0 k1 => by omega⟩
    · rw [wX3_firstDone_10_s]
      obtain ⟨hT2, hk⟩ := hq
      subst hT2
      have ta := till_at (D := fun M => if mNext M g = -9 then 0 else 1) y0 y1 (hy g g0 g1)
      rw [← hT] at ta
      refine ⟨by omega, by omega, fun c => by omega, fun c => s1_isDone h4.1 g0 (by omega) ?_⟩
      by_cases c1 : mNext T2 g = -9
      · rw [if_pos c1]
        refine ⟨fun z => absurd z (by decide), fun _ => ?_⟩
        have e : mTill T g = y := ta.1 (if_pos c1)
        rw [show g = (mMinB (mTill T) 100 (T 0 7).toNat).1 from isFirst_eq (Or.inr ⟨⟨g0, g1⟩, by omega, fun k k0 k1 => ⟨by have := hy k k0 k1; omega, fun k2 => by have := hk k k0 k2; omega⟩⟩) un]
        exact h T2
      · rw [if_neg c1]
        refine ⟨fun _ v ev => ?_, fun z => absurd rfl z⟩
        subst ev
        refine ih2 _ ⟨rfl, fun k k0 k1 => ?_⟩
        by_cases c2 : k = g
        · rw [c2]
          exact ta.2 (by rw [if_neg c1]; decide)
        · exact hk k k0 (by omega)
    · rw [wX3_firstDone_10_s]
      obtain ⟨hT2, hk⟩ := hq
      subst hT2
      refine ⟨by omega, by omega, fun _ => s1_passMinute h4.1 (fun v ev => ?_), fun c => by omega⟩
      subst ev
      refine ih _ ⟨?_, hk⟩
      rw [show (y + 1).toNat = y.toNat + 1 by omega, mMinutes_succ, ← hT]
  · rw [wX3_firstDone_2_s]
    obtain ⟨hT, hy⟩ := hp
    refine ⟨by omega, fun _ => ?_, fun c => by omega⟩
    rw [show (-9 : Int) = (mMinB (mTill T) 100 (T 0 7).toNat).1 from isFirst_eq (Or.inl ⟨rfl, hy⟩) un]
    exact h T'
theorem op_ended {o : AR} {rw : AR} {rf : AR} {lg : AR} {sg : AR} {N : MS} {T : MS} {K : MS} {I : MS} {o2 : AR} {ss : AR} {mm : AR} {im : AR} {wa : AR} {le : AR} {ro : AR} {re : AR} {fa : AR} {nu : AR} (hI : gInv o rw rf lg sg N T K I o2 ss mm im wa le ro re fa nu) (x1 : Int) (hx1 : gR x1): wX3_ended rf N T x1 (fun (r : Int) (rf1 : AR) (T1 : MS) => wX4_ended ss mm re fa x1 (fun (r2 : Int) (mm1 : AR) (re1 : AR) (fa1 : AR) => r = r2 ∧ gInv o rw rf1 lg sg N T1 K I o2 ss mm1 im wa le ro re1 fa1 nu)) := by
  obtain ⟨hN, hIm, hRo, hLe, hRe⟩ := hI
  obtain ⟨hw, ht, hR⟩ := hN
  have hgs := hw.gs
  refine ⟨hx1, fun a => s3_refuse (by omega) (s4_isInN hx1 (by omega) (by omega) (by omega) ⟨fun z => absurd rfl z, fun _ => s4_no (by omega) ⟨rfl, ⟨hw, ht, hR⟩, hIm, hRo, hLe, hRe.no _⟩⟩), fun a => ⟨fun b => s3_think ⟨fun c => ?_, fun c => ?_⟩, fun b => s3_refuse (by omega) (s4_isInN hx1 (by omega) (by omega) (by omega) ⟨fun z => absurd rfl z, fun _ => s4_no (by omega) ⟨rfl, ⟨hw, ht, hR⟩, hIm, hRo, hLe, hRe.no _⟩⟩)⟩⟩
  · exact s3_tillAll (wf_think hw) (fun T' => s3_none (mTillAll_range _) (s4_isIn hx1 (by omega) (by omega) (by omega) ⟨fun _ => ⟨hx1, fun z => by omega, fun _ => s4_lays (fun z hz => s4_allDoneIn (wf_think hw) (Rep_think (hR.of hw (fun i i0 i1 => hz i i0 (by omega)))) (fun mm' fa' => ⟨rfl, ⟨hw, ht, hR⟩, hIm, hRo, hLe, hRe⟩))⟩, fun z => absurd z (by decide)⟩))
  · refine s3_firstDone (wf_think hw) (fun T' => s4_isIn hx1 (by omega) (by omega) (by omega) ⟨fun _ => ⟨hx1, fun _ => ?_, fun z => by omega⟩, fun z => absurd z (by decide)⟩)
    have e1 := hR.2.1
    refine gFor (α := Int × Int × AR × AR) (fun n i a => wX4_ended_46 ss _ n a.1 a.2.1 i a.2.2.1 re a.2.2.2) (N 0 7) (fun i a => kept (mTill (mThink N)) i a.1 a.2.1) (fun n i a i0 i1 hp ih => ?_) (fun n a hp => ?_) 0 ⟨by omega, by omega⟩ (-9, 1000000000, mm, fa) (kept0 _)
    · obtain ⟨y2, y3, mm1, fa1⟩ := a
      dsimp only at hp
      dsimp only
      rw [wX4_ended_46_s]
      have hr := mTill_range (mThink N) i
      refine ⟨by omega, by omega, fun c => by omega, fun c => s4_doneNow hw hR i0 i1 (fun mm' fa' => ?_)⟩
      have h5 := hp.2.2
      by_cases c2 : mTill (mThink N) i = 100
      · rw [show mOr (mTill (mThink N) i) = -9 from if_pos c2]
        refine ⟨by omega, fun _ v ev => ?_, fun z => absurd z (by decide)⟩
        subst ev
        exact ih (y2, y3, mm', fa') (kept_skip i0 hp (Or.inr (by omega)))
      · rw [show mOr (mTill (mThink N) i) = mTill (mThink N) i from if_neg c2]
        refine ⟨by omega, fun z => by omega, fun _ => ⟨by omega, fun c3 v ev => ?_, fun c3 v ev => ?_⟩⟩
        · subst ev
          exact ih (i, mTill (mThink N) i, mm', fa') (kept_take i0 hp (by omega))
        · subst ev
          exact ih (y2, y3, mm', fa') (kept_skip (z := y3) i0 hp (Or.inl (by omega)))
    · obtain ⟨y2, y3, mm1, fa1⟩ := a
      dsimp only at hp
      dsimp only
      rw [wX4_ended_46_s]
      exact ⟨by omega, by omega, fun _ => ⟨hp.1.symm, ⟨hw, ht, hR⟩, hIm, hRo, hLe, hRe⟩, fun c => by omega⟩
