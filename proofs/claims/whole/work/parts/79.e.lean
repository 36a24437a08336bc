/-! the form of what is told -/
def tB (c : Int) : Int := if c = 97 then 2 else if c = 100 then 2 else if c = 103 then 3 else if c = 109 then 2 else if c = 113 then 4 else if c = 119 then 3 else 0
def tFit (c i b s : Int) : Int := if b < i then (if s = 59 then 1 else 0) else if c = 113 ∧ i = 1 then (if 0 ≤ kOf s then 1 else 0) else if 48 ≤ s ∧ s ≤ 57 then 1 else 0
def tAt (f : AR) (l p : Int) : Int := if 0 ≤ p ∧ p < l then f p else 0
def tBadF (f : AR) (l c b p : Int) : Nat → Int → Int
  | 0, _ => -9
  | n + 1, i => if p + i < l ∧ tFit c i b (f (p + i)) = 1 then tBadF f l c b p n (i + 1) else p + i
def tBad (f : AR) (l p : Int) : Int := if tB (tAt f l p) = 0 then p else tBadF f l (tAt f l p) (tB (tAt f l p)) p (tB (tAt f l p) + 1).toNat 1
def tForm (f : AR) (l : Int) : Nat → Int → Int
  | 0, _ => -9
  | n + 1, p => if tBad f l p = -9 then (if p + (tB (tAt f l p) + 2) < l then tForm f l n (p + (tB (tAt f l p) + 2)) else -9) else tBad f l p
def tCnt (f : AR) (l : Int) : Nat → Int → Int
  | 0, _ => 0
  | n + 1, p => if p < l then tCnt f l n (p + (tB (tAt f l p) + 2)) + 1 else 0
def tNum (c s j : Int) : Int := if c = 113 ∧ j = 0 then kOf s else s - 48
theorem tB_range (c : Int) : 0 ≤ tB c ∧ tB c ≤ 4 := by
  unfold tB
  repeat' split
  all_goals omega
theorem kOf_range (s : Int) : -1 ≤ kOf s ∧ kOf s ≤ 5 := by
  unfold kOf
  repeat' split
  all_goals omega
theorem tB_letter {c : Int} (h : ¬ tB c = 0) : c = 97 ∨ c = 100 ∨ c = 103 ∨ c = 109 ∨ c = 113 ∨ c = 119 := by
  by_cases c1 : c = 97
  · exact Or.inl c1
  by_cases c2 : c = 100
  · exact Or.inr (Or.inl c2)
  by_cases c3 : c = 103
  · exact Or.inr (Or.inr (Or.inl c3))
  by_cases c4 : c = 109
  · exact Or.inr (Or.inr (Or.inr (Or.inl c4)))
  by_cases c5 : c = 113
  · exact Or.inr (Or.inr (Or.inr (Or.inr (Or.inl c5))))
  by_cases c6 : c = 119
  · exact Or.inr (Or.inr (Or.inr (Or.inr (Or.inr c6))))
  · refine absurd ?_ h
    unfold tB
    rw [if_neg c1, if_neg c2, if_neg c3, if_neg c4, if_neg c5, if_neg c6]
theorem tFit_01 (c i b s : Int) : tFit c i b s = 0 ∨ tFit c i b s = 1 := by
  unfold tFit
  repeat' split
  all_goals omega
theorem tFit_dig {c i b s : Int} (hi : i ≤ b) (hq : ¬ (c = 113 ∧ i = 1)) : tFit c i b s = if 48 ≤ s ∧ s ≤ 57 then 1 else 0 := by
  unfold tFit
  rw [if_neg (by omega), if_neg hq]
theorem tFit_kind {b s : Int} (hi : 1 ≤ b) : tFit 113 1 b s = if 0 ≤ kOf s then 1 else 0 := by
  unfold tFit
  rw [if_neg (by omega), if_pos ⟨rfl, rfl⟩]
theorem tFit_semi {c b s : Int} : tFit c (b + 1) b s = if s = 59 then 1 else 0 := by
  unfold tFit
  rw [if_pos (by omega)]
theorem tBadF_spec {f : AR} {l c b p : Int} (p0 : 0 ≤ p) : ∀ (n : Nat) (i : Int), 0 ≤ i → (tBadF f l c b p n i = -9 ∧ ∀ j : Int, i ≤ j → j < i + n → p + j < l ∧ tFit c j b (f (p + j)) = 1) ∨ (p + i ≤ tBadF f l c b p n i ∧ tBadF f l c b p n i < p + i + n) := by
  intro n
  induction n with
  | zero => intro i _; exact Or.inl ⟨rfl, fun j j0 j1 => by omega⟩
  | succ n ih =>
    intro i i0
    have e : tBadF f l c b p (n + 1) i = if p + i < l ∧ tFit c i b (f (p + i)) = 1 then tBadF f l c b p n (i + 1) else p + i := rfl
    by_cases d : p + i < l ∧ tFit c i b (f (p + i)) = 1
    · rw [if_pos d] at e
      rw [e]
      rcases ih (i + 1) (by omega) with h | h
      · refine Or.inl ⟨h.1, fun j j0 j1 => ?_⟩
        by_cases e2 : j = i
        · rw [e2]; exact d
        · exact h.2 j (by omega) (by omega)
      · exact Or.inr (by omega)
    · rw [if_neg d] at e
      rw [e]
      exact Or.inr (by omega)
theorem tBad_spec {f : AR} {l p : Int} (p0 : 0 ≤ p) : (tBad f l p = -9 ∧ ¬ tB (tAt f l p) = 0 ∧ ∀ j : Int, 1 ≤ j → j < tB (tAt f l p) + 2 → p + j < l ∧ tFit (tAt f l p) j (tB (tAt f l p)) (f (p + j)) = 1) ∨ (p ≤ tBad f l p ∧ tBad f l p ≤ p + 6) := by
  have hb := tB_range (tAt f l p)
  unfold tBad
  by_cases c : tB (tAt f l p) = 0
  · rw [if_pos c]
    exact Or.inr (by omega)
  · rw [if_neg c]
    rcases tBadF_spec (f := f) (l := l) (c := tAt f l p) (b := tB (tAt f l p)) p0 (tB (tAt f l p) + 1).toNat 1 (by omega) with h | h
    · exact Or.inl ⟨h.1, c, fun j j0 j1 => h.2 j j0 (by omega)⟩
    · exact Or.inr (by omega)
theorem tForm_range {f : AR} {l : Int} (hl : 0 ≤ l ∧ l ≤ 96) : ∀ (n : Nat) (p : Int), 0 ≤ p → p ≤ 96 → tForm f l n p = -9 ∨ (0 ≤ tForm f l n p ∧ tForm f l n p ≤ 200) := by
  intro n
  induction n with
  | zero => intro p _ _; exact Or.inl rfl
  | succ n ih =>
    intro p p0 p1
    have e : tForm f l (n + 1) p = if tBad f l p = -9 then (if p + (tB (tAt f l p) + 2) < l then tForm f l n (p + (tB (tAt f l p) + 2)) else -9) else tBad f l p := rfl
    have hb := tB_range (tAt f l p)
    have hs := tBad_spec (f := f) (l := l) p0
    by_cases c : tBad f l p = -9
    · rw [if_pos c] at e
      by_cases d : p + (tB (tAt f l p) + 2) < l
      · rw [if_pos d] at e
        rw [e]
        exact ih _ (by omega) (by omega)
      · rw [if_neg d] at e
        exact Or.inl e
    · rw [if_neg c] at e
      rw [e]
      exact Or.inr (by omega)
theorem tCnt_end {f : AR} {l p : Int} (h : l ≤ p) (n : Nat) : tCnt f l n p = 0 := by
  cases n with
  | zero => rfl
  | succ n =>
    show (if p < l then tCnt f l n (p + (tB (tAt f l p) + 2)) + 1 else 0) = 0
    rw [if_neg (by omega)]
/-! the class reads the form -/
theorem s0_at {lg sg : AR} (hl : 0 ≤ lg 1 ∧ lg 1 ≤ 96) {p : Int} (hp : gR p) {Q : Int → Prop} (h : Q (tAt sg (lg 1) p)) : wX0_at lg sg p Q := by
  unfold tAt at h
  refine ⟨hp, fun c => ?_, fun c => ⟨by omega, fun d => ?_, fun d => ⟨by omega, ?_⟩⟩⟩
  · rw [if_neg (by omega)] at h; exact h
  · rw [if_neg (by omega)] at h; exact h
  · rw [if_pos (by omega)] at h; exact h
theorem s0_digit {lg sg : AR} (hl : 0 ≤ lg 1 ∧ lg 1 ≤ 96) {p : Int} (hp : gR p) {Q : Int → Prop} (h : Q (tAt sg (lg 1) p - 48)) : wX0_digit lg sg p Q := s0_at hl hp h
theorem s0_signs {c : Int} (hc : gR c) {Q : Int → Prop} (h : Q (tB c)) : wX0_signsBehind c Q := by
  refine ⟨hc, fun e => ?_, fun e => ?_, fun e => ?_, fun e => ?_, fun e => ?_, fun e => ?_, fun e => ?_⟩
  · rw [e] at h; exact h
  · rw [e] at h; exact h
  · rw [e] at h; exact h
  · rw [e] at h; exact h
  · rw [e] at h; exact h
  · rw [e] at h; exact h
  · have e2 : tB c = 0 := by
      unfold tB
      rw [if_neg e.1, if_neg e.2.1, if_neg e.2.2.1, if_neg e.2.2.2.1, if_neg e.2.2.2.2.1, if_neg e.2.2.2.2.2]
    rw [e2] at h; exact h
theorem s0_fits41 {s : Int} (hs : gR s) {Q : Int → Prop} (h : Q (if 48 ≤ s ∧ s ≤ 57 then 1 else 0)) : wX0_fits_41 Q s := by
  refine ⟨hs, fun c => ?_, fun c => ⟨fun d => ?_, fun d => ?_⟩⟩
  · rw [if_neg (by omega)] at h; exact h
  · rw [if_neg (by omega)] at h; exact h
  · rw [if_pos (by omega)] at h; exact h
theorem s0_fits {c i b s : Int} (hc : gR c) (hi : gR i) (hb : gR b) (hs : 0 ≤ s ∧ s ≤ 255) {Q : Int → Prop} (h : Q (tFit c i b s)) : wX0_fits c i b s Q := by
  have hk := kOf_range s
  unfold tFit at h
  refine ⟨hi, hb, fun a => ⟨hc, fun d => ?_, fun d => ⟨fun e => ?_, fun e => ⟨hs, by omega, fun k => ?_, fun k => ?_⟩⟩⟩, fun a => ⟨by omega, fun d => ?_, fun d => ?_⟩⟩
  · rw [if_neg (by omega), if_neg (by omega)] at h; exact s0_fits41 (by omega) h
  · rw [if_neg (by omega), if_neg (by omega)] at h; exact s0_fits41 (by omega) h
  · rw [if_neg (by omega), if_pos ⟨d, e⟩, if_neg (by omega)] at h; exact h
  · rw [if_neg (by omega), if_pos ⟨d, e⟩, if_pos (by omega)] at h; exact h
  · rw [if_pos (by omega), if_neg d] at h; exact h
  · rw [if_pos (by omega), if_pos d] at h; exact h
theorem tAt_range {f : AR} {l : Int} (hv : ∀ j : Int, 0 ≤ j → j < l → 0 ≤ f j ∧ f j ≤ 255) (p : Int) : 0 ≤ tAt f l p ∧ tAt f l p ≤ 255 := by
  unfold tAt
  by_cases c : 0 ≤ p ∧ p < l
  · rw [if_pos c]; exact hv p c.1 c.2
  · rw [if_neg c]; decide
theorem s0_fault {lg sg : AR} (hl : 0 ≤ lg 1 ∧ lg 1 ≤ 96) (hv : ∀ j : Int, 0 ≤ j → j < lg 1 → 0 ≤ sg j ∧ sg j ≤ 255) {p : Int} (hp : 0 ≤ p ∧ p ≤ 96) {Q : Int → Prop} (h : Q (tBad sg (lg 1) p)) : wX0_faultOfStatement lg sg p Q := by
  have hc := tAt_range hv p
  have hb := tB_range (tAt sg (lg 1) p)
  refine s0_at hl (by omega) (s0_signs (by omega) ⟨by omega, fun d => ?_, fun d => ?_⟩)
  · unfold tBad at h
    rw [if_neg d] at h
    obtain ⟨c, ec⟩ : ∃ c : Int, c = tAt sg (lg 1) p := ⟨_, rfl⟩
    rw [← ec] at h hc hb d
    rw [← ec]
    obtain ⟨b, eb⟩ : ∃ b : Int, b = tB c := ⟨_, rfl⟩
    rw [← eb] at h hb d
    rw [← eb]
    refine gFor (α := Unit) (fun n i _ => wX0_faultOfStatement_20 lg sg Q n p c b i) (b + 2) (fun i _ => 1 ≤ i ∧ Q (tBadF sg (lg 1) c b p (b + 2 - i).toNat i)) (fun n i _ i0 i1 hq ih => ?_) (fun n _ hq => ?_) 1 ⟨by omega, by omega⟩ () ⟨by omega, by rw [show b + 2 - 1 = b + 1 by omega]; exact h⟩
    · obtain ⟨i2, hq⟩ := hq
      rw [wX0_faultOfStatement_20_s]
      rw [show (b + 2 - i).toNat = (b + 2 - (i + 1)).toNat + 1 by omega] at hq
      have hq : Q (if p + i < lg 1 ∧ tFit c i b (sg (p + i)) = 1 then tBadF sg (lg 1) c b p (b + 2 - (i + 1)).toNat (i + 1) else p + i) := hq
      refine ⟨by omega, by omega, fun z => by omega, fun _ => ⟨by omega, by omega, fun z => ?_, fun z => s0_at hl (by omega) ?_⟩⟩
      · rw [if_neg (by omega)] at hq; exact hq
      · have es : tAt sg (lg 1) (p + i) = sg (p + i) := if_pos (by omega)
        rw [es]
        have h01 := tFit_01 c i b (sg (p + i))
        refine s0_fits (by omega) (by omega) (by omega) (hv _ (by omega) (by omega)) ⟨fun u v ev => ?_, fun u => ?_⟩
        · subst ev
          rw [if_pos ⟨by omega, by omega⟩] at hq
          exact ih () ⟨by omega, hq⟩
        · rw [if_neg (by omega)] at hq
          exact hq
    · obtain ⟨i2, hq⟩ := hq
      rw [wX0_faultOfStatement_20_s]
      rw [show b + 2 - (b + 2) = (0 : Int) by omega] at hq
      have hq : Q (-9) := hq
      exact ⟨by omega, by omega, fun _ => hq, fun z => by omega⟩
  · unfold tBad at h
    rw [if_pos d] at h
    exact h
theorem s0_form {lg sg : AR} (hl : 0 ≤ lg 1 ∧ lg 1 ≤ 96) (hv : ∀ j : Int, 0 ≤ j → j < lg 1 → 0 ≤ sg j ∧ sg j ≤ 255) {Q : Int → Prop} : ∀ (n : Nat) (p : Int), 0 ≤ p → p ≤ 96 → lg 1 - p < n → 1 ≤ n → Q (tForm sg (lg 1) n p) → wX0_faultOfForm_2 lg sg Q n p := by
  intro n
  induction n with
  | zero => intro p _ _ _ h; exact absurd h (by decide)
  | succ n ih =>
    intro p p0 p1 hn _ h
    rw [wX0_faultOfForm_2_s]
    have hs := tBad_spec (f := sg) (l := lg 1) p0
    have hb := tB_range (tAt sg (lg 1) p)
    have hc := tAt_range hv p
    have h : Q (if tBad sg (lg 1) p = -9 then (if p + (tB (tAt sg (lg 1) p) + 2) < lg 1 then tForm sg (lg 1) n (p + (tB (tAt sg (lg 1) p) + 2)) else -9) else tBad sg (lg 1) p) := h
    refine s0_fault hl hv ⟨p0, p1⟩ ⟨by omega, fun c => s0_at hl (by omega) (s0_signs (by omega) (fun v ev => ?_)), fun c => ?_⟩
    · subst ev
      rw [if_pos c] at h
      refine ⟨by omega, by omega, fun d => ?_, fun d => ?_⟩
      · rw [if_pos d] at h
        exact ih _ (by omega) (by omega) (by omega) (by omega) h
      · rw [if_neg d] at h
        exact h
    · rw [if_neg c] at h
      exact h
