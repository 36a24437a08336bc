/-! PURE: what the conditions of 10.wp come to. A loop with a counter; sums; a museum's state and what a minute makes of it. -/
theorem gFor {α : Type} (L : Nat → Int → α → Prop) (N : Int) (P : Int → α → Prop) (hs : ∀ n i a, 0 ≤ i → i < N → P i a → (∀ a', P (i + 1) a' → L n (i + 1) a') → L (n + 1) i a) (hx : ∀ n a, P N a → L (n + 1) N a) (i0 : Int) (h0 : 0 ≤ i0 ∧ i0 ≤ N) (a0 : α) (h : P i0 a0) : ∃ k : Nat, L k i0 a0 := by
  have key : ∀ (n : Nat) (i : Int) (a : α), 0 ≤ i → i + n = N → P i a → L (n + 1) i a := by
    intro n
    induction n with
    | zero =>
      intro i a _ h1 h2
      obtain rfl : i = N := by omega
      exact hx 0 a h2
    | succ n ih =>
      intro i a h1 h2 h3
      exact hs (n + 1) i a h1 (by omega) h3 (fun a' h4 => ih (i + 1) a' (by omega) (by omega) h4)
  exact ⟨_, key (N - i0).toNat i0 a0 h0.1 (by omega) h⟩
def sumI (f : Int → Int) : Nat → Int
  | 0 => 0
  | n + 1 => sumI f n + f n
theorem sumI_s (f : Int → Int) {i : Int} (h : 0 ≤ i) : sumI f (i + 1).toNat = sumI f i.toNat + f i := by
  rw [show (i + 1).toNat = i.toNat + 1 by omega]
  show sumI f i.toNat + f ((i.toNat : Nat) : Int) = _
  rw [Int.toNat_of_nonneg h]
theorem sumI_le (f : Int → Int) (a b : Int) (n : Nat) (h : ∀ i : Int, 0 ≤ i → i < n → a ≤ f i ∧ f i ≤ b) : a * n ≤ sumI f n ∧ sumI f n ≤ b * n := by
  induction n with
  | zero => simp [sumI]
  | succ n ih =>
    have h1 := ih (fun i h0 h1 => h i h0 (by omega))
    have h2 := h n (by omega) (by omega)
    have e1 : a * ((n + 1 : Nat) : Int) = a * n + a := by rw [Int.natCast_add, Int.mul_add]; simp
    have e2 : b * ((n + 1 : Nat) : Int) = b * n + b := by rw [Int.natCast_add, Int.mul_add]; simp
    show a * ((n + 1 : Nat) : Int) ≤ sumI f n + f n ∧ sumI f n + f n ≤ b * ((n + 1 : Nat) : Int)
    omega
theorem sumI_congr {f g : Int → Int} (n : Nat) (h : ∀ i : Int, 0 ≤ i → i < n → f i = g i) : sumI f n = sumI g n := by
  induction n with
  | zero => rfl
  | succ n ih =>
    show sumI f n + f n = sumI g n + g n
    rw [ih (fun i h0 h1 => h i h0 (by omega)), h n (by omega) (by omega)]
/-- the first question without an answer, from a place of the round on -/
def mNextF (fi sh : AR) (qs g : Int) : Nat → Int → Int
  | 0, _ => -9
  | n + 1, i => if sh (g * 8 + (fi g + i) % qs) = -9 then (fi g + i) % qs else mNextF fi sh qs g n (i + 1)
def mNext (M : MS) (g : Int) : Int := mNextF (M 10) (M 13) (M 0 2) g (M 0 2).toNat 0
def mSrcF (at_ sh : AR) (g q : Int) : Nat → Int → Int
  | 0, _ => -9
  | n + 1, k => if ¬ k = g ∧ at_ k = at_ g ∧ ¬ sh (k * 8 + q) = -9 then k else mSrcF at_ sh g q n (k + 1)
def mSrc (M : MS) (g q : Int) : Int := mSrcF (M 11) (M 13) g q (M 0 7).toNat 0
def mMin (M : MS) (q : Int) : Int := if M 4 q = 1 ∨ M 4 q = 4 then 1 + M 5 q else if M 4 q = 3 then 2 else if M 4 q = 5 then 3 else 1
def mWould (M : MS) (g q : Int) : Prop := ((M 4 q = 0 ∨ M 4 q = 1) ∧ M 8 g < M 5 q) ∨ M 4 q = 2
def mOwn (M : MS) (g q : Int) : Int := if M 4 q = 3 then M 9 g else if M 4 q = 4 then (if M 9 g < M 5 q then (M 7 q + 1) % 10 else M 7 q) else if M 4 q = 5 then M 7 q else if M 8 g < M 5 q then M 9 g else M 7 q
def mFrom (M : MS) (g q : Int) : Int := if (M 4 q = 0 ∨ M 4 q = 1) ∧ M 8 g < M 5 q ∨ M 4 q = 2 then mSrc M g q else -9
def mVal (M : MS) (g q : Int) : Int := if mFrom M g q = -9 then mOwn M g q else M 13 (mFrom M g q * 8 + q)
def mTowF (op fa : AR) (a t : Int) : Nat → Int → Int
  | 0, _ => a
  | n + 1, k => if op (a * 7 + k) = 1 ∧ fa (k * 7 + t) < fa (a * 7 + t) then k else mTowF op fa a t n (k + 1)
def mTow (op fa : AR) (a t : Int) : Int := mTowF op fa a t 7 0
def mGo (M : MS) (g q : Int) : MS :=
  if M 11 g = M 6 q then
    if M 12 g + 1 < mMin M q then st M 12 g (M 12 g + 1)
    else st (st (st (st M 12 g (M 12 g + 1)) 12 g 0) 14 (g * 8 + q) (mFrom M g q)) 13 (g * 8 + q) (mVal M g q)
  else st (st M 11 g (mTow (M 2) (M 3) (M 11 g) (M 6 q))) 12 g 0
def mStep (M : MS) (g : Int) : MS := if mNext M g = -9 then M else mGo M g (mNext M g)
def mMinF : Nat → Int → MS → MS
  | 0, _, M => M
  | n + 1, g, M => mMinF n (g + 1) (mStep M g)
def mMinute (M : MS) : MS := mMinF (M 0 7).toNat 0 (st M 0 1 (M 0 1 + 1))
def mMinutes : Nat → MS → MS
  | 0, M => M
  | n + 1, M => mMinutes n (mMinute M)
def mAns (M : MS) (g : Int) : Int := sumI (fun q => if M 13 (g * 8 + q) = -9 then 0 else 1) (M 0 2).toNat
def mRight (M : MS) (g : Int) : Int := sumI (fun q => if M 13 (g * 8 + q) = M 7 q then 1 else 0) (M 0 2).toNat
def mCopied (M : MS) (g : Int) : Int := sumI (fun q => if M 14 (g * 8 + q) = -9 then 0 else 1) (M 0 2).toNat
def mAnsAll (M : MS) : Int := sumI (mAns M) (M 0 7).toNat
def mRightAll (M : MS) : Int := sumI (mRight M) (M 0 7).toNat
def mCopiedAll (M : MS) : Int := sumI (mCopied M) (M 0 7).toNat
def mAt (M : MS) (r : Int) : Int := sumI (fun g => if M 11 g = r then 1 else 0) (M 0 7).toNat
def mUndone (M : MS) : Int := sumI (fun g => if mNext M g = -9 then 0 else 1) (M 0 7).toNat
/-! what a museum's state is like -/
def wfR (op fa : AR) : Prop := (∀ a b : Int, 0 ≤ a → a < 7 → 0 ≤ b → b < 7 → (op (a * 7 + b) = 0 ∨ op (a * 7 + b) = 1) ∧ op (b * 7 + a) = op (a * 7 + b) ∧ op (a * 7 + a) = 0 ∧ (0 ≤ fa (a * 7 + b) ∧ fa (a * 7 + b) ≤ 1000) ∧ fa (a * 7 + a) = 0 ∧ (¬ a = b → 1 ≤ fa (a * 7 + b))) ∧
  (∀ a b t : Int, 0 ≤ a → a < 7 → 0 ≤ b → b < 7 → 0 ≤ t → t < 7 → op (a * 7 + b) = 1 → fa (a * 7 + t) ≤ fa (b * 7 + t) + 1) ∧
  (∀ a t : Int, 0 ≤ a → a < 7 → 0 ≤ t → t < 7 → ¬ a = t → fa (a * 7 + t) = 1000 ∨ ∃ b : Int, 0 ≤ b ∧ b < 7 ∧ op (a * 7 + b) = 1 ∧ fa (b * 7 + t) = fa (a * 7 + t) - 1) ∧
  (∀ a t : Int, 0 ≤ a → a < 7 → 0 ≤ t → t < 7 → fa (a * 7 + t) ≤ 6 ∨ fa (a * 7 + t) = 1000)
def wf (M : MS) : Prop := (0 ≤ M 0 2 ∧ M 0 2 ≤ 8) ∧ (0 ≤ M 0 7 ∧ M 0 7 ≤ 5) ∧
  (∀ q : Int, 0 ≤ q → q < 8 → (0 ≤ M 4 q ∧ M 4 q ≤ 5) ∧ (0 ≤ M 5 q ∧ M 5 q ≤ 9) ∧ (0 ≤ M 6 q ∧ M 6 q < 7) ∧ (0 ≤ M 7 q ∧ M 7 q ≤ 9)) ∧
  (∀ g : Int, 0 ≤ g → g < 5 → (0 ≤ M 8 g ∧ M 8 g ≤ 9) ∧ (0 ≤ M 9 g ∧ M 9 g ≤ 9) ∧ (0 ≤ M 10 g ∧ M 10 g ≤ 7) ∧ (0 ≤ M 11 g ∧ M 11 g < 7) ∧ (0 ≤ M 12 g ∧ M 12 g ≤ 9)) ∧
  (∀ g q : Int, 0 ≤ g → g < 5 → 0 ≤ q → q < 8 → (M 13 (g * 8 + q) = -9 ∨ (0 ≤ M 13 (g * 8 + q) ∧ M 13 (g * 8 + q) ≤ 9)) ∧ (M 14 (g * 8 + q) = -9 ∨ (0 ≤ M 14 (g * 8 + q) ∧ M 14 (g * 8 + q) < 5)) ∧ (M 0 7 ≤ g ∨ M 0 2 ≤ q → M 13 (g * 8 + q) = -9)) ∧
  (∀ g : Int, M 0 7 ≤ g → g < 5 → M 11 g = 0 ∧ M 12 g = 0) ∧ wfR (M 2) (M 3)
theorem wf.qs {M : MS} (h : wf M) : 0 ≤ M 0 2 ∧ M 0 2 ≤ 8 := h.1
theorem wf.gs {M : MS} (h : wf M) : 0 ≤ M 0 7 ∧ M 0 7 ≤ 5 := h.2.1
theorem wf.q {M : MS} (h : wf M) {q : Int} (h0 : 0 ≤ q) (h1 : q < 8) : (0 ≤ M 4 q ∧ M 4 q ≤ 5) ∧ (0 ≤ M 5 q ∧ M 5 q ≤ 9) ∧ (0 ≤ M 6 q ∧ M 6 q < 7) ∧ (0 ≤ M 7 q ∧ M 7 q ≤ 9) := h.2.2.1 q h0 h1
theorem wf.g {M : MS} (h : wf M) {g : Int} (h0 : 0 ≤ g) (h1 : g < 5) : (0 ≤ M 8 g ∧ M 8 g ≤ 9) ∧ (0 ≤ M 9 g ∧ M 9 g ≤ 9) ∧ (0 ≤ M 10 g ∧ M 10 g ≤ 7) ∧ (0 ≤ M 11 g ∧ M 11 g < 7) ∧ (0 ≤ M 12 g ∧ M 12 g ≤ 9) := h.2.2.2.1 g h0 h1
theorem wf.s {M : MS} (h : wf M) {g q : Int} (h0 : 0 ≤ g) (h1 : g < 5) (h2 : 0 ≤ q) (h3 : q < 8) : (M 13 (g * 8 + q) = -9 ∨ (0 ≤ M 13 (g * 8 + q) ∧ M 13 (g * 8 + q) ≤ 9)) ∧ (M 14 (g * 8 + q) = -9 ∨ (0 ≤ M 14 (g * 8 + q) ∧ M 14 (g * 8 + q) < 5)) ∧ (M 0 7 ≤ g ∨ M 0 2 ≤ q → M 13 (g * 8 + q) = -9) := h.2.2.2.2.1 g q h0 h1 h2 h3
theorem wf.r {M : MS} (h : wf M) : wfR (M 2) (M 3) := h.2.2.2.2.2.2
/-! the class's methods that read one museum -/
theorem s1_answersOf {M : MS} (hw : wf M) {g : Int} (h0 : 0 ≤ g) (h1 : g < 5) {Q : Int → Prop} (h : Q (mAns M g)) : wX1_answersOf M g Q := by
  have hq := hw.qs
  refine gFor (fun n i acc => wX1_answersOf_4 M Q n g acc i) (M 0 2) (fun i acc => acc = sumI (fun q => if M 13 (g * 8 + q) = -9 then 0 else 1) i.toNat) (fun n i acc i0 i1 hp ih => ?_) (fun n acc hp => ?_) 0 ⟨by omega, by omega⟩ 0 rfl
  · rw [wX1_answersOf_4_s]
    have hs := (hw.s h0 h1 i0 (by omega)).1
    refine ⟨by omega, by omega, fun c => by omega, fun c => ⟨by omega, by omega, fun c2 v e v2 e2 => ?_, fun c2 v e v2 e2 => ?_⟩⟩
    · subst e e2; exact ih _ (by rw [sumI_s _ i0, if_neg c2, hp])
    · subst e e2; exact ih _ (by rw [sumI_s _ i0, if_pos c2, hp])
  · rw [wX1_answersOf_4_s]
    exact ⟨by omega, by omega, fun _ => by rw [hp]; exact h, fun c => by omega⟩
theorem s1_rightOf {M : MS} (hw : wf M) {g : Int} (h0 : 0 ≤ g) (h1 : g < 5) {Q : Int → Prop} (h : Q (mRight M g)) : wX1_rightOf M g Q := by
  have hq := hw.qs
  refine gFor (fun n i acc => wX1_rightOf_4 M Q n g acc i) (M 0 2) (fun i acc => acc = sumI (fun q => if M 13 (g * 8 + q) = M 7 q then 1 else 0) i.toNat) (fun n i acc i0 i1 hp ih => ?_) (fun n acc hp => ?_) 0 ⟨by omega, by omega⟩ 0 rfl
  · rw [wX1_rightOf_4_s]
    have hs := (hw.s h0 h1 i0 (by omega)).1
    have hf := (hw.q i0 (by omega)).2.2.2
    refine ⟨by omega, by omega, fun c => by omega, fun c => ⟨by omega, by omega, by omega, by omega, fun c2 v e v2 e2 => ?_, fun c2 v e v2 e2 => ?_⟩⟩
    · subst e e2; exact ih _ (by rw [sumI_s _ i0, if_neg c2, hp])
    · subst e e2; exact ih _ (by rw [sumI_s _ i0, if_pos c2, hp])
  · rw [wX1_rightOf_4_s]
    exact ⟨by omega, by omega, fun _ => by rw [hp]; exact h, fun c => by omega⟩
theorem s1_copiedBy {M : MS} (hw : wf M) {g : Int} (h0 : 0 ≤ g) (h1 : g < 5) {Q : Int → Prop} (h : Q (mCopied M g)) : wX1_copiedBy M g Q := by
  have hq := hw.qs
  refine gFor (fun n i acc => wX1_copiedBy_4 M Q n g acc i) (M 0 2) (fun i acc => acc = sumI (fun q => if M 14 (g * 8 + q) = -9 then 0 else 1) i.toNat) (fun n i acc i0 i1 hp ih => ?_) (fun n acc hp => ?_) 0 ⟨by omega, by omega⟩ 0 rfl
  · rw [wX1_copiedBy_4_s]
    have hs := (hw.s h0 h1 i0 (by omega)).2.1
    refine ⟨by omega, by omega, fun c => by omega, fun c => ⟨by omega, by omega, fun c2 v e v2 e2 => ?_, fun c2 v e v2 e2 => ?_⟩⟩
    · subst e e2; exact ih _ (by rw [sumI_s _ i0, if_neg c2, hp])
    · subst e e2; exact ih _ (by rw [sumI_s _ i0, if_pos c2, hp])
  · rw [wX1_copiedBy_4_s]
    exact ⟨by omega, by omega, fun _ => by rw [hp]; exact h, fun c => by omega⟩
