/-! the first of the least firsts -/
def mApM (N : MS) (x : Int) : Int := (mFull (mWith N x) 30).1
def mApF (m : Int → Int) : Nat → Int → Int × Int → Int × Int
  | 0, _, s => s
  | n + 1, x, s => mApF m n (x + 1) (if m x < s.2 then (x, m x) else s)
def mApW (N : MS) : Int := (1 : Int) * 2 ^ ((3 * (N 0 7)) : Int).toNat
def mApB (N : MS) : Int × Int := mApF (mApM N) (mApW N).toNat 0 (0, 1000000000)
theorem mApF_stop {m : Int → Int} {L : Int} (hL : ∀ x, L ≤ m x) : ∀ (n : Nat) (x : Int) (s : Int × Int), s.2 ≤ L → mApF m n x s = s := by
  intro n
  induction n with
  | zero => intro x s _; rfl
  | succ n ih =>
    intro x s hs
    have := hL x
    show mApF m n (x + 1) (if m x < s.2 then (x, m x) else s) = s
    rw [if_neg (by omega)]
    exact ih _ _ hs
theorem mApF_spec {m : Int → Int} {B : Int} : ∀ (n : Nat) (x b v : Int), 0 ≤ x → x + n ≤ B → v = m b → (0 ≤ b ∧ b < B) → (mApF m n x (b, v)).2 = m (mApF m n x (b, v)).1 ∧ 0 ≤ (mApF m n x (b, v)).1 ∧ (mApF m n x (b, v)).1 < B := by
  intro n
  induction n with
  | zero => intro x b v _ _ h1 h2; exact ⟨h1, h2⟩
  | succ n ih =>
    intro x b v h0 hb h1 h2
    have e : mApF m (n + 1) x (b, v) = mApF m n (x + 1) (if m x < v then (x, m x) else (b, v)) := rfl
    by_cases c : m x < v
    · rw [if_pos c] at e
      rw [e]
      exact ih (x + 1) x (m x) (by omega) (by omega) rfl ⟨h0, by omega⟩
    · rw [if_neg c] at e
      rw [e]
      exact ih (x + 1) b v (by omega) (by omega) h1 h2
theorem mFullR_range {c : Int → Int} (hc : ∀ r, 0 ≤ c r ∧ c r ≤ 5) (y : Int) : ∀ (n : Nat) (r : Int) (s : Int × Int × Int), s.1 ≤ 5 → s.1 ≤ (mFullR c y n r s).1 ∧ (mFullR c y n r s).1 ≤ 5 := by
  intro n
  induction n with
  | zero => intro r s h; exact ⟨Int.le_refl _, h⟩
  | succ n ih =>
    intro r s h
    have hr := hc r
    show s.1 ≤ (mFullR c y n (r + 1) (if s.1 < c r then (c r, y, r) else s)).1 ∧ (mFullR c y n (r + 1) (if s.1 < c r then (c r, y, r) else s)).1 ≤ 5
    by_cases d : s.1 < c r
    · rw [if_pos d]
      have := ih (r + 1) (c r, y, r) hr.2
      dsimp only at this
      omega
    · rw [if_neg d]
      exact ih (r + 1) s h
theorem mFullF_range : ∀ (n : Nat) (y : Int) (M : MS) (s : Int × Int × Int), wf M → s.1 ≤ 5 → s.1 ≤ (mFullF n y M s).1 ∧ (mFullF n y M s).1 ≤ 5 := by
  intro n
  induction n with
  | zero => intro y M s _ h; exact ⟨Int.le_refl _, h⟩
  | succ n ih =>
    intro y M s hw h
    have h1 := mFullR_range (mAt_range hw) y 7 0 s h
    have h2 := ih (y + 1) (mMinute M) (mFullR (mAt M) y 7 0 s) (wf_minute hw) h1.2
    show s.1 ≤ (mFullF n (y + 1) (mMinute M) (mFullR (mAt M) y 7 0 s)).1 ∧ (mFullF n (y + 1) (mMinute M) (mFullR (mAt M) y 7 0 s)).1 ≤ 5
    omega
theorem mFull_range {M : MS} (hw : wf M) {n : Int} (n0 : 0 ≤ n) : (mFull M 0).1 ≤ (mFull M n).1 ∧ 0 ≤ (mFull M n).1 ∧ (mFull M n).1 ≤ 5 := by
  have h1 := mFullR_range (mAt_range hw) 0 7 0 (0, 0, 0) (by decide)
  have h2 := mFullF_range n.toNat (0 + 1) (mMinute M) (mFullR (mAt M) 0 7 0 (0, 0, 0)) (wf_minute hw) h1.2
  have e0 : mFull M 0 = mFullR (mAt M) 0 7 0 (0, 0, 0) := rfl
  have en : mFull M n = mFullF n.toNat (0 + 1) (mMinute M) (mFullR (mAt M) 0 7 0 (0, 0, 0)) := by
    unfold mFull
    rw [show (n + 1).toNat = n.toNat + 1 by omega]
    rfl
  rw [e0, en]
  dsimp only at h1
  omega
theorem mWithF_like {N : MS} {x : Int} : ∀ (n : Nat) (g : Int) (M : MS), wf M → wf (mWithF N x n g M) ∧ mWithF N x n g M 0 = M 0 ∧ mWithF N x n g M 11 = M 11 := by
  intro n
  induction n with
  | zero => intro g M h; exact ⟨h, rfl, rfl⟩
  | succ n ih =>
    intro g M h
    exact ih (g + 1) (st M 10 g (mDig N x g)) (wf_st10 h (mDig_range N x g))
theorem mWith_like {N : MS} (hw : wf N) (x : Int) : wf (mWith N x) ∧ mAt (mWith N x) = mAt (mThink N) := by
  obtain ⟨h1, h2, h3⟩ := mWithF_like (N := N) (x := x) (N 0 7).toNat 0 (mThink N) (wf_think hw)
  refine ⟨h1, ?_⟩
  funext r
  unfold mAt
  rw [show mWith N x 0 = mThink N 0 from h2, show mWith N x 11 = mThink N 11 from h3]
theorem mApM_range {N : MS} (hw : wf N) (x : Int) : (mFull (mThink N) 0).1 ≤ mApM N x ∧ 0 ≤ mApM N x ∧ mApM N x ≤ 5 := by
  obtain ⟨h1, h2⟩ := mWith_like hw x
  have h3 := mFull_range h1 (n := 30) (by omega)
  have e : mFull (mThink N) 0 = mFull (mWith N x) 0 := by
    show mFullR (mAt (mThink N)) 0 7 0 (0, 0, 0) = mFullR (mAt (mWith N x)) 0 7 0 (0, 0, 0)
    rw [h2]
  rw [e]
  exact h3
theorem mApW_range {N : MS} (hw : wf N) (h3 : N 0 7 ≤ 3) : 1 ≤ mApW N ∧ mApW N ≤ 512 := by
  have hg := hw.gs
  unfold mApW
  rcases (show N 0 7 = 0 ∨ N 0 7 = 1 ∨ N 0 7 = 2 ∨ N 0 7 = 3 by omega) with e | e | e | e <;> rw [e] <;> decide
theorem mApF_first {m : Int → Int} {W : Int} (hW : 1 ≤ W) (hm : m 0 < 1000000000) : mApF m W.toNat 0 (0, 1000000000) = mApF m (W - 1).toNat 1 (0, m 0) := by
  rw [show W.toNat = (W - 1).toNat + 1 by omega]
  show mApF m (W - 1).toNat (0 + 1) (if m 0 < 1000000000 then (0, m 0) else (0, 1000000000)) = _
  rw [if_pos hm]
  rfl
theorem mApB_spec {N : MS} (hw : wf N) (h3 : N 0 7 ≤ 3) : (mApB N).2 = mApM N (mApB N).1 ∧ 0 ≤ (mApB N).1 ∧ (mApB N).1 < 512 := by
  have hW := mApW_range hw h3
  have hm := (mApM_range hw 0).2
  unfold mApB
  obtain ⟨m, em⟩ : ∃ m : Int → Int, m = mApM N := ⟨_, rfl⟩
  obtain ⟨W, eW⟩ : ∃ W : Int, W = mApW N := ⟨_, rfl⟩
  rw [← em] at hm
  rw [← eW] at hW
  rw [← em, ← eW]
  rw [mApF_first hW.1 (by omega)]
  exact mApF_spec (B := 512) (W - 1).toNat 1 0 (m 0) (by omega) (by omega) rfl ⟨by omega, by omega⟩
theorem s3_apartLoop {N : MS} {m : Int → Int} {L W : Int} (hL : ∀ x, L ≤ m x ∧ 0 ≤ m x ∧ m x ≤ 5) (gL : gR L) (hW : 1 ≤ W ∧ W ≤ 512) (hF : ∀ (x : Int) (T : MS) (Q : Int → MS → Prop), gR x → (∀ T', Q (m x) T') → wX3_fullestWith N T x Q) {T : MS} {Q : Int → MS → Prop} (h : ∀ T', Q (mApF m W.toNat 0 (0, 1000000000)).1 T') : ∃ k : Nat, wX3_firstsApart_35 N Q k L 0 (m 0) W 1 T := by
  have hm := hL 0
  rw [mApF_first hW.1 (by omega)] at h
  obtain ⟨R, eR⟩ : ∃ R : Int × Int, R = mApF m (W - 1).toNat 1 (0, m 0) := ⟨_, rfl⟩
  rw [← eR] at h
  refine gFor (α := Int × Int × MS) (fun n y5 a => wX3_firstsApart_35 N Q n L a.1 a.2.1 W y5 a.2.2) W (fun y5 a => (0 ≤ a.2.1 ∧ a.2.1 ≤ 5) ∧ mApF m (W - y5).toNat y5 (a.1, a.2.1) = R) (fun n y5 a y0 y1 hp ih => ?_) (fun n a hp => ?_) 1 ⟨by omega, by omega⟩ (0, m 0, T) ⟨hm.2, eR.symm⟩
  · obtain ⟨b, l, T3⟩ := a
    dsimp only at hp
    dsimp only
    obtain ⟨hl, he⟩ := hp
    rw [wX3_firstsApart_35_s]
    refine ⟨by omega, by omega, fun c => by omega, fun _ => ⟨by omega, by omega, fun c => ?_, fun c => hF y5 T3 _ (by omega) (fun T4 => ?_)⟩⟩
    · rw [mApF_stop (fun x => (hL x).1) _ _ _ c] at he
      have e := h T3
      rw [← he] at e
      exact e
    · have hm5 := hL y5
      rw [show (W - y5).toNat = (W - (y5 + 1)).toNat + 1 by omega] at he
      have he : mApF m (W - (y5 + 1)).toNat (y5 + 1) (if m y5 < l then (y5, m y5) else (b, l)) = R := he
      refine ⟨by omega, fun d v ev => ?_, fun d v ev => ?_⟩
      · subst ev
        rw [if_neg (by omega)] at he
        exact ih (b, l, T4) ⟨hl, he⟩
      · subst ev
        rw [if_pos (by omega)] at he
        exact ih (y5, m y5, T4) ⟨hm5.2, he⟩
  · obtain ⟨b, l, T3⟩ := a
    dsimp only at hp
    dsimp only
    obtain ⟨hl, he⟩ := hp
    rw [wX3_firstsApart_35_s]
    rw [show W - W = (0 : Int) by omega] at he
    have he : (b, l) = R := he
    have e := h T3
    rw [← he] at e
    exact ⟨by omega, by omega, fun _ => e, fun c => by omega⟩
theorem s3_firstsApart {N T : MS} (hw : wf N) (h3 : N 0 7 ≤ 3) {Q : Int → MS → Prop} (h : ∀ T', Q (mApB N).1 T') : wX3_firstsApart N T Q := by
  have hgs := hw.gs
  have hW := mApW_range hw h3
  have hF : ∀ (x : Int) (T : MS) (Q : Int → MS → Prop), gR x → (∀ T', Q (mApM N x) T') → wX3_fullestWith N T x Q := fun x T Q hx h => s3_fullestWith hw hx h3 h
  have bL := (mFull_range (wf_think hw) (n := 0) (by omega)).2
  refine s3_think (s3_fullest (wf_think hw) (by omega) (by omega) (by omega) (fun T1 => hF 0 T1 _ (by omega) (fun T2 => ⟨by omega, fun v ev => ?_⟩)))
  rw [if_pos rfl]
  have ev : v = mApW N := ev
  subst ev
  exact s3_apartLoop (mApM_range hw) (by omega) hW hF h
