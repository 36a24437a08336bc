/-! firsts by a code of digits -/
def mDig (N : MS) (x g : Int) : Int := (x / 2 ^ ((3 * (((N 0 7) - 1) - g)) : Int).toNat) % (7 + 1)
def mWithF (N : MS) (x : Int) : Nat → Int → MS → MS
  | 0, _, M => M
  | n + 1, g, M => mWithF N x n (g + 1) (st M 10 g (mDig N x g))
def mWith (N : MS) (x : Int) : MS := mWithF N x (N 0 7).toNat 0 (mThink N)
theorem mDig_range (N : MS) (x g : Int) : 0 ≤ mDig N x g ∧ mDig N x g ≤ 7 := by
  unfold mDig
  omega
theorem s3_fullestWith {N T : MS} (hw : wf N) {x : Int} (hx : gR x) (h3 : N 0 7 ≤ 3) {Q : Int → MS → Prop} (h : ∀ T', Q (mFull (mWith N x) 30).1 T') : wX3_fullestWith N T x Q := by
  have hgs := hw.gs
  refine s3_think ?_
  refine gFor (fun n g M => wX3_fullestWith_6 N Q n x g M) (N 0 7) (fun g M => wf M ∧ M 0 = N 0 ∧ mWithF N x (N 0 7 - g).toNat g M = mWith N x) (fun n g M g0 g1 hp ih => ?_) (fun n M hp => ?_) 0 ⟨by omega, by omega⟩ (mThink N) ⟨wf_think hw, rfl, by rw [show N 0 7 - 0 = N 0 7 by omega]; rfl⟩
  · rw [wX3_fullestWith_6_s]
    obtain ⟨hw', h0, he⟩ := hp
    have e7 : M 0 7 = N 0 7 := by rw [h0]
    have hd := mDig_range N x g
    rw [show (N 0 7 - g).toNat = (N 0 7 - (g + 1)).toNat + 1 by omega] at he
    refine ⟨by omega, by omega, fun c => by omega, fun c => ⟨hx, by omega, ⟨by omega, fun z e v ev => ?_⟩⟩⟩
    subst e ev
    exact ih _ ⟨wf_st10 hw' hd, h0, he⟩
  · rw [wX3_fullestWith_6_s]
    obtain ⟨hw', h0, he⟩ := hp
    have e7 : M 0 7 = N 0 7 := by rw [h0]
    rw [show N 0 7 - N 0 7 = (0 : Int) by omega] at he
    have he : M = mWith N x := he
    refine ⟨by omega, by omega, fun _ => s3_fullest hw' (by omega) (by omega) (by omega) (fun T' => ?_), fun c => by omega⟩
    rw [if_pos rfl, he]
    exact h T'
