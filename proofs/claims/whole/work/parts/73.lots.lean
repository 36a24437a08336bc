/-! lots drawn -/
def mNx (s : Int) : Int := (s * 1664525) + 1013904223
def mDr (s : Int) : Int := (s % (2147483647 + 1)) / 256
def mLotF : Nat → Int → Int → MS → MS × Int
  | 0, _, s, M => (M, s)
  | n + 1, g, s, M => mLotF n (g + 1) (mNx (mNx s)) (st (st M 11 g (mDr (mNx s) % 7)) 10 g (mDr (mNx (mNx s)) % 8))
def mLot (N : MS) (s : Int) : MS × Int := mLotF (N 0 7).toNat 0 s (mThink N)
def mGame (x : Int) (M : MS) : Int := if x = 0 then mRightAll M else mCopiedAll M
def mLots (N : MS) (x : Int) : Nat → Int → Int → Int
  | 0, _, a => a
  | n + 1, s, a => mLots N x n (mLot N s).2 (a + mGame x (mMinutes (30 : Int).toNat (mLot N s).1))
theorem wf_lot {M : MS} (hw : wf M) {g : Int} (g0 : 0 ≤ g) (g1 : g < M 0 7) (a b : Int) : wf (st (st M 11 g (a % 7)) 10 g (b % 8)) := wf_st10 (wf_st11 hw ⟨g0, g1⟩ (by omega)) (by omega)
theorem s4_drawn {o : AR} {x : Int} (hx : 0 < x ∧ x ≤ 2147483647) {Q : Int → AR → Prop} (h : ∀ o' : AR, o' 16 = mNx (o 16) → (∀ i : Int, ¬ i = 16 → o' i = o i) → Q (mDr (mNx (o 16)) % x) o') : wX4_drawn o x Q := by
  intro z1 e1
  have e16 : z1 16 = mNx (o 16) := by rw [e1, su_at]; rfl
  rw [e16]
  exact ⟨by omega, by omega, h z1 e16 (fun i hi => by rw [e1, su_ne _ _ hi])⟩
theorem s4_of {x0 x1 : Int} {Q : Int → Prop} (h : Q ((42 + (5 * x0)) + x1)) : wX4_of x0 x1 Q := h
theorem mCopiedAll_s4 {M : MS} {r : AR} {ss re fa : AR} {o : AR} {y1 y3 y4 y5 : Int} {K52 : Int → Int → Int → Int → AR → AR → AR → AR → Prop} {Q : Int → AR → AR → AR → AR → Prop} (hw : wf M) (hR : Rep M r) (hF : RepF M r) (h3 : y3 = 0 ∨ y3 = 1) (h : K52 y1 y3 (y4 + (if y3 = 0 then 0 else mCopiedAll M)) (y5 + 1) o r re fa) : ∃ k : Nat, wX4_lots_149 ss K52 Q k y1 y3 y4 y5 0 o r re fa := by
  have hgs := hw.gs
  have e1 := hR.2.1
  by_cases c3 : y3 = 0
  · rw [if_pos c3, Int.add_zero] at h
    refine ⟨1, ?_⟩
    rw [wX4_lots_149_s]
    refine ⟨by omega, by omega, fun _ v ev => ?_, fun c => ⟨by omega, fun _ v ev => ?_, fun z => by omega⟩⟩
    · subst ev; exact h
    · subst ev; exact h
  · rw [if_neg c3] at h
    refine gFor (α := Int) (fun n g a => wX4_lots_149 ss K52 Q n y1 y3 a y5 g o r re fa) (M 0 7) (fun g a => a = y4 + sumI (mCopied M) g.toNat) (fun n g a g0 g1 hp ih => ?_) (fun n a hp => ?_) 0 ⟨by omega, by omega⟩ y4 (Int.add_zero y4).symm
    · rw [wX4_lots_149_s]
      refine ⟨by omega, by omega, fun c => by omega, fun c => ⟨by omega, fun z => by omega, fun _ => s4_copiedOf hw hR hF g0 g1 (fun v ev w ew => ?_)⟩⟩
      subst ev ew
      refine ih _ ?_
      rw [hp, sumI_s _ g0]
      omega
    · rw [wX4_lots_149_s]
      refine ⟨by omega, by omega, fun _ v ev => ?_, fun c => by omega⟩
      subst ev
      rw [hp]
      exact h
theorem op_lots {o : AR} {rw : AR} {rf : AR} {lg : AR} {sg : AR} {N : MS} {T : MS} {K : MS} {I : MS} {o2 : AR} {ss : AR} {mm : AR} {im : AR} {wa : AR} {le : AR} {ro : AR} {re : AR} {fa : AR} {nu : AR} (hI : gInv o rw rf lg sg N T K I o2 ss mm im wa le ro re fa nu) (x1 x2 x3 : Int) (hx1 : gR x1) (hx2 : gR x2) (hx3 : gR x3): wX3_lots rf N T x1 x2 x3 (fun (r : Int) (rf1 : AR) (T1 : MS) => wX4_lots o2 ss mm re fa x1 x2 x3 (fun (r2 : Int) (o21 : AR) (mm1 : AR) (re1 : AR) (fa1 : AR) => r = r2 ∧ gInv o rw rf1 lg sg N T1 K I o21 ss mm1 im wa le ro re1 fa1 nu)) := by
  obtain ⟨hN, hIm, hRo, hLe, hRe⟩ := hI
  obtain ⟨hw, ht, hR⟩ := hN
  have hgs := hw.gs
  have e1 := hR.2.1
  refine ⟨hx1, fun a => ⟨fun b => ⟨hx3, fun c => s3_refuse (by omega) ⟨hx1, fun _ => ⟨fun _ => s4_isInN hx3 (by omega) (by omega) (by omega) ⟨fun z => absurd rfl z, fun _ => s4_no (by omega) ⟨rfl, ⟨hw, ht, hR⟩, hIm, hRo, hLe, hRe.no _⟩⟩, fun z => absurd b z⟩, fun z => absurd a z⟩, fun c => ⟨fun d => ?_, fun d => s3_refuse (by omega) ⟨hx1, fun _ => ⟨fun _ => s4_isInN hx3 (by omega) (by omega) (by omega) ⟨fun z => absurd rfl z, fun _ => s4_no (by omega) ⟨rfl, ⟨hw, ht, hR⟩, hIm, hRo, hLe, hRe.no _⟩⟩, fun z => absurd b z⟩, fun z => absurd a z⟩⟩⟩, fun b => s3_refuse (by omega) ⟨hx1, fun _ => ⟨fun z => absurd z b, fun _ => s4_no (by omega) ⟨rfl, ⟨hw, ht, hR⟩, hIm, hRo, hLe, hRe.no _⟩⟩, fun z => absurd a z⟩⟩, fun a => s3_refuse (by omega) ⟨hx1, fun z => absurd z a, fun _ => s4_no (by omega) ⟨rfl, ⟨hw, ht, hR⟩, hIm, hRo, hLe, hRe.no _⟩⟩⟩
  refine gFor (α := Int × Int × MS) (fun n i a => wX3_lots_50 N _ n x1 x3 a.1 a.2.1 i rf a.2.2) x1 (fun i a => mLots N x3 (x1 - i).toNat a.1 a.2.1 = mLots N x3 x1.toNat x2 0) (fun n i a i0 i1 hp ih => ?_) (fun n a hp => ?_) 0 ⟨by omega, by omega⟩ (x2, 0, T) (by rw [show x1 - 0 = x1 by omega])
  · obtain ⟨s, y5, T1⟩ := a
    dsimp only at hp
    dsimp only
    rw [wX3_lots_50_s]
    rw [show (x1 - i).toNat = (x1 - (i + 1)).toNat + 1 by omega] at hp
    have hp : mLots N x3 (x1 - (i + 1)).toNat (mLot N s).2 (y5 + mGame x3 (mMinutes (30 : Int).toNat (mLot N s).1)) = mLots N x3 x1.toNat x2 0 := hp
    refine ⟨by omega, by omega, fun c => by omega, fun _ => s3_think ?_⟩
    refine gFor (α := Int × MS) (fun m g b => wX3_lots_63 N (wX3_lots_50 N _ _) _ m x1 x3 b.1 y5 i g rf b.2) (N 0 7) (fun g b => wf b.2 ∧ b.2 0 = N 0 ∧ mLotF (N 0 7 - g).toNat g b.1 b.2 = mLot N s) (fun m g b g0 g1 hq ih2 => ?_) (fun m b hq => ?_) 0 ⟨by omega, by omega⟩ (s, mThink N) ⟨wf_think hw, rfl, by rw [show N 0 7 - 0 = N 0 7 by omega]; rfl⟩
    · obtain ⟨s1, T2⟩ := b
      dsimp only at hq
      dsimp only
      rw [wX3_lots_63_s]
      obtain ⟨hw', h0, he⟩ := hq
      have e7 : T2 0 7 = N 0 7 := by rw [h0]
      rw [show (N 0 7 - g).toNat = (N 0 7 - (g + 1)).toNat + 1 by omega] at he
      refine ⟨by omega, by omega, fun c => by omega, fun c => ⟨by omega, by omega, by omega, fun z17 e17 => ⟨by omega, by omega, by omega, fun z22 e22 v ev => ?_⟩⟩⟩
      subst e17 e22 ev
      exact ih2 (mNx (mNx s1), st (st T2 11 g (mDr (mNx s1) % 7)) 10 g (mDr (mNx (mNx s1)) % 8)) ⟨wf_lot hw' g0 (by omega) _ _, h0, he⟩
    · obtain ⟨s1, T2⟩ := b
      dsimp only at hq
      dsimp only
      rw [wX3_lots_63_s]
      obtain ⟨hw', h0, he⟩ := hq
      have e7 : T2 0 7 = N 0 7 := by rw [h0]
      rw [show N 0 7 - N 0 7 = (0 : Int) by omega] at he
      have he : (T2, s1) = mLot N s := he
      rw [← he] at hp
      dsimp only at hp
      refine ⟨by omega, by omega, fun _ => s1_passMinutes hw' (by omega) (by omega) ?_, fun c => by omega⟩
      have h5 := wf_minutes (30 : Int).toNat hw'
      obtain ⟨M, eM⟩ : ∃ M : MS, M = mMinutes (30 : Int).toNat T2 := ⟨_, rfl⟩
      rw [← eM]
      rw [← eM] at h5 hp
      unfold mGame at hp
      refine ⟨hx3, fun c3 => s1_copiedByAll h5.1 (fun v ev w ew => ?_), fun c3 => s1_rightOfAll h5.1 (fun v ev w ew => ?_)⟩
      · subst ev ew
        rw [if_neg c3] at hp
        exact ih (s1, y5 + mCopiedAll M, M) hp
      · subst ev ew
        rw [if_pos c3] at hp
        exact ih (s1, y5 + mRightAll M, M) hp
  · obtain ⟨s, y5, T1⟩ := a
    dsimp only at hp
    dsimp only
    rw [wX3_lots_50_s]
    rw [show x1 - x1 = (0 : Int) by omega] at hp
    have hp : y5 = mLots N x3 x1.toNat x2 0 := hp
    refine ⟨by omega, by omega, fun _ => ⟨hx1, fun _ => ⟨fun _ => s4_isIn hx3 (by omega) (by omega) (by omega) ⟨fun _ z44 e44 => ?_, fun z => absurd z (by decide)⟩, fun z => absurd b z⟩, fun z => absurd a z⟩, fun c => by omega⟩
    rw [hp]
    refine gFor (α := Int × AR × AR × AR) (fun n i a => wX4_lots_52 ss _ n x1 x3 a.1 i a.2.1 a.2.2.1 re a.2.2.2) x1 (fun i a => (∀ j : Int, ¬ j = 16 → a.2.1 j = o2 j) ∧ mLots N x3 (x1 - i).toNat (a.2.1 16) a.1 = mLots N x3 x1.toNat x2 0) (fun n i a i0 i1 hp ih => ?_) (fun n a hp => ?_) 0 ⟨by omega, by omega⟩ (0, z44, mm, fa) ⟨fun j hj => by dsimp only; rw [e44, su_ne _ _ hj], by dsimp only; rw [show x1 - 0 = x1 by omega, e44, su_at]⟩
    · obtain ⟨y4, o1, mm1, fa1⟩ := a
      dsimp only at hp
      dsimp only
      rw [wX4_lots_52_s]
      obtain ⟨ho, hp⟩ := hp
      rw [show (x1 - i).toNat = (x1 - (i + 1)).toNat + 1 by omega] at hp
      have hp : mLots N x3 (x1 - (i + 1)).toNat (mLot N (o1 16)).2 (y4 + mGame x3 (mMinutes (30 : Int).toNat (mLot N (o1 16)).1)) = mLots N x3 x1.toNat x2 0 := hp
      refine ⟨by omega, by omega, fun c => by omega, fun _ => s4_begins hw hR (fun z37 h37 f37 => ?_)⟩
      refine gFor (α := AR × AR) (fun m g b => wX4_lots_65 ss (wX4_lots_52 ss _ _) _ m x1 x3 y4 i g b.1 b.2 re fa1) (N 0 7) (fun g b => (∀ j : Int, ¬ j = 16 → b.1 j = o2 j) ∧ ∃ M' : MS, wf M' ∧ M' 0 = N 0 ∧ Rep M' b.2 ∧ RepF M' b.2 ∧ mLotF (N 0 7 - g).toNat g (b.1 16) M' = mLot N (o1 16)) (fun m g b g0 g1 hq ih2 => ?_) (fun m b hq => ?_) 0 ⟨by omega, by omega⟩ (o1, z37) ⟨ho, mThink N, wf_think hw, rfl, h37, f37, by rw [show N 0 7 - 0 = N 0 7 by omega]; rfl⟩
      · obtain ⟨o3, r⟩ := b
        dsimp only at hq
        dsimp only
        rw [wX4_lots_65_s]
        obtain ⟨ho3, M', hw', h0, hR', hF', he⟩ := hq
        have e7 : M' 0 7 = N 0 7 := by rw [h0]
        have er := hR'.2.1
        rw [show (N 0 7 - g).toNat = (N 0 7 - (g + 1)).toNat + 1 by omega] at he
        refine ⟨by omega, by omega, fun c => by omega, fun c => s4_of (s4_drawn (by omega) (fun o4 e4 k4 => ⟨by omega, fun z27 e27 => s4_of (s4_drawn (by omega) (fun o5 e5 k5 => ⟨by omega, fun z32 e32 v ev => ?_⟩))⟩))⟩
        subst e27 e32 ev
        rw [e4]
        have w1 : wf (st M' 11 g (mDr (mNx (o3 16)) % 7)) := wf_st11 hw' ⟨g0, by omega⟩ (by omega)
        have r1 := Rep.st11 hw' hR' g0 (by omega) (mDr (mNx (o3 16)) % 7)
        refine ih2 (o5, su (su r ((42 + (5 * g)) + 3) (mDr (mNx (o3 16)) % 7)) ((42 + (5 * g)) + 2) (mDr (mNx (mNx (o3 16))) % 8)) ⟨fun j hj => by dsimp only; rw [k5 j hj, k4 j hj]; exact ho3 j hj, st (st M' 11 g (mDr (mNx (o3 16)) % 7)) 10 g (mDr (mNx (mNx (o3 16))) % 8), wf_lot hw' g0 (by omega) _ _, h0, Rep.st10 w1 r1 g0 (by show g < M' 0 7; omega) _, fun k q k0 k1 q0 q1 => ?_, by dsimp only; rw [e5, e4]; exact he⟩
        have hq' := hw'.qs
        have hg' := hw'.gs
        have k1 : k < M' 0 7 := k1
        have q1 : q < M' 0 2 := q1
        show su (su r ((42 + (5 * g)) + 3) (mDr (mNx (o3 16)) % 7)) ((42 + (5 * g)) + 2) (mDr (mNx (mNx (o3 16))) % 8) ((107 + (8 * k)) + q) = M' 14 (k * 8 + q)
        rw [su_ne _ _ (by omega), su_ne _ _ (by omega)]
        exact hF' k q k0 k1 q0 q1
      · obtain ⟨o3, r⟩ := b
        dsimp only at hq
        dsimp only
        rw [wX4_lots_65_s]
        obtain ⟨ho3, M', hw', h0, hR', hF', he⟩ := hq
        have e7 : M' 0 7 = N 0 7 := by rw [h0]
        have er := hR'.2.1
        rw [show N 0 7 - N 0 7 = (0 : Int) by omega] at he
        have he : (M', o3 16) = mLot N (o1 16) := he
        rw [← he] at hp
        dsimp only at hp
        refine ⟨by omega, by omega, fun _ => s4_minutesOn hw' hR' (by omega) (by omega) (fun fa2 r2 h6 f6 => ?_), fun c => by omega⟩
        have f6 := f6 hF'
        have h5 := wf_minutes (30 : Int).toNat hw'
        obtain ⟨M, eM⟩ : ∃ M : MS, M = mMinutes (30 : Int).toNat M' := ⟨_, rfl⟩
        rw [← eM] at h5 hp h6 f6
        unfold mGame at hp
        refine ⟨hx3, fun c3 v ev => ?_, fun c3 => s4_rightAll h5.1 h6 (fun v ev => ?_)⟩
        · subst ev
          rw [if_neg c3] at hp
          refine mCopiedAll_s4 h5.1 h6 f6 (by omega) ?_
          rw [if_neg c3]
          exact ih (y4 + 0 + mCopiedAll M, o3, r2, fa2) ⟨ho3, by dsimp only; rw [Int.add_zero]; exact hp⟩
        · subst ev
          rw [if_pos c3] at hp
          refine mCopiedAll_s4 h5.1 h6 f6 (by omega) ?_
          rw [if_pos c3]
          exact ih (y4 + mRightAll M + 0, o3, r2, fa2) ⟨ho3, by dsimp only; rw [Int.add_zero]; exact hp⟩
    · obtain ⟨y4, o1, mm1, fa1⟩ := a
      dsimp only at hp
      dsimp only
      rw [wX4_lots_52_s]
      obtain ⟨ho, hp⟩ := hp
      rw [show x1 - x1 = (0 : Int) by omega] at hp
      exact ⟨by omega, by omega, fun _ => ⟨hp.symm, ⟨hw, ht, hR⟩, hIm.of rfl (ho 4 (by decide)), hRo.of rfl (ho 9 (by decide)), hLe.of (ho 8 (by decide)), hRe⟩, fun c => by omega⟩
