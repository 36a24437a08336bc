theorem op_newDoor {o : AR} {rw : AR} {rf : AR} {lg : AR} {sg : AR} {N : MS} {T : MS} {K : MS} {I : MS} {o2 : AR} {ss : AR} {mm : AR} {im : AR} {wa : AR} {le : AR} {ro : AR} {re : AR} {fa : AR} {nu : AR} (hI : gInv o rw rf lg sg N T K I o2 ss mm im wa le ro re fa nu) : wX3_newDoor N T (fun (r : Int) (T1 : MS) => wX4_newDoor ss mm fa (fun (r2 : Int) (mm1 : AR) (fa1 : AR) => r = r2 ∧ gInv o rw rf lg sg N T1 K I o2 ss mm1 im wa le ro re fa1 nu)) := by
  obtain ⟨hN, hIm, hRo, hLe, hRe⟩ := hI
  obtain ⟨hw, ht, hR⟩ := hN
  refine s3_newDoor hw (fun T' => ?_)
  have loop : ∀ (y : Int) (mm0 fa0 : AR), (y = mTillAll (mThink N) ∨ (mTillAll (mThink N) = 100 ∧ y = 1000000000)) → ∃ k : Nat, wX4_newDoor_33 ss (fun (r2 : Int) (mm1 : AR) (fa1 : AR) => (mDoorF N 7 0 (mTillAll (mThink N), -9)).2 = r2 ∧ gInv o rw rf lg sg N T' K I o2 ss mm1 im wa le ro re fa1 nu) k y (-9) 0 mm0 fa0 := by
    intro y mm0 fa0 hy
    have hr0 := mTillAll_range (mThink N)
    refine gFor (α := Int × Int × AR × AR) (fun n a x => wX4_newDoor_33 ss _ n x.1 x.2.1 a x.2.2.1 x.2.2.2) 7 (fun a x => ∃ s : Int, (0 ≤ s ∧ s ≤ 100) ∧ (x.1 = s ∨ (s = 100 ∧ x.1 = 1000000000)) ∧ mDoorF N (7 - a).toNat a (s, x.2.1) = mDoorF N 7 0 (mTillAll (mThink N), -9)) (fun n a x a0 a1 hp ih => ?_) (fun n x hp => ?_) 0 ⟨by omega, by omega⟩ (y, -9, mm0, fa0) ⟨mTillAll (mThink N), hr0, hy, by rw [show ((7 : Int) - 0).toNat = 7 from rfl]⟩
    · obtain ⟨y2, y3, mm1, fa1⟩ := x
      dsimp only at hp
      dsimp only
      rw [wX4_newDoor_33_s]
      obtain ⟨s, hb, hs, he⟩ := hp
      rw [show ((7 : Int) - a).toNat = (7 - (a + 1)).toNat + 1 by omega] at he
      have he : mDoorF N (7 - (a + 1)).toNat (a + 1) (mDoorR N a (6 - a).toNat (a + 1) (s, y3)) = mDoorF N 7 0 (mTillAll (mThink N), -9) := he
      refine ⟨by omega, fun c => by omega, fun c v ev => ?_⟩
      subst ev
      refine gFor (α := Int × Int × AR × AR) (fun m b x => wX4_newDoor_46 ss (wX4_newDoor_33 ss _ _) _ m x.1 x.2.1 a b x.2.2.1 x.2.2.2) 7 (fun b x => a + 1 ≤ b ∧ ∃ s' : Int, (0 ≤ s' ∧ s' ≤ 100) ∧ (x.1 = s' ∨ (s' = 100 ∧ x.1 = 1000000000)) ∧ mDoorR N a (7 - b).toNat b (s', x.2.1) = mDoorR N a (6 - a).toNat (a + 1) (s, y3)) (fun m b x b0 b1 hq ih2 => ?_) (fun m x hq => ?_) (a + 1) ⟨by omega, by omega⟩ (y2, y3, mm1, fa1) ⟨by omega, s, hb, hs, by rw [show (7 : Int) - (a + 1) = 6 - a by omega]⟩
      · obtain ⟨z2, z3, mm2, fa2⟩ := x
        dsimp only at hq
        dsimp only
        rw [wX4_newDoor_46_s]
        obtain ⟨hab, s', hb2, hs2, hq⟩ := hq
        rw [show ((7 : Int) - b).toNat = (7 - (b + 1)).toNat + 1 by omega] at hq
        have hq : mDoorR N a (7 - (b + 1)).toNat (b + 1) (if N 2 (a * 7 + b) = 1 then (s', z3) else if mDoorT N a b < s' then (mDoorT N a b, 10 * a + b) else (s', z3)) = mDoorR N a (6 - a).toNat (a + 1) (s, y3) := hq
        have hd := hR.d a0 a1 b0 b1
        have h1 := (wfO_of hw a b a0 a1 b0 b1).1
        have p1 := pw2 a0 a1
        have p2 := pw2 b0 b1
        refine ⟨by omega, fun c => by omega, fun c => ⟨by omega, by omega, by omega, by omega, fun d => s4_lays (fun z9 h9 => ?_), fun d v ev => ?_⟩⟩
        · have r9 : Rep (mThink N) z9 := Rep_think (hR.of hw (fun i i0 i1 => h9 i i0 (by omega)))
          have d1 := r9.d a0 a1 b0 b1
          have d2 := r9.d b0 b1 a0 a1
          refine ⟨by omega, by omega, by omega, by omega, fun z14 e14 => ?_⟩
          have e : z14 (3 + b) = z9 (3 + b) := by rw [e14, su_ne _ _ (by omega)]
          rw [e]
          refine ⟨by omega, by omega, by omega, by omega, fun z19 e19 => ?_⟩
          subst e14 e19
          have ho : wfO (mOpn N a b) := wfO_set (wfO_of hw) ⟨a0, a1⟩ ⟨b0, b1⟩ (by omega) (Or.inr rfl)
          have hr := mTillAll_range (uc (uc (mThink N) 2 (mOpn N a b)) 3 (mFarB (mOpn N a b)))
          rw [show mTillAll (uc (uc (mThink N) 2 (mOpn N a b)) 3 (mFarB (mOpn N a b))) = mDoorT N a b from rfl] at hr
          rw [if_neg (by omega)] at hq
          refine s4_allDoneIn (M := uc (uc (mThink N) 2 (mOpn N a b)) 3 (mFarB (mOpn N a b))) (wf_doors (wf_think hw) (mFarB_is ho)) (Rep.opened (wf_think hw) r9 ⟨a0, a1⟩ ⟨b0, b1⟩ (by omega) _) (fun mm' fa' => ?_)
          rw [show mTillAll (uc (uc (mThink N) 2 (mOpn N a b)) 3 (mFarB (mOpn N a b))) = mDoorT N a b from rfl]
          by_cases c2 : mDoorT N a b = 100
          · rw [show mOr (mDoorT N a b) = -9 from if_pos c2]
            refine ⟨by omega, fun _ v ev => ?_, fun z => absurd z (by decide)⟩
            subst ev
            rw [if_neg (by omega)] at hq
            exact ih2 (z2, z3, mm', fa') ⟨by omega, s', hb2, hs2, hq⟩
          · rw [show mOr (mDoorT N a b) = mDoorT N a b from if_neg c2]
            refine ⟨by omega, fun z => by omega, fun _ => ⟨by omega, fun c3 v ev w ew => ?_, fun c3 v ev => ?_⟩⟩
            · subst ev ew
              rw [if_pos (by omega)] at hq
              exact ih2 (mDoorT N a b, 10 * a + b, mm', fa') ⟨by omega, mDoorT N a b, hr, Or.inl rfl, hq⟩
            · subst ev
              rw [if_neg (by omega)] at hq
              exact ih2 (z2, z3, mm', fa') ⟨by omega, s', hb2, hs2, hq⟩
        · subst ev
          rw [if_pos (by omega)] at hq
          exact ih2 (z2, z3, mm2, fa2) ⟨by omega, s', hb2, hs2, hq⟩
      · obtain ⟨z2, z3, mm2, fa2⟩ := x
        dsimp only at hq
        dsimp only
        rw [wX4_newDoor_46_s]
        obtain ⟨hab, s', hb2, hs2, hq⟩ := hq
        rw [show (7 : Int) - 7 = 0 by omega] at hq
        refine ⟨by omega, fun _ v ev => ?_, fun c => by omega⟩
        subst ev
        refine ih (z2, z3, mm2, fa2) ⟨s', hb2, hs2, ?_⟩
        dsimp only
        rw [show (s', z3) = mDoorR N a (6 - a).toNat (a + 1) (s, y3) from hq]
        exact he
    · obtain ⟨y2, y3, mm1, fa1⟩ := x
      dsimp only at hp
      dsimp only
      rw [wX4_newDoor_33_s]
      obtain ⟨s, hb, hs, he⟩ := hp
      rw [show (7 : Int) - 7 = 0 by omega] at he
      have he : (s, y3) = mDoorF N 7 0 (mTillAll (mThink N), -9) := he
      exact ⟨by omega, fun _ => ⟨by rw [← he], ⟨hw, ht, hR⟩, hIm, hRo, hLe, hRe⟩, fun c => by omega⟩
  have hr0 := mTillAll_range (mThink N)
  refine s4_lays (fun z hz => s4_allDoneIn (wf_think hw) (Rep_think (hR.of hw (fun i i0 i1 => hz i i0 (by omega)))) (fun mm' fa' => ?_))
  by_cases c2 : mTillAll (mThink N) = 100
  · rw [show mOr (mTillAll (mThink N)) = -9 from if_pos c2]
    exact ⟨by omega, fun z => absurd z (by decide), fun _ => loop _ _ _ (Or.inr ⟨c2, rfl⟩)⟩
  · rw [show mOr (mTillAll (mThink N)) = mTillAll (mThink N) from if_neg c2]
    exact ⟨by omega, fun _ => loop _ _ _ (Or.inl rfl), fun z => by omega⟩
