theorem s3_newDoor {N T : MS} (hw : wf N) {Q : Int → MS → Prop} (h : ∀ T', Q (mDoorF N 7 0 (mTillAll (mThink N), -9)).2 T') : wX3_newDoor N T Q := by
  refine s3_think (s3_tillAll (wf_think hw) (fun T0 => ?_))
  refine gFor (α := (Int × Int) × MS) (fun n a x => wX3_newDoor_14 N Q n x.1.1 x.1.2 a x.2) 7 (fun a x => (0 ≤ x.1.1 ∧ x.1.1 ≤ 100) ∧ mDoorF N (7 - a).toNat a x.1 = mDoorF N 7 0 (mTillAll (mThink N), -9)) (fun n a x a0 a1 hp ih => ?_) (fun n x hp => ?_) 0 ⟨by omega, by omega⟩ ((mTillAll (mThink N), -9), T0) ⟨mTillAll_range _, by rw [show ((7 : Int) - 0).toNat = 7 from rfl]⟩
  · obtain ⟨s, T1⟩ := x
    dsimp only at hp
    dsimp only
    rw [wX3_newDoor_14_s]
    obtain ⟨hb, he⟩ := hp
    rw [show ((7 : Int) - a).toNat = (7 - (a + 1)).toNat + 1 by omega] at he
    have he : mDoorF N (7 - (a + 1)).toNat (a + 1) (mDoorR N a (6 - a).toNat (a + 1) s) = mDoorF N 7 0 (mTillAll (mThink N), -9) := he
    refine ⟨by omega, fun c => by omega, fun c v ev => ?_⟩
    subst ev
    refine gFor (α := (Int × Int) × MS) (fun m b x => wX3_newDoor_25 N (wX3_newDoor_14 N Q _) Q m x.1.1 x.1.2 a b x.2) 7 (fun b x => a + 1 ≤ b ∧ (0 ≤ x.1.1 ∧ x.1.1 ≤ 100) ∧ mDoorR N a (7 - b).toNat b x.1 = mDoorR N a (6 - a).toNat (a + 1) s) (fun m b x b0 b1 hq ih2 => ?_) (fun m x hq => ?_) (a + 1) ⟨by omega, by omega⟩ (s, T1) ⟨by omega, hb, by rw [show (7 : Int) - (a + 1) = 6 - a by omega]⟩
    · obtain ⟨⟨y1, y2⟩, T2⟩ := x
      dsimp only at hq
      dsimp only
      rw [wX3_newDoor_25_s]
      obtain ⟨hab, hb2, hq⟩ := hq
      rw [show ((7 : Int) - b).toNat = (7 - (b + 1)).toNat + 1 by omega] at hq
      have hq : mDoorR N a (7 - (b + 1)).toNat (b + 1) (if N 2 (a * 7 + b) = 1 then (y1, y2) else if mDoorT N a b < y1 then (mDoorT N a b, 10 * a + b) else (y1, y2)) = mDoorR N a (6 - a).toNat (a + 1) s := hq
      have h1 := (wfO_of hw a b a0 a1 b0 b1).1
      refine ⟨by omega, fun c => by omega, fun c => ⟨by omega, by omega, fun d => ⟨fun _ => s3_think ?_, fun z => absurd rfl z⟩, fun d => ⟨fun z => absurd z (by decide), fun _ v ev => ?_⟩⟩⟩
      · refine s2_turn (wf_think hw) ⟨a0, a1⟩ ⟨b0, b1⟩ (by omega) (fun f hf z9 e9 => ?_)
        have e1 : 1 - (mThink N) 2 (a * 7 + b) = 1 := by show 1 - N 2 (a * 7 + b) = 1; omega
        rw [e1] at hf e9
        subst e9
        have ed : mTillAll (uc (uc (mThink N) 2 (su (su ((mThink N) 2) ((a * 7) + b) 1) ((b * 7) + a) 1)) 3 f) = mDoorT N a b := doorT_any hw ⟨a0, a1⟩ ⟨b0, b1⟩ (by omega) hf
        have hr := mTillAll_range (uc (uc (mThink N) 2 (su (su ((mThink N) 2) ((a * 7) + b) 1) ((b * 7) + a) 1)) 3 f)
        refine s3_tillAll (wf_doors (wf_think hw) hf) (fun T3 => ?_)
        rw [ed]
        rw [ed] at hr
        rw [if_neg d] at hq
        refine ⟨by omega, by omega, fun d2 v ev => ?_, fun d2 v ev w ew => ?_⟩
        · subst ev
          rw [if_neg (by omega)] at hq
          exact ih2 ((y1, y2), T3) ⟨by omega, hb2, hq⟩
        · subst ev ew
          rw [if_pos (by omega)] at hq
          exact ih2 ((mDoorT N a b, 10 * a + b), T3) ⟨by omega, hr, hq⟩
      · subst ev
        rw [if_pos d] at hq
        exact ih2 ((y1, y2), T2) ⟨by omega, hb2, hq⟩
    · obtain ⟨⟨y1, y2⟩, T2⟩ := x
      dsimp only at hq
      dsimp only
      rw [wX3_newDoor_25_s]
      obtain ⟨hab, hb2, hq⟩ := hq
      rw [show (7 : Int) - 7 = 0 by omega] at hq
      refine ⟨by omega, fun _ v ev => ?_, fun c => by omega⟩
      subst ev
      refine ih ((y1, y2), T2) ⟨hb2, ?_⟩
      rw [show (y1, y2) = mDoorR N a (6 - a).toNat (a + 1) s from hq]
      exact he
  · obtain ⟨⟨y1, y2⟩, T1⟩ := x
    dsimp only at hp
    dsimp only
    rw [wX3_newDoor_14_s]
    obtain ⟨hb, he⟩ := hp
    rw [show (7 : Int) - 7 = 0 by omega] at he
    have he : (y1, y2) = mDoorF N 7 0 (mTillAll (mThink N), -9) := he
    refine ⟨by omega, fun _ => ?_, fun c => by omega⟩
    have h' := h T1
    rw [← he] at h'
    exact h'
