/-! which one the row tells -/
theorem gor_small10 {x : Int} (hx : 0 ≤ x ∧ x ≤ 1023) {b : Int} (b0 : 0 ≤ b) (b1 : b < 10) : (0 ≤ gor x (1 * 2 ^ b.toNat) ∧ gor x (1 * 2 ^ b.toNat) ≤ 1023) ∧ (0 : Int) ≤ 1 * 2 ^ b.toNat ∧ (1 : Int) * 2 ^ b.toNat ≤ 2147483647 := by
  have h : ((1 : Int) * 2 ^ b.toNat).toNat < 2 ^ 10 ∧ (0 : Int) ≤ 1 * 2 ^ b.toNat ∧ (1 : Int) * 2 ^ b.toNat ≤ 2147483647 := by
    rcases (show b = 0 ∨ b = 1 ∨ b = 2 ∨ b = 3 ∨ b = 4 ∨ b = 5 ∨ b = 6 ∨ b = 7 ∨ b = 8 ∨ b = 9 by omega) with rfl | rfl | rfl | rfl | rfl | rfl | rfl | rfl | rfl | rfl <;> decide
  have h2 : x.toNat ||| ((1 : Int) * 2 ^ b.toNat).toNat < 2 ^ 10 := Nat.or_lt_two_pow (by omega) h.1
  have h3 : gor x (1 * 2 ^ b.toNat) = ((x.toNat ||| ((1 : Int) * 2 ^ b.toNat).toNat : Nat) : Int) := rfl
  exact ⟨by omega, h.2⟩
def mTellF (M : MS) (w : AR) (g : Int) : Nat → Int → Int
  | 0, _ => 1
  | n + 1, j => if w j = (if M 13 (g * 8 + j) = -9 then 10 else M 13 (g * 8 + j)) then mTellF M w g n (j + 1) else 0
def mTell (M : MS) (w : AR) (g : Int) : Int := mTellF M w g (M 0 2).toNat 0
theorem s3_told {o w : AR} {T : MS} (hw : wf T) {g : Int} (g0 : 0 ≤ g) (g1 : g < 5) (hL : o 7 = T 0 2) (hr : ∀ j : Int, 0 ≤ j → j < o 7 → 0 ≤ w j ∧ w j ≤ 99) {Q : Int → Prop} (h : Q (mTell T w g)) : wX3_rowTellsSheetOf o w T g Q := by
  have hqs := hw.qs
  refine gFor (fun n j (_ : Unit) => wX3_rowTellsSheetOf_2 o w T Q n g j) (T 0 2) (fun j _ => mTellF T w g (T 0 2 - j).toNat j = mTell T w g) (fun n j _ j0 j1 hp ih => ?_) (fun n _ hp => ?_) 0 ⟨by omega, by omega⟩ () (by rw [show T 0 2 - 0 = T 0 2 by omega]; rfl)
  · rw [wX3_rowTellsSheetOf_2_s]
    have hs := (hw.s g0 g1 j0 (by omega)).1
    have hj := hr j j0 (by omega)
    rw [show (T 0 2 - j).toNat = (T 0 2 - (j + 1)).toNat + 1 by omega] at hp
    unfold mTellF at hp
    refine ⟨by omega, by omega, fun c => by omega, fun c => ⟨by omega, fun c => by omega, fun c => ⟨by omega, by omega, by omega, fun d => ⟨by omega, fun d2 v ev => ?_, fun d2 => ?_⟩, fun d => ⟨by omega, fun d2 v ev => ?_, fun d2 => ?_⟩⟩⟩⟩
    · subst ev
      rw [if_neg d, if_pos d2] at hp
      exact ih () hp
    · rw [if_neg d, if_neg d2] at hp
      rw [hp]; exact h
    · subst ev
      rw [if_pos d, if_pos d2] at hp
      exact ih () hp
    · rw [if_pos d, if_neg d2] at hp
      rw [hp]; exact h
  · rw [wX3_rowTellsSheetOf_2_s]
    rw [show T 0 2 - T 0 2 = (0 : Int) by omega] at hp
    have hp : (1 : Int) = mTell T w g := hp
    refine ⟨by omega, by omega, fun _ => ?_, fun c => by omega⟩
    rw [hp]; exact h
theorem s4_told {ss mm ro w fa : AR} {M : MS} (hw : wf M) (hR : Rep M mm) {g : Int} (g0 : 0 ≤ g) (g1 : g < M 0 7) (h0 : ss 0 = M 0 2) (hr : ∀ j : Int, 0 ≤ j → j < M 0 2 → w j = ro j ∧ 0 ≤ w j ∧ w j ≤ 99) {Q : Int → AR → AR → Prop} (h : ∀ mm' fa', Q (mTell (mMinutes (99 : Int).toNat M) w g) mm' fa') : wX4_isTold ss mm ro fa g Q := by
  refine s4_minutesOn hw hR (by omega) (by omega) (fun fa' r' h6 _ => ?_)
  have h5 := wf_minutes (99 : Int).toNat hw
  obtain ⟨M', eM⟩ : ∃ M' : MS, M' = mMinutes (99 : Int).toNat M := ⟨_, rfl⟩
  rw [← eM] at h h5 h6
  have hgs := hw.gs
  have hqs := hw.qs
  refine gFor (fun n j (_ : Unit) => wX4_isTold_12 ss ro Q n g j r' fa') (M' 0 2) (fun j _ => mTellF M' w g (M' 0 2 - j).toNat j = mTell M' w g) (fun n j _ j0 j1 hp ih => ?_) (fun n _ hp => ?_) 0 ⟨by omega, by omega⟩ () (by rw [show M' 0 2 - 0 = M' 0 2 by omega]; rfl)
  · rw [wX4_isTold_12_s]
    have hs := (h5.1.s g0 (by omega : g < 5) j0 (by omega : j < 8)).1
    have e13 := h6.s g0 (by omega) j0 j1
    have hj := hr j j0 (by omega)
    rw [show (M' 0 2 - j).toNat = (M' 0 2 - (j + 1)).toNat + 1 by omega] at hp
    unfold mTellF at hp
    refine ⟨by omega, by omega, fun c => by omega, fun c => ⟨by omega, fun v6 e6 => ?_⟩⟩
    rw [e13] at e6
    subst e6
    refine ⟨by omega, fun d => ⟨by omega, by omega, fun d2 v ev => ?_, fun d2 => ?_⟩, fun d => ⟨by omega, by omega, fun d2 v ev => ?_, fun d2 => ?_⟩⟩
    · subst ev
      rw [if_neg (show ¬ M' 13 (g * 8 + j) = -9 by omega), if_pos (by omega)] at hp
      exact ih () hp
    · rw [if_neg (show ¬ M' 13 (g * 8 + j) = -9 by omega), if_neg (by omega)] at hp
      rw [hp]; exact h _ _
    · subst ev
      rw [if_pos (show M' 13 (g * 8 + j) = -9 by omega), if_pos (by omega)] at hp
      exact ih () hp
    · rw [if_pos (show M' 13 (g * 8 + j) = -9 by omega), if_neg (by omega)] at hp
      rw [hp]; exact h _ _
  · rw [wX4_isTold_12_s]
    rw [show M' 0 2 - M' 0 2 = (0 : Int) by omega] at hp
    have hp : (1 : Int) = mTell M' w g := hp
    refine ⟨by omega, by omega, fun _ => ?_, fun c => by omega⟩
    rw [hp]; exact h _ _
def mWhF (t : Int → Int) : Nat → Int
  | 0 => 0
  | k + 1 => if t (k : Int) = 0 then mWhF t k else gor (mWhF t k) (1 * 2 ^ k)
theorem mWhF_s (t : Int → Int) {i : Int} (h : 0 ≤ i) : mWhF t (i + 1).toNat = if t i = 0 then mWhF t i.toNat else gor (mWhF t i.toNat) (1 * 2 ^ i.toNat) := by
  obtain ⟨k, rfl⟩ := Int.eq_ofNat_of_zero_le h
  rw [show ((k : Int) + 1).toNat = k + 1 by omega, Int.toNat_natCast]
  rfl
def mBe (N : MS) (g q x k : Int) : MS := if x = 0 then st (mThink N) 4 q k else st (mThink N) 9 g k
def mIs (N : MS) (w : AR) (g q x k : Int) : Int := mTell (mMinutes (99 : Int).toNat (mBe N g q x k)) w g
theorem op_which {o : AR} {rw : AR} {rf : AR} {lg : AR} {sg : AR} {N : MS} {T : MS} {K : MS} {I : MS} {o2 : AR} {ss : AR} {mm : AR} {im : AR} {wa : AR} {le : AR} {ro : AR} {re : AR} {fa : AR} {nu : AR} (hI : gInv o rw rf lg sg N T K I o2 ss mm im wa le ro re fa nu) (x1 x2 x3 : Int) (hx1 : gR x1) (hx2 : gR x2) (hx3 : gR x3): wX3_which o rw rf N T x1 x2 x3 (fun (r : Int) (rf1 : AR) (T1 : MS) => wX4_which o2 ss mm ro re fa x1 x2 x3 (fun (r2 : Int) (mm1 : AR) (re1 : AR) (fa1 : AR) => r = r2 ∧ gInv o rw rf1 lg sg N T1 K I o2 ss mm1 im wa le ro re1 fa1 nu)) := by
  obtain ⟨hN, hIm, hRo, hLe, hRe⟩ := hI
  obtain ⟨hw, ht, hR⟩ := hN
  have hgs := hw.gs
  have hqs := hw.qs
  have eL := hRo.1
  have bL := hRo.2.1
  have e0 := hR.1
  by_cases c1 : 0 ≤ x1 ∧ x1 < N 0 7
  · refine s3_grp hw c1 ⟨fun z => absurd rfl z, fun _ => ?_⟩
    by_cases c2 : 0 ≤ x2 ∧ x2 < N 0 2
    · have no2 : ∀ c : ¬ (0 ≤ x3 ∧ x3 ≤ 1), wX4_which o2 ss mm ro re fa x1 x2 x3 (fun (r2 : Int) (mm1 : AR) (re1 : AR) (fa1 : AR) => -2 = r2 ∧ gInv o rw (su rf (-(-2)) ((rf (-(-2))) + 1)) lg sg N T K I o2 ss mm1 im wa le ro re1 fa1 nu) := fun c => s4_grp hw hR c1 ⟨fun z => absurd z (by decide), fun _ => s4_ques hw hR c2 ⟨fun _ => s4_isInN hx3 (by omega) (by omega) c ⟨fun z => absurd rfl z, fun _ => s4_no (by omega) ⟨rfl, ⟨hw, ht, hR⟩, hIm, hRo, hLe, hRe.no _⟩⟩, fun z => absurd z (by decide)⟩⟩
      refine s3_ques hw c2 ⟨fun _ => ⟨hx3, fun a => s3_refuse (by omega) (no2 (by omega)), fun a => ⟨fun b => ⟨by omega, by omega, fun c3 => ?_, fun c3 => s3_refuse (by omega) (s4_grp hw hR c1 ⟨fun z => absurd z (by decide), fun _ => s4_ques hw hR c2 ⟨fun _ => s4_isIn hx3 (by omega) (by omega) (by omega) ⟨fun _ => ⟨by omega, by omega, fun z => by omega, fun _ => s4_no (by omega) ⟨rfl, ⟨hw, ht, hR⟩, hIm, hRo, hLe, hRe.no _⟩⟩, fun z => absurd z (by decide)⟩, fun z => absurd z (by decide)⟩⟩)⟩, fun b => s3_refuse (by omega) (no2 (by omega))⟩⟩, fun z => absurd rfl z⟩
      have wk : ∀ k : Int, 0 ≤ k → (x3 = 0 → k < 6) → k < 10 → wf (mBe N x1 x2 x3 k) := fun k k0 k1 k2 => by
        unfold mBe
        by_cases c : x3 = 0
        · rw [if_pos c]; exact wf_st4 (wf_think hw) (by have := k1 c; omega)
        · rw [if_neg c]; exact wf_st9 (wf_think hw) (by omega)
      have eb : ∀ k : Int, mBe N x1 x2 x3 k 0 = N 0 := fun k => by
        unfold mBe
        by_cases c : x3 = 0
        · rw [if_pos c]; rfl
        · rw [if_neg c]; rfl
      have main : ∀ lim : Int, 0 ≤ lim → lim ≤ 10 → (x3 = 0 → lim = 6) → (¬ x3 = 0 → lim = 10) → ∃ k : Nat, wX3_which_78 o rw N (fun (r : Int) (rf1 : AR) (T1 : MS) => wX4_which o2 ss mm ro re fa x1 x2 x3 (fun (r2 : Int) (mm1 : AR) (re1 : AR) (fa1 : AR) => r = r2 ∧ gInv o rw rf1 lg sg N T1 K I o2 ss mm1 im wa le ro re1 fa1 nu)) k x1 x2 x3 0 lim 0 rf T := by
        intro lim l0 l1 l2 l3
        refine gFor (α := Int × MS) (fun n k a => wX3_which_78 o rw N _ n x1 x2 x3 a.1 lim k rf a.2) lim (fun k a => a.1 = mWhF (mIs N rw x1 x2 x3) k.toNat ∧ (0 ≤ a.1 ∧ a.1 ≤ 1023)) (fun n k a k0 k1 hp ih => ?_) (fun n a hp => ?_) 0 ⟨by omega, by omega⟩ (0, T) ⟨rfl, (by decide : (0 : Int) ≤ 0 ∧ (0 : Int) ≤ 1023)⟩
        · obtain ⟨y4, T1⟩ := a
          dsimp only at hp
          dsimp only
          rw [wX3_which_78_s]
          obtain ⟨hp, hb⟩ := hp
          have gs := gor_small10 hb k0 (by omega)
          have wB := wk k k0 (fun c => by have := l2 c; omega) (by omega)
          have e := mWhF_s (mIs N rw x1 x2 x3) k0
          rw [← hp] at e
          have go : ∀ B : MS, B = mBe N x1 x2 x3 k → wX3_which_118 o rw N (wX3_which_78 o rw N (fun (r : Int) (rf1 : AR) (T1 : MS) => wX4_which o2 ss mm ro re fa x1 x2 x3 (fun (r2 : Int) (mm1 : AR) (re1 : AR) (fa1 : AR) => r = r2 ∧ gInv o rw rf1 lg sg N T1 K I o2 ss mm1 im wa le ro re1 fa1 nu)) n) (fun (r : Int) (rf1 : AR) (T1 : MS) => wX4_which o2 ss mm ro re fa x1 x2 x3 (fun (r2 : Int) (mm1 : AR) (re1 : AR) (fa1 : AR) => r = r2 ∧ gInv o rw rf1 lg sg N T1 K I o2 ss mm1 im wa le ro re1 fa1 nu)) x1 x2 x3 y4 lim k rf B := by
            intro B hB
            subst hB
            have h5 := wf_minutes (99 : Int).toNat wB
            rw [eb k] at h5
            obtain ⟨M, eM⟩ : ∃ M : MS, M = mMinutes (99 : Int).toNat (mBe N x1 x2 x3 k) := ⟨_, rfl⟩
            have et : mIs N rw x1 x2 x3 k = mTell M rw x1 := by rw [eM]; rfl
            rw [← eM] at h5
            refine s1_passMinutes wB (by omega) (by omega) ?_
            rw [← eM]
            refine s3_told h5.1 c1.1 (by omega) (by omega) (fun j j0 j1 => (hRo.2.2 j j0 j1).2) ⟨fun d v ev => ?_, fun d => ⟨by omega, by omega, fun v ev w ew => ?_⟩⟩
            · subst ev
              rw [if_pos (et.trans d)] at e
              exact ih (y4, M) ⟨e.symm, hb⟩
            · subst ev ew
              rw [if_neg (fun z => d (et.symm.trans z))] at e
              exact ih (_, M) ⟨e.symm, gs.1⟩
          refine ⟨by omega, by omega, fun c => by omega, fun c => s3_think ⟨by omega, fun d => ⟨by omega, fun z ez => go z ?_⟩, fun d => ⟨by omega, fun z ez => go z ?_⟩⟩⟩
          · rw [ez]; unfold mBe; rw [if_neg d]
          · rw [ez]; unfold mBe; rw [if_pos d]
        · obtain ⟨y4, T1⟩ := a
          dsimp only at hp
          dsimp only
          rw [wX3_which_78_s]
          refine ⟨by omega, by omega, fun _ => ?_, fun c => by omega⟩
          refine s4_grp hw hR c1 ⟨fun z => absurd z (by decide), fun _ => s4_ques hw hR c2 ⟨fun _ => s4_isIn hx3 (by omega) (by omega) (by omega) ⟨fun _ => ⟨by omega, by omega, fun _ => ?_, fun z => by omega⟩, fun z => absurd z (by decide)⟩, fun z => absurd z (by decide)⟩⟩
          refine gFor (α := Int × AR × AR) (fun n k a => wX4_which_64 o2 ss ro _ n x1 x2 x3 a.1 k a.2.1 re a.2.2) lim (fun k a => a.1 = mWhF (mIs N rw x1 x2 x3) k.toNat ∧ (0 ≤ a.1 ∧ a.1 ≤ 1023)) (fun n k a k0 k1 hq ih => ?_) (fun n a hq => ?_) 0 ⟨by omega, by omega⟩ (0, mm, fa) ⟨rfl, (by decide : (0 : Int) ≤ 0 ∧ (0 : Int) ≤ 1023)⟩
          · obtain ⟨z4, mm1, fa1⟩ := a
            dsimp only at hq
            dsimp only
            rw [wX4_which_64_s]
            obtain ⟨hq, hb⟩ := hq
            have gs := gor_small10 hb k0 (by omega)
            have wB := wk k k0 (fun c => by have := l2 c; omega) (by omega)
            have e := mWhF_s (mIs N rw x1 x2 x3) k0
            rw [← hq] at e
            have eg : mBe N x1 x2 x3 k 0 7 = N 0 7 := by rw [eb k]
            have eq : mBe N x1 x2 x3 k 0 2 = N 0 2 := by rw [eb k]
            have go : ∀ (Q' : Int → AR → AR → AR → Prop) (t0 : Int) (z : AR), 0 ≤ t0 ∧ t0 < 147 → Rep (mBe N x1 x2 x3 k) (su z t0 k) → (∀ (u : Int) (mm2 fa2 : AR), u = mWhF (mIs N rw x1 x2 x3) (k + 1).toNat ∧ (0 ≤ u ∧ u ≤ 1023) → wX4_which_64 o2 ss ro Q' n x1 x2 x3 u (k + 1) mm2 re fa2) → wX4_which_112 o2 ss ro (wX4_which_64 o2 ss ro Q' n) Q' x1 x2 x3 z4 k t0 z re fa1 := by
              intro Q' t0 z ht0 hz ih'
              refine ⟨ht0, fun z2 e2 => ?_⟩
              subst e2
              refine s4_told wB hz c1.1 (by omega) (by omega) (fun j j0 j1 => hRo.2.2 j j0 (by omega)) (fun mm' fa' => ⟨fun d => ⟨by omega, fun v ev w ew => ?_⟩, fun d => ⟨by omega, by omega, fun v ev w ew => ?_⟩⟩)
              · subst ev ew
                rw [if_pos (show mIs N rw x1 x2 x3 k = 0 from d)] at e
                exact ih' _ mm' fa' ⟨by rw [gor_none hb.1]; exact e.symm, by rw [gor_none hb.1]; exact hb⟩
              · subst ev ew
                rw [if_neg (show ¬ mIs N rw x1 x2 x3 k = 0 from d)] at e
                exact ih' _ mm' fa' ⟨e.symm, gs.1⟩
            have both : ∀ l : Int, l = lim → wX4_which_77 o2 ss ro (wX4_which_64 o2 ss ro (fun (r2 : Int) (mm1 : AR) (re1 : AR) (fa1 : AR) => y4 = r2 ∧ gInv o rw rf lg sg N T1 K I o2 ss mm1 im wa le ro re1 fa1 nu) n) (fun (r2 : Int) (mm1 : AR) (re1 : AR) (fa1 : AR) => y4 = r2 ∧ gInv o rw rf lg sg N T1 K I o2 ss mm1 im wa le ro re1 fa1 nu) x1 x2 x3 z4 k l k mm1 re fa1 := by
              intro l hl
              refine ⟨by omega, by omega, fun c => by omega, fun c => s4_lays (fun z hz => ?_)⟩
              have hz2 : Rep (mThink N) z := Rep_think (hR.of hw (fun i i0 i1 => hz i i0 (by omega)))
              refine ⟨hx3, fun d => go _ _ _ (by omega) ?_ (fun u mm2 fa2 h => ih (u, mm2, fa2) h), fun d => go _ _ _ (by omega) ?_ (fun u mm2 fa2 h => ih (u, mm2, fa2) h)⟩
              · unfold mBe; rw [if_neg d]; exact Rep.st9 (wf_think hw) hz2 c1.1 c1.2 k
              · unfold mBe; rw [if_pos d]; exact Rep.st4 (wf_think hw) hz2 c2.1 c2.2 k
            exact ⟨hx3, fun d => both 10 (l3 d).symm, fun d => both 6 (l2 d).symm⟩
          · obtain ⟨z4, mm1, fa1⟩ := a
            dsimp only at hq
            dsimp only
            rw [wX4_which_64_s]
            have done : ∀ l : Int, l = lim → wX4_which_77 o2 ss ro (wX4_which_64 o2 ss ro (fun (r2 : Int) (mm1 : AR) (re1 : AR) (fa1 : AR) => y4 = r2 ∧ gInv o rw rf lg sg N T1 K I o2 ss mm1 im wa le ro re1 fa1 nu) n) (fun (r2 : Int) (mm1 : AR) (re1 : AR) (fa1 : AR) => y4 = r2 ∧ gInv o rw rf lg sg N T1 K I o2 ss mm1 im wa le ro re1 fa1 nu) x1 x2 x3 z4 lim l lim mm1 re fa1 := fun l hl => ⟨by omega, by omega, fun _ => ⟨by rw [hp.1, hq.1], ⟨hw, ht, hR⟩, hIm, hRo, hLe, hRe⟩, fun c => by omega⟩
            exact ⟨hx3, fun d => done 10 (l3 d).symm, fun d => done 6 (l2 d).symm⟩
      exact ⟨fun d => main 10 (by omega) (by omega) (fun z => absurd z d) (fun _ => rfl), fun d => main 6 (by omega) (by omega) (fun _ => rfl) (fun z => absurd d z)⟩
    · exact s3_quesN hw hx2 c2 ⟨fun z => absurd z (by decide), fun _ => s3_refuse (by omega) (s4_grp hw hR c1 ⟨fun z => absurd z (by decide), fun _ => s4_quesN hw hR hx2 c2 ⟨fun z => absurd rfl z, fun _ => s4_no (by omega) ⟨rfl, ⟨hw, ht, hR⟩, hIm, hRo, hLe, hRe.no _⟩⟩⟩)⟩
  · exact s3_grpN hw hx1 c1 ⟨fun _ => s3_refuse (by omega) (s4_grpN hw hR hx1 c1 ⟨fun _ => s4_no (by omega) ⟨rfl, ⟨hw, ht, hR⟩, hIm, hRo, hLe, hRe.no _⟩, fun z => absurd rfl z⟩), fun z => absurd z (by decide)⟩
