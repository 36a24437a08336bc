theorem s4_apartLoop {N : MS} {o ss mm re fa : AR} {m : Int → Int} {W : Int} {R : Int × Int} {x : Int} {Q : Int → AR → AR → AR → AR → Prop} (hW : 1 ≤ W ∧ W ≤ 512) (hL : ∀ x, 0 ≤ m x ∧ m x ≤ 5) (hR0 : R = mApF m W.toNat 0 (0, 1000000000)) (hg : 0 ≤ N 0 7 ∧ N 0 7 ≤ 3) (e1 : ss 1 = N 0 7) (hx : -1 ≤ x ∧ x < N 0 7) (hb : 0 ≤ R.1 ∧ R.1 < 512)
    (hlay : ∀ (mm : AR) (Q : AR → Prop), (∀ z : AR, Rep (mThink N) z → Q z) → wX4_lays ss mm Q)
    (hrow : ∀ (y5 : Int) (o1 z fa1 : AR) (P : Nat → Prop) (K : Int → Int → Int → Int → Int → AR → AR → AR → AR → Prop) (b l : Int), (0 ≤ y5 ∧ y5 < 512) → Rep (mThink N) z → (∀ o2 mm2 fa2 : AR, o2 13 = m y5 → (∀ i : Int, i < 13 ∨ 15 < i → o2 i = o1 i) → (gR (o2 13)) ∧ (gR l) ∧ ((o2 13) < l → ∀ v10 : Int, v10 = (o2 13) → ∀ v11 : Int, v11 = y5 + 1 → K x W y5 v10 v11 o2 mm2 re fa2) ∧ (¬ (o2 13) < l → ∀ v12 : Int, v12 = y5 + 1 → K x W b l v12 o2 mm2 re fa2)) → ∃ k : Nat, wX4_apart_99 ss K Q k x W b l y5 0 o1 z re fa1)
    (h : ∀ o' mm' fa', (∀ i : Int, i < 13 ∨ 15 < i → o' i = o i) → Q (if x < 0 then R.2 else mDig N R.1 x) o' mm' re fa') : ∃ k : Nat, wX4_apart_79 ss Q k x W 0 1000000000 0 o mm re fa := by
  refine gFor (α := Int × Int × AR × AR × AR) (fun n y5 a => wX4_apart_79 ss Q n x W a.1 a.2.1 y5 a.2.2.1 a.2.2.2.1 re a.2.2.2.2) W (fun y5 a => (∀ i : Int, i < 13 ∨ 15 < i → a.2.2.1 i = o i) ∧ (0 ≤ a.2.1 ∧ a.2.1 ≤ 1000000000) ∧ mApF m (W - y5).toNat y5 (a.1, a.2.1) = R) (fun n y5 a y0 y1 hp ih => ?_) (fun n a hp => ?_) 0 ⟨by omega, by omega⟩ (0, 1000000000, o, mm, fa) ⟨fun _ _ => rfl, (by decide : (0 : Int) ≤ 1000000000 ∧ (1000000000 : Int) ≤ 1000000000), by rw [show W - 0 = W by omega]; exact hR0.symm⟩
  · obtain ⟨b, l, o1, mm1, fa1⟩ := a
    dsimp only at hp
    dsimp only
    obtain ⟨ho, hl, he⟩ := hp
    rw [wX4_apart_79_s]
    refine ⟨by omega, by omega, fun z => by omega, fun _ => hlay mm1 _ (fun z hz => hrow y5 o1 z fa1 (fun _ => True) _ b l ⟨y0, by omega⟩ hz (fun o2 mm2 fa2 e13 ho2 => ?_))⟩
    have hm := hL y5
    have ho3 : ∀ i : Int, i < 13 ∨ 15 < i → o2 i = o i := fun i hi => by rw [ho2 i hi]; exact ho i hi
    rw [e13]
    rw [show (W - y5).toNat = (W - (y5 + 1)).toNat + 1 by omega] at he
    have he : mApF m (W - (y5 + 1)).toNat (y5 + 1) (if m y5 < l then (y5, m y5) else (b, l)) = R := he
    refine ⟨by omega, by omega, fun d v ev w ew => ?_, fun d w ew => ?_⟩
    · subst ev ew
      rw [if_pos d] at he
      exact ih (y5, m y5, o2, mm2, fa2) ⟨ho3, by dsimp only; omega, he⟩
    · subst ew
      rw [if_neg d] at he
      exact ih (b, l, o2, mm2, fa2) ⟨ho3, hl, he⟩
  · obtain ⟨b, l, o1, mm1, fa1⟩ := a
    dsimp only at hp
    dsimp only
    obtain ⟨ho, hl, he⟩ := hp
    rw [wX4_apart_79_s]
    rw [show W - W = (0 : Int) by omega] at he
    have he : (b, l) = R := he
    have h := h o1 mm1 fa1 ho
    rw [← he] at h hb
    dsimp only at h hb
    refine ⟨by omega, by omega, fun _ => ⟨by omega, fun c => ⟨by omega, ⟨by omega, by omega⟩, ?_⟩, fun c => ?_⟩, fun z => by omega⟩
    · rw [if_neg (by omega)] at h
      rw [e1]
      exact h
    · rw [if_pos (by omega)] at h
      exact h
theorem s4_apartRow {N : MS} {ss re : AR} {W x : Int} {Q : Int → AR → AR → AR → AR → Prop} (hw : wf N) (hR : Rep N ss) (h3 : N 0 7 ≤ 3) (hx : gR x) (y5 : Int) (o1 z fa1 : AR) (K : Int → Int → Int → Int → Int → AR → AR → AR → AR → Prop) (b l : Int) (hy : 0 ≤ y5 ∧ y5 < 512) (hz : Rep (mThink N) z) (h : ∀ o2 mm2 fa2 : AR, o2 13 = mApM N y5 → (∀ i : Int, i < 13 ∨ 15 < i → o2 i = o1 i) → (gR (o2 13)) ∧ (gR l) ∧ ((o2 13) < l → ∀ v10 : Int, v10 = (o2 13) → ∀ v11 : Int, v11 = y5 + 1 → K x W y5 v10 v11 o2 mm2 re fa2) ∧ (¬ (o2 13) < l → ∀ v12 : Int, v12 = y5 + 1 → K x W b l v12 o2 mm2 re fa2)) : ∃ k : Nat, wX4_apart_99 ss K Q k x W b l y5 0 o1 z re fa1 := by
  have hgs := hw.gs
  have e1 := hR.2.1
  obtain ⟨M1, eM1⟩ : ∃ M1 : MS, M1 = mWith N y5 := ⟨_, rfl⟩
  have em : mApM N y5 = (mFull M1 30).1 := by rw [eM1]; rfl
  rw [em] at h
  refine gFor (α := AR) (fun m g r => wX4_apart_99 ss K Q m x W b l y5 g o1 r re fa1) (N 0 7) (fun g r => ∃ M' : MS, wf M' ∧ M' 0 = N 0 ∧ Rep M' r ∧ mWithF N y5 (N 0 7 - g).toNat g M' = M1) (fun m g r g0 g1 hq ih2 => ?_) (fun m r hq => ?_) 0 ⟨by omega, by omega⟩ z ⟨mThink N, wf_think hw, rfl, hz, by rw [show N 0 7 - 0 = N 0 7 by omega, eM1]; rfl⟩
  · rw [wX4_apart_99_s]
    obtain ⟨M', hw', h0, hR', hq⟩ := hq
    have e7 : M' 0 7 = N 0 7 := by rw [h0]
    have hd := mDig_range N y5 g
    rw [show (N 0 7 - g).toNat = (N 0 7 - (g + 1)).toNat + 1 by omega] at hq
    refine ⟨by omega, by omega, fun z => by omega, fun _ => s4_of ⟨by omega, ⟨by omega, by omega⟩, ⟨by omega, by omega⟩, fun z17 e17 v ev => ?_⟩⟩
    subst e17 ev
    rw [e1]
    exact ih2 (su r ((42 + (5 * g)) + 2) (mDig N y5 g)) ⟨st M' 10 g (mDig N y5 g), wf_st10 hw' hd, h0, Rep.st10 hw' hR' g0 (by omega) _, hq⟩
  · rw [wX4_apart_99_s]
    obtain ⟨M', hw', h0, hR', hq⟩ := hq
    rw [show N 0 7 - N 0 7 = (0 : Int) by omega] at hq
    have hq : M' = M1 := hq
    subst hq
    exact ⟨by omega, by omega, fun _ => s4_findsFull hw' hR' (by omega) (by omega) (fun o2 mm2 fa2 e13 _ _ ho2 => h o2 mm2 fa2 e13 ho2), fun z => by omega⟩
theorem s4_apart {N : MS} {o ss mm re fa : AR} (hw : wf N) (hR : Rep N ss) (h3 : N 0 7 ≤ 3) {x : Int} (hx : -1 ≤ x ∧ x < N 0 7) {Q : Int → AR → AR → AR → AR → Prop} (h : ∀ o' mm' fa', (∀ i : Int, i < 13 ∨ 15 < i → o' i = o i) → Q (if x < 0 then (mApB N).2 else mDig N (mApB N).1 x) o' mm' re fa') : wX4_apart o ss mm re fa x Q := by
  have hgs := hw.gs
  have e1 := hR.2.1
  have hW := mApW_range hw h3
  refine ⟨by omega, fun _ => ⟨by omega, fun _ => ⟨fun _ => ?_, fun z => by omega⟩, fun z => by omega⟩, fun z => by omega⟩
  refine gFor (α := Int) (fun n y3 y2 => wX4_apart_49 ss Q n x y2 y3 o mm re fa) (N 0 7) (fun y3 y2 => y2 = (1 : Int) * 2 ^ ((3 * y3) : Int).toNat) (fun n y3 y2 y0 y1 hp ih => ?_) (fun n y2 hp => ?_) 0 ⟨by omega, by omega⟩ 1 rfl
  · rw [wX4_apart_49_s]
    refine ⟨by omega, by omega, fun z => by omega, fun _ v ev w ew => ?_⟩
    subst ev ew
    refine ih _ ?_
    rw [hp]
    rcases (show y3 = 0 ∨ y3 = 1 ∨ y3 = 2 by omega) with e | e | e <;> rw [e] <;> decide
  · rw [wX4_apart_49_s]
    refine ⟨by omega, by omega, fun _ => ?_, fun z => by omega⟩
    have hp : y2 = mApW N := hp
    subst hp
    have hb := (mApB_spec hw h3).2
    exact s4_apartLoop (m := mApM N) hW (fun x => (mApM_range hw x).2) rfl ⟨hgs.1, h3⟩ e1 hx hb (fun mm Q hQ => s4_lays (fun z hz => hQ z (Rep_think (hR.of hw (fun i i0 i1 => hz i i0 (by omega)))))) (fun y5 o1 z fa1 _ K b l hy hz hh => s4_apartRow hw hR h3 (by omega) y5 o1 z fa1 K b l hy hz hh) h
theorem op_apart {o : AR} {rw : AR} {rf : AR} {lg : AR} {sg : AR} {N : MS} {T : MS} {K : MS} {I : MS} {o2 : AR} {ss : AR} {mm : AR} {im : AR} {wa : AR} {le : AR} {ro : AR} {re : AR} {fa : AR} {nu : AR} (hI : gInv o rw rf lg sg N T K I o2 ss mm im wa le ro re fa nu) (x1 : Int) (hx1 : gR x1): wX3_apart rf N T x1 (fun (r : Int) (rf1 : AR) (T1 : MS) => wX4_apart o2 ss mm re fa x1 (fun (r2 : Int) (o21 : AR) (mm1 : AR) (re1 : AR) (fa1 : AR) => r = r2 ∧ gInv o rw rf1 lg sg N T1 K I o21 ss mm1 im wa le ro re1 fa1 nu)) := by
  obtain ⟨hN, hIm, hRo, hLe, hRe⟩ := hI
  obtain ⟨hw, ht, hR⟩ := hN
  have hgs := hw.gs
  have e1 := hR.2.1
  refine ⟨hx1, fun a => ⟨by omega, fun b => ⟨fun c => ?_, fun c => s3_refuse (by omega) ⟨hx1, fun _ => ⟨by omega, fun _ => ⟨fun z => by omega, fun _ => s4_no (by omega) ⟨rfl, ⟨hw, ht, hR⟩, hIm, hRo, hLe, hRe.no _⟩⟩, fun z => by omega⟩, fun z => absurd a z⟩⟩, fun b => s3_refuse (by omega) ⟨hx1, fun _ => ⟨by omega, fun z => by omega, fun _ => s4_no (by omega) ⟨rfl, ⟨hw, ht, hR⟩, hIm, hRo, hLe, hRe.no _⟩⟩, fun z => absurd a z⟩⟩, fun a => s3_refuse (by omega) ⟨hx1, fun z => absurd z a, fun _ => s4_no (by omega) ⟨rfl, ⟨hw, ht, hR⟩, hIm, hRo, hLe, hRe.no _⟩⟩⟩
  have hb := mApB_spec hw c
  refine s3_firstsApart hw c (fun T1 => ⟨fun d => s3_fullestWith hw (by omega) c (fun T2 => ?_), fun d => ⟨by omega, ⟨by omega, by omega⟩, ?_⟩⟩)
  · refine s4_apart hw hR c ⟨a, b⟩ (fun o' mm' fa' ho => ⟨?_, ⟨hw, ht, hR⟩, hIm.of rfl (ho 4 (by omega)), hRo.of rfl (ho 9 (by omega)), hLe.of (ho 8 (by omega)), hRe⟩)
    rw [if_pos d]
    exact hb.1.symm
  · refine s4_apart hw hR c ⟨a, b⟩ (fun o' mm' fa' ho => ⟨?_, ⟨hw, ht, hR⟩, hIm.of rfl (ho 4 (by omega)), hRo.of rfl (ho 9 (by omega)), hLe.of (ho 8 (by omega)), hRe⟩)
    rw [if_neg d]
    rfl
