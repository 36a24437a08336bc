theorem s3_perform {lg sg : AR} {N : MS} (hl : 0 ≤ lg 1 ∧ lg 1 ≤ 96) (hv : ∀ j : Int, 0 ≤ j → j < lg 1 → 0 ≤ sg j ∧ sg j ≤ 255) (hw : wf N) (ht : 0 ≤ N 0 1 ∧ N 0 1 ≤ 999) {p : Int} (hp : 0 ≤ p ∧ p < lg 1) (hb : tBad sg (lg 1) p = -9) {Q : Int → MS → Prop} (hok : ∀ N', dOk (sg p) (fun j => tNum (sg p) (sg (p + 1 + j)) j) (tB (sg p)) N N' → Q 1 N') (hno : dNo (sg p) (fun j => tNum (sg p) (sg (p + 1 + j)) j) (tB (sg p)) N → Q 0 N) : wX3_perform lg sg N p Q := by
  have ec : tAt sg (lg 1) p = sg p := if_pos hp
  have hs := tBad_spec (f := sg) (l := lg 1) hp.1
  rw [ec] at hs
  obtain ⟨v, ev⟩ : ∃ v : AR, v = fun j => tNum (sg p) (sg (p + 1 + j)) j := ⟨_, rfl⟩
  rw [← ev] at hok hno
  have hs : ¬ tB (sg p) = 0 ∧ ∀ j : Int, 1 ≤ j → j < tB (sg p) + 2 → p + j < lg 1 ∧ tFit (sg p) j (tB (sg p)) (sg (p + j)) = 1 := by
    rcases hs with h | h
    · exact h.2
    · omega
  have vd : ∀ j : Int, 0 ≤ j → j < tB (sg p) → ¬ (sg p = 113 ∧ j = 0) → (0 ≤ v j ∧ v j ≤ 9) ∧ ∀ i : Int, i = p + (j + 1) → tAt sg (lg 1) i - 48 = v j := by
    intro j j0 j1 hq
    have h1 := hs.2 (j + 1) (by omega) (by omega)
    rw [tFit_dig (show j + 1 ≤ tB (sg p) by omega) (by omega)] at h1
    have h2 : 48 ≤ sg (p + (j + 1)) ∧ sg (p + (j + 1)) ≤ 57 := by
      by_cases d : 48 ≤ sg (p + (j + 1)) ∧ sg (p + (j + 1)) ≤ 57
      · exact d
      · rw [if_neg d] at h1; omega
    have e1 : tAt sg (lg 1) (p + (j + 1)) = sg (p + (j + 1)) := if_pos (by omega)
    have e2 : v j = sg (p + (j + 1)) - 48 := by
      rw [ev]
      show tNum (sg p) (sg (p + 1 + j)) j = _
      unfold tNum
      rw [if_neg hq, show p + 1 + j = p + (j + 1) by omega]
    refine ⟨by omega, fun i ei => ?_⟩
    rw [ei, e1, e2]
  have vk : sg p = 113 → (0 ≤ v 0 ∧ v 0 ≤ 5) ∧ kOf (tAt sg (lg 1) (p + 1)) = v 0 := by
    intro e
    have h1 := hs.2 1 (by omega) (by have := tB_range (sg p); omega)
    rw [e] at h1
    rw [tFit_kind (by decide)] at h1
    have hk := kOf_range (sg (p + 1))
    have h2 : 0 ≤ kOf (sg (p + 1)) := by
      by_cases d : 0 ≤ kOf (sg (p + 1))
      · exact d
      · rw [if_neg d] at h1; omega
    have e1 : tAt sg (lg 1) (p + 1) = sg (p + 1) := if_pos (by omega)
    have e2 : v 0 = kOf (sg (p + 1)) := by
      rw [ev]
      show tNum (sg p) (sg (p + 1 + 0)) 0 = _
      unfold tNum
      rw [if_pos ⟨e, rfl⟩, Int.add_zero]
    rw [e1, e2]
    exact ⟨by omega, rfl⟩
  have hc := hv p hp.1 hp.2
  have ha := tAt_range hv (p + 1)
  refine s0_digit hl (by omega) (s0_digit hl (by omega) (s0_digit hl (by omega) (s0_at hl (by omega) ?_)))
  rw [ec]
  refine ⟨by omega, fun e => ?_, fun e => ?_, fun e => ?_, fun e => ?_, fun e => ?_, fun e => ?_⟩
  · rw [e] at hok hno vd
    have b0 := vd 0 (by decide) (by decide) (by decide)
    have b1 := vd 1 (by decide) (by decide) (by decide)
    rw [b0.2 (p + 1) (by omega), b1.2 (p + 2) (by omega)]
    exact d_place hw ht b0.1 b1.1 hok hno
  · rw [e] at hok hno vd
    have b0 := vd 0 (by decide) (by decide) (by decide)
    have b1 := vd 1 (by decide) (by decide) (by decide)
    rw [b0.2 (p + 1) (by omega), b1.2 (p + 2) (by omega)]
    exact d_door hw ht b0.1 b1.1 hok hno
  · rw [e] at hok hno vd
    have b0 := vd 0 (by decide) (by decide) (by decide)
    have b1 := vd 1 (by decide) (by decide) (by decide)
    have b2 := vd 2 (by decide) (by decide) (by decide)
    rw [b0.2 (p + 1) (by omega), b1.2 (p + 2) (by omega), b2.2 (p + 3) (by omega)]
    exact d_group hw ht b0.1 b1.1 b2.1 hok hno
  · have k0 := vk e
    rw [e] at hok hno vd
    have b1 := vd 1 (by decide) (by decide) (by decide)
    have b2 := vd 2 (by decide) (by decide) (by decide)
    have b3 := vd 3 (by decide) (by decide) (by decide)
    refine s0_at hl (by omega) ⟨by omega, s0_digit hl (by omega) ?_⟩
    rw [k0.2, b1.2 (p + 2) (by omega), b2.2 (p + 3) (by omega), b3.2 (p + 4) (by omega)]
    exact d_question hw ht k0.1 b1.1 b2.1 b3.1 hok hno
  · rw [e] at hok hno vd
    have b0 := vd 0 (by decide) (by decide) (by decide)
    have b1 := vd 1 (by decide) (by decide) (by decide)
    have b2 := vd 2 (by decide) (by decide) (by decide)
    rw [b0.2 (p + 1) (by omega), b1.2 (p + 2) (by omega), b2.2 (p + 3) (by omega)]
    exact d_answer hw ht b0.1 b1.1 b2.1 hok hno
  · have e : sg p = 109 := by
      rcases tB_letter hs.1 with h | h | h | h | h | h
      · exact absurd h e.1
      · exact absurd h e.2.1
      · exact absurd h e.2.2.1
      · exact h
      · exact absurd h e.2.2.2.1
      · exact absurd h e.2.2.2.2
    rw [e] at hok hno vd
    have b0 := vd 0 (by decide) (by decide) (by decide)
    have b1 := vd 1 (by decide) (by decide) (by decide)
    rw [b0.2 (p + 1) (by omega), b1.2 (p + 2) (by omega)]
    exact d_minutes hw ht b0.1 b1.1 hok hno
/-! all statements, by both -/
def tRun (le wa o0 : AR) (cnt : Int) (Q2 : Int → AR → AR → AR → AR → AR → Prop) (n : Nat) (p : Int) (N : MS) : Prop := ∀ o ss fa nu : AR, o 11 = p → (∀ j : Int, ¬ j = 11 → o j = o0 j) → Rep N ss → wX4_museum_62 le Q2 n cnt (-9) o ss wa fa nu
def tFall (le wa o0 : AR) (cnt : Int) (Q2 : Int → AR → AR → AR → AR → AR → Prop) (n : Nat) (y : Int) : Prop := ∀ o ss fa nu : AR, (∀ j : Int, ¬ j = 11 → o j = o0 j) → (∀ i : Int, 0 ≤ i → i < 147 → ss i = wa i) → wX4_museum_62 le Q2 n cnt y o ss wa fa nu
def tLink (le : AR) (l : Int) (n : Nat) (p : Int) (N N' : MS) : Prop := ∀ (wa o0 : AR) (cnt : Int) (Q2 : Int → AR → AR → AR → AR → AR → Prop), o0 8 = l → (∀ m : Nat, 1 ≤ m → tRun le wa o0 cnt Q2 m l N') → tRun le wa o0 cnt Q2 n p N
def tLinkB (le : AR) (l : Int) (n : Nat) (p : Int) (N : MS) (y : Int) : Prop := ∀ (wa o0 : AR) (cnt : Int) (Q2 : Int → AR → AR → AR → AR → AR → Prop), o0 8 = l → (∀ m : Nat, 1 ≤ m → tFall le wa o0 cnt Q2 m y) → tRun le wa o0 cnt Q2 n p N
theorem t_step {le f wa o0 : AR} {l p cnt : Int} {N N' : MS} {n : Nat} {Q2 : Int → AR → AR → AR → AR → AR → Prop} (hl : 0 ≤ l ∧ l ≤ 96) (hf : ∀ j : Int, 0 ≤ j → j < l → le j = f j) (hv : ∀ j : Int, 0 ≤ j → j < l → 0 ≤ f j ∧ f j ≤ 255) (h8 : o0 8 = l) (hp : 0 ≤ p ∧ p < l) (hb : tBad f l p = -9) (hd : dOk (f p) (fun j => tNum (f p) (f (p + 1 + j)) j) (tB (f p)) N N') (h : tRun le wa o0 cnt Q2 n (p + (tB (f p) + 2)) N') : tRun le wa o0 cnt Q2 (n + 1) p N := by
  intro o ss fa nu h11 ho hR
  have o8 : o 8 = l := by rw [ho 8 (by decide)]; exact h8
  have ec : tAt f l p = f p := if_pos hp
  rw [wX4_museum_62_s]
  refine ⟨by omega, fun e => absurd rfl e, fun _ => ⟨by omega, by omega, fun e => by omega, fun _ v9 e9 => s4_here hl o8 hf h11 (by omega) ?_⟩⟩
  rw [if_pos hp.2]
  refine s4_reads hl o8 hf hv h11 (by omega) (fun w w' _ hT _ => absurd hb hT) (fun w w' hw _ w11 hn => ?_)
  rw [ec] at w11 hn
  exact hd.2.2 ss fa w' _ hR hn (fun ss' fa' hR' => ⟨fun e => absurd e (by decide), fun _ => h w ss' fa' w' (by omega) (fun j hj => by rw [hw j hj]; exact ho j hj) hR'⟩)
theorem t_fall {le f wa o0 : AR} {l p cnt : Int} {N : MS} {n : Nat} {Q2 : Int → AR → AR → AR → AR → AR → Prop} (hl : 0 ≤ l ∧ l ≤ 96) (hf : ∀ j : Int, 0 ≤ j → j < l → le j = f j) (hv : ∀ j : Int, 0 ≤ j → j < l → 0 ≤ f j ∧ f j ≤ 255) (h8 : o0 8 = l) (hp : 0 ≤ p ∧ p < l) (hb : tBad f l p = -9) (hd : dNo (f p) (fun j => tNum (f p) (f (p + 1 + j)) j) (tB (f p)) N) (h : tFall le wa o0 cnt Q2 n ((-2000) - p)) : tRun le wa o0 cnt Q2 (n + 1) p N := by
  intro o ss fa nu h11 ho hR
  have o8 : o 8 = l := by rw [ho 8 (by decide)]; exact h8
  have ec : tAt f l p = f p := if_pos hp
  rw [wX4_museum_62_s]
  refine ⟨by omega, fun e => absurd rfl e, fun _ => ⟨by omega, by omega, fun e => by omega, fun _ v9 e9 => s4_here hl o8 hf h11 (by omega) ?_⟩⟩
  rw [if_pos hp.2]
  refine s4_reads hl o8 hf hv h11 (by omega) (fun w w' _ hT _ => absurd hb hT) (fun w w' hw _ w11 hn => ?_)
  rw [ec] at w11 hn
  refine hd ss fa w' _ hR hn (fun ss' fa' => ⟨fun _ v18 e18 => s4_lays (fun z hz => ?_), fun e => absurd rfl e⟩)
  rw [e18, e9, h11]
  exact h w z fa' w' (fun j hj => by rw [hw j hj]; exact ho j hj) hz
theorem s3_all {lg sg le : AR} {K : MS} (hl : 0 ≤ lg 1 ∧ lg 1 ≤ 96) (hf : ∀ j : Int, 0 ≤ j → j < lg 1 → le j = sg j) (hv : ∀ j : Int, 0 ≤ j → j < lg 1 → 0 ≤ sg j ∧ sg j ≤ 255) {Q : Int → MS → MS → Prop} : ∀ (n : Nat) (p y : Int) (N : MS), 0 ≤ p → p ≤ lg 1 → lg 1 - p < n → (p < lg 1 → tForm sg (lg 1) n p = -9) → wf N → (0 ≤ N 0 1 ∧ N 0 1 ≤ 999) →
    (∀ N', wf N' → (0 ≤ N' 0 1 ∧ N' 0 1 ≤ 999) → tLink le (lg 1) n p N N' → Q (y + tCnt sg (lg 1) n p) N' K) →
    (∀ p' : Int, 0 ≤ p' ∧ p' < lg 1 → tLinkB le (lg 1) n p N ((-2000) - p') → Q ((-2000) - p') K K) → wX3_performAll_15 lg sg Q n y p N K := by
  intro n
  induction n with
  | zero => intro p y N p0 p1 hn; exact absurd hn (by omega)
  | succ n ih =>
    intro p y N p0 p1 hn hform hw ht hok hbad
    rw [wX3_performAll_15_s]
    unfold wX0_length
    by_cases c : lg 1 ≤ p
    · have h := hok N hw ht (fun wa o0 cnt Q2 h8 h => by
        have e : p = lg 1 := by omega
        rw [e]
        exact h (n + 1) (by omega))
      rw [tCnt_end c, Int.add_zero] at h
      exact ⟨by omega, by omega, fun _ => h, fun z => absurd c z⟩
    · refine ⟨by omega, by omega, fun z => absurd z c, fun _ => ?_⟩
      have hp : 0 ≤ p ∧ p < lg 1 := by omega
      have hform := hform hp.2
      have hform : (if tBad sg (lg 1) p = -9 then (if p + (tB (tAt sg (lg 1) p) + 2) < lg 1 then tForm sg (lg 1) n (p + (tB (tAt sg (lg 1) p) + 2)) else -9) else tBad sg (lg 1) p) = -9 := hform
      by_cases b : tBad sg (lg 1) p = -9
      · rw [if_pos b] at hform
        have ec : tAt sg (lg 1) p = sg p := if_pos hp
        have hs := tBad_spec (f := sg) (l := lg 1) p0
        have hB := tB_range (sg p)
        rw [ec] at hform hs
        have hlast : p + (tB (sg p) + 1) < lg 1 := by
          rcases hs with h | h
          · exact (h.2.2 (tB (sg p) + 1) (by omega) (by omega)).1
          · omega
        have eC : tCnt sg (lg 1) (n + 1) p = tCnt sg (lg 1) n (p + (tB (sg p) + 2)) + 1 := by
          show (if p < lg 1 then tCnt sg (lg 1) n (p + (tB (tAt sg (lg 1) p) + 2)) + 1 else 0) = _
          rw [if_pos hp.2, ec]
        rw [eC] at hok
        refine s3_perform hl hv hw ht hp b (fun N' hN' => ⟨fun _ => s0_at hl (by omega) ?_, fun z => absurd z (by decide)⟩) (fun hN => ⟨fun z => absurd rfl z, fun _ => ?_⟩)
        · rw [ec]
          refine s0_signs (by have := hv p hp.1 hp.2; omega) (fun v10 e10 v11 e11 => ?_)
          subst e10 e11
          refine ih (p + (tB (sg p) + 2)) (y + 1) N' (by omega) (by omega) (by omega) (fun d => ?_) hN'.1 hN'.2.1 (fun N2 hw2 ht2 hL => ?_) (fun p' hp' hL => ?_)
          · rw [if_pos d] at hform
            exact hform
          · have h := hok N2 hw2 ht2 (fun wa o0 cnt Q2 h8 h => t_step hl hf hv h8 hp b hN' (hL wa o0 cnt Q2 h8 h))
            rw [show y + 1 + tCnt sg (lg 1) n (p + (tB (sg p) + 2)) = y + (tCnt sg (lg 1) n (p + (tB (sg p) + 2)) + 1) by omega]
            exact h
          · exact hbad p' hp' (fun wa o0 cnt Q2 h8 h => t_step hl hf hv h8 hp b hN' (hL wa o0 cnt Q2 h8 h))
        · exact hbad p hp (fun wa o0 cnt Q2 h8 h => t_fall hl hf hv h8 hp b hN (h n (by omega)))
      · rw [if_neg b] at hform
        exact absurd hform b
theorem op_museum {o : AR} {rw : AR} {rf : AR} {lg : AR} {sg : AR} {N : MS} {T : MS} {K : MS} {I : MS} {o2 : AR} {ss : AR} {mm : AR} {im : AR} {wa : AR} {le : AR} {ro : AR} {re : AR} {fa : AR} {nu : AR} (hI : gInv o rw rf lg sg N T K I o2 ss mm im wa le ro re fa nu) : wX3_museum lg sg N K (fun (r : Int) (lg1 : AR) (N1 : MS) (K1 : MS) => wX4_museum o2 ss wa le fa nu (fun (r2 : Int) (o21 : AR) (ss1 : AR) (wa1 : AR) (fa1 : AR) (nu1 : AR) => r = r2 ∧ gInv o rw rf lg1 sg N1 T K1 I o21 ss1 mm im wa1 le ro re fa1 nu1)) := by
  obtain ⟨hN, hIm, hRo, hLe, hRe⟩ := hI
  obtain ⟨hw, ht, hR⟩ := hN
  have e8 := hLe.1
  have hl := hLe.2.1
  have hf : ∀ j : Int, 0 ≤ j → j < lg 1 → le j = sg j := fun j j0 j1 => (hLe.2.2 j j0 j1).1.symm
  have hv : ∀ j : Int, 0 ≤ j → j < lg 1 → 0 ≤ sg j ∧ sg j ≤ 255 := fun j j0 j1 => (hLe.2.2 j j0 j1).2
  have hr := tForm_range (f := sg) hl 97 0 (by omega) (by omega)
  have let0 : ∀ o1 : AR, gLet (su lg 1 0) sg (su o1 8 0) le := fun o1 => ⟨by rw [su_at, su_at], by rw [su_at]; omega, fun j j0 j1 => by rw [su_at] at j1; omega⟩
  have o37 : ∀ j : Int, ¬ j = 11 → su o2 11 0 j = o2 j := fun j hj => su_ne _ _ hj
  refine ⟨97, s0_form hl hv 97 0 (by omega) (by omega) (by omega) (by omega) ⟨by omega, fun c => ⟨97, ?_⟩, fun c v8 e8' z9 e9 z37 e37 => ⟨97, ?_⟩⟩⟩
  · have hform : tForm sg (lg 1) 97 0 = -9 := by omega
    refine s3_all (le := le) hl hf hv 97 0 0 N (by omega) (by omega) (by omega) (fun _ => hform) hw ht (fun N' hw' ht' hL z7 e7 z37 e37 => ⟨97, ?_⟩) (fun p' hp' hL z7 e7 z37 e37 => ⟨97, ?_⟩)
    · subst e7 e37
      refine s4_form (o0 := o2) hl e8.symm hf hv 97 0 0 _ nu (by omega) (by omega) (by omega) (by omega) (su_at _ _ _) o37 (fun _ o' z nu' ho h11 hz => ⟨97, ?_⟩) (fun c2 => absurd hform c2)
      refine hL z o2 _ _ e8.symm (fun m hm o1 ss1 fa1 nu1 e11 ho1 hR1 => ?_) o' ss fa nu' h11 ho hR
      have h8 : o1 8 = lg 1 := by rw [ho1 8 (by decide), e8]
      rw [show m = (m - 1) + 1 by omega]
      exact s4_end9 (by omega) (by omega) (by omega) (m - 1) ⟨rfl, ⟨hw', ht', hR1⟩, hIm.of rfl (by rw [su_ne _ _ (by decide)]; exact ho1 4 (by decide)), hRo.of rfl (by rw [su_ne _ _ (by decide)]; exact ho1 9 (by decide)), let0 o1, hRe⟩
    · subst e7 e37
      refine s4_form (o0 := o2) hl e8.symm hf hv 97 0 0 _ nu (by omega) (by omega) (by omega) (by omega) (su_at _ _ _) o37 (fun _ o' z nu' ho h11 hz => ⟨97, ?_⟩) (fun c2 => absurd hform c2)
      refine hL z o2 _ _ e8.symm (fun m hm o1 ss1 fa1 nu1 ho1 hz1 => ?_) o' ss fa nu' h11 ho hR
      rw [show m = (m - 1) + 1 by omega]
      exact s4_end (by omega) (by omega) (m - 1) ⟨rfl, ⟨hw, ht, hR.of hw (fun i i0 i1 => by rw [hz1 i i0 (by omega)]; exact hz i i0 (by omega))⟩, hIm.of rfl (by rw [su_ne _ _ (by decide)]; exact ho1 4 (by decide)), hRo.of rfl (by rw [su_ne _ _ (by decide)]; exact ho1 9 (by decide)), let0 o1, hRe⟩
  · subst e8' e9 e37
    refine s4_form (o0 := o2) hl e8.symm hf hv 97 0 0 _ nu (by omega) (by omega) (by omega) (by omega) (su_at _ _ _) o37 (fun c2 => absurd c2 (by omega)) (fun c2 o' z nu' cnt ho => ⟨1, ?_⟩)
    exact s4_end (by omega) (by omega) 0 ⟨rfl, ⟨hw, ht, hR⟩, hIm.of rfl (by rw [su_ne _ _ (by decide)]; exact ho 4 (by decide)), hRo.of rfl (by rw [su_ne _ _ (by decide)]; exact ho 9 (by decide)), let0 o', hRe⟩
