/-! the reference reads the form -/
theorem s4_here {o le f : AR} {l p : Int} (hl : 0 ≤ l ∧ l ≤ 96) (h8 : o 8 = l) (hf : ∀ j : Int, 0 ≤ j → j < l → le j = f j) (h11 : o 11 = p) (hp : 0 ≤ p ∧ p ≤ 200) {Q : Int → Prop} (h : Q (if p < l then f p else -1)) : wX4_here o le Q := by
  refine ⟨by omega, by omega, fun c => ?_, fun c => ⟨by omega, ?_⟩⟩
  · rw [if_neg (by omega)] at h; exact h
  · rw [if_pos (by omega)] at h
    rw [h11, hf p (by omega) (by omega)]
    exact h
def tS (o f : AR) (c p k : Int) (z z' : AR) : Prop := z 11 = p + 1 + k ∧ (∀ j : Int, ¬ j = 11 → z j = o j) ∧ ∀ j : Int, 0 ≤ j → j < k → z' j = tNum c (f (p + 1 + j)) j
theorem s4_dig {o le f : AR} {l c b p T : Int} {Q : Int → AR → AR → Prop} {R : AR → AR → Prop} {z z' : AR} (hl : 0 ≤ l ∧ l ≤ 96) (h8 : o 8 = l) (hf : ∀ j : Int, 0 ≤ j → j < l → le j = f j) (hv : ∀ j : Int, 0 ≤ j → j < l → 0 ≤ f j ∧ f j ≤ 255) (hp : 0 ≤ p ∧ p ≤ 96) (H0 : ∀ w w' : AR, (∀ j : Int, ¬ j = 11 → w j = o j) → ¬ T = -9 → w 11 = T → Q 0 w w') (k k1 : Int) (n : Nat) (hk : 0 ≤ k ∧ k < 4) (e1 : k1 = k + 1) (hkb : k1 ≤ b) (hq : ¬ (c = 113 ∧ k = 0)) (hS : tS o f c p k z z') (hT : ∀ i : Int, i = k + 1 → T = tBadF f l c b p (n + 1) i) (G : ∀ w w' : AR, tS o f c p k1 w w' → (∀ i : Int, i = k1 + 1 → T = tBadF f l c b p n i) → R w w') : wX4_readsDigit z le z' k (fun u w w' => (u = 0 → wX4_readsStatement_186 le Q 0 w w') ∧ (¬ u = 0 → R w w')) := by
  obtain ⟨e11, hz, hn⟩ := hS
  have z8 : z 8 = l := by rw [hz 8 (by decide)]; exact h8
  have hT := hT (k + 1) rfl
  have hT : T = if p + (k + 1) < l ∧ tFit c (k + 1) b (f (p + (k + 1))) = 1 then tBadF f l c b p n (k + 1 + 1) else p + (k + 1) := hT
  rw [tFit_dig (show k + 1 ≤ b by omega) (by omega), show p + (k + 1) = p + 1 + k by omega] at hT
  refine s4_here hl z8 hf e11 (by omega) ?_
  by_cases d : p + 1 + k < l
  · have hs := hv (p + 1 + k) (by omega) d
    rw [if_pos d]
    by_cases a : 48 ≤ f (p + 1 + k) ∧ f (p + 1 + k) ≤ 57
    · rw [if_pos a, if_pos ⟨d, rfl⟩] at hT
      refine s4_isIn (by omega) (by omega) (by omega) a ⟨fun _ => s4_here hl z8 hf e11 (by omega) ?_, fun e => absurd e (by decide)⟩
      rw [if_pos d]
      refine ⟨by omega, fun w' ew' w ew => ⟨fun e => absurd e (by decide), fun _ => ?_⟩⟩
      subst ew ew'
      refine G _ _ ⟨by rw [su_at]; omega, fun j hj => by rw [su_ne _ _ hj]; exact hz j hj, fun j j0 j1 => ?_⟩ (fun i ei => by rw [hT, ei, e1])
      by_cases e : j = k
      · subst e
        rw [su_at]
        unfold tNum
        rw [if_neg (by omega)]
      · rw [su_ne _ _ e]
        exact hn j j0 (by omega)
    · rw [if_neg a, if_neg (by omega)] at hT
      exact s4_isInN (by omega) (by omega) (by omega) a ⟨fun e => absurd rfl e, fun _ => ⟨fun _ => ⟨by omega, fun _ => H0 z z' hz (by omega) (by omega), fun e => absurd rfl e⟩, fun e => absurd rfl e⟩⟩
  · rw [if_neg d]
    rw [if_neg (by omega)] at hT
    exact s4_isInN (by omega) (by omega) (by omega) (by omega) ⟨fun e => absurd rfl e, fun _ => ⟨fun _ => ⟨by omega, fun _ => H0 z z' hz (by omega) (by omega), fun e => absurd rfl e⟩, fun e => absurd rfl e⟩⟩
theorem s4_kindBy {s : Int} (hs : gR s) {Q : Int → Prop} (h : ∀ v : Int, v = kOf s ∨ (v = -9 ∧ kOf s = -1) → Q v) : wX4_kindBy s Q := by
  refine ⟨hs, fun e => h _ (Or.inl ?_), fun e => h _ (Or.inl ?_), fun e => h _ (Or.inr ⟨rfl, ?_⟩), fun e => h _ (Or.inr ⟨rfl, ?_⟩), fun e => h _ (Or.inl ?_), fun e => h _ (Or.inr ⟨rfl, ?_⟩), fun e => h _ (Or.inr ⟨rfl, ?_⟩), fun e => h _ (Or.inr ⟨rfl, ?_⟩), fun e => h _ (Or.inr ⟨rfl, ?_⟩), fun e => h _ (Or.inl ?_), fun e => h _ (Or.inl ?_), fun e => h _ (Or.inl ?_), fun e => h _ (Or.inr ⟨rfl, ?_⟩)⟩
  · rw [e]; rfl
  · rw [e]; rfl
  · rw [e]; rfl
  · rw [e]; rfl
  · rw [e]; rfl
  · rw [e]; rfl
  · rw [e]; rfl
  · rw [e]; rfl
  · rw [e]; rfl
  · rw [e]; rfl
  · rw [e]; rfl
  · rw [e]; rfl
  · unfold kOf
    rw [if_neg (by omega), if_neg (by omega), if_neg (by omega), if_neg (by omega), if_neg (by omega), if_neg (by omega)]
theorem s4_kind {o le f : AR} {l p T : Int} {Q : Int → AR → AR → Prop} {R : AR → AR → Prop} {z z' : AR} (hl : 0 ≤ l ∧ l ≤ 96) (h8 : o 8 = l) (hf : ∀ j : Int, 0 ≤ j → j < l → le j = f j) (hv : ∀ j : Int, 0 ≤ j → j < l → 0 ≤ f j ∧ f j ≤ 255) (hp : 0 ≤ p ∧ p ≤ 96) (H0 : ∀ w w' : AR, (∀ j : Int, ¬ j = 11 → w j = o j) → ¬ T = -9 → w 11 = T → Q 0 w w') (n : Nat) (hS : tS o f 113 p 0 z z') (hT : ∀ i : Int, i = 0 + 1 → T = tBadF f l 113 4 p (n + 1) i) (G : ∀ w w' : AR, tS o f 113 p 1 w w' → (∀ i : Int, i = 1 + 1 → T = tBadF f l 113 4 p n i) → R w w') : wX4_readsKind z le z' (fun u w w' => (u = 0 → wX4_readsStatement_186 le Q 0 w w') ∧ (¬ u = 0 → R w w')) := by
  obtain ⟨e11, hz, hn⟩ := hS
  have z8 : z 8 = l := by rw [hz 8 (by decide)]; exact h8
  have hT := hT 1 (by omega)
  have hT : T = if p + 1 < l ∧ tFit 113 1 4 (f (p + 1)) = 1 then tBadF f l 113 4 p n (1 + 1) else p + 1 := hT
  rw [tFit_kind (by omega)] at hT
  have e11 : z 11 = p + 1 := by omega
  refine s4_here hl z8 hf e11 (by omega) ?_
  have hs : gR (if p + 1 < l then f (p + 1) else -1) := by
    by_cases d : p + 1 < l
    · have := hv (p + 1) (by omega) d
      rw [if_pos d]; omega
    · rw [if_neg d]; omega
  refine s4_kindBy hs (fun v hkv w' ew' => ?_)
  have w0 : w' 0 = v := by rw [ew', su_at]
  have hkr := kOf_range (if p + 1 < l then f (p + 1) else -1)
  refine ⟨by omega, fun c => ?_, fun c => ?_⟩
  · intro w ew
    have d : p + 1 < l := by
      by_cases d : p + 1 < l
      · exact d
      · rw [if_neg d, show kOf (-1) = -1 from rfl] at hkv
        omega
    rw [if_pos d] at hkv
    have hk2 := kOf_range (f (p + 1))
    have a : 0 ≤ kOf (f (p + 1)) := by omega
    rw [if_pos a, if_pos ⟨d, rfl⟩] at hT
    refine ⟨by omega, fun e => by omega, fun _ => ⟨fun e => absurd e (by decide), fun _ => ?_⟩⟩
    refine G w w' ⟨by rw [ew, su_at]; omega, fun j hj => by rw [ew, su_ne _ _ hj]; exact hz j hj, fun j j0 j1 => ?_⟩ (fun i ei => by rw [hT, ei])
    have ej : j = 0 := by omega
    rw [ej, w0]
    unfold tNum
    rw [if_pos ⟨rfl, rfl⟩, Int.add_zero]
    omega
  · intro w ew
    have eT : T = p + 1 := by
      by_cases d : p + 1 < l
      · rw [if_pos d] at hkv
        rw [if_neg (show ¬ 0 ≤ kOf (f (p + 1)) by omega), if_neg (by omega)] at hT
        exact hT
      · rw [if_neg (by omega)] at hT
        exact hT
    refine ⟨by omega, fun e => ⟨fun _ => ⟨by omega, fun _ => H0 w w' (fun j hj => by rw [ew, su_ne _ _ hj]; exact hz j hj) (by omega) (by rw [ew, su_at]; omega), fun e => absurd rfl e⟩, fun e => absurd rfl e⟩, fun e => by omega⟩
theorem s4_semi {o le f : AR} {l c b p T : Int} {Q : Int → AR → AR → Prop} {z z' : AR} (hl : 0 ≤ l ∧ l ≤ 96) (h8 : o 8 = l) (hf : ∀ j : Int, 0 ≤ j → j < l → le j = f j) (hv : ∀ j : Int, 0 ≤ j → j < l → 0 ≤ f j ∧ f j ≤ 255) (hp : 0 ≤ p ∧ p ≤ 96) (H0 : ∀ w w' : AR, (∀ j : Int, ¬ j = 11 → w j = o j) → ¬ T = -9 → w 11 = T → Q 0 w w') (hb : 0 ≤ b ∧ b ≤ 4) (hS : tS o f c p b z z') (hT : ∀ i : Int, i = b + 1 → T = tBadF f l c b p 1 i) (H1 : ∀ w : AR, (∀ j : Int, ¬ j = 11 → w j = o j) → T = -9 → w 11 = p + b + 2 → Q 1 w z') : wX4_readsStatement_186 le Q 1 z z' := by
  obtain ⟨e11, hz, hn⟩ := hS
  have z8 : z 8 = l := by rw [hz 8 (by decide)]; exact h8
  have hT := hT (b + 1) rfl
  have hT : T = if p + (b + 1) < l ∧ tFit c (b + 1) b (f (p + (b + 1))) = 1 then -9 else p + (b + 1) := hT
  rw [tFit_semi, show p + (b + 1) = p + 1 + b by omega] at hT
  refine ⟨by omega, fun e => absurd e (by decide), fun _ => s4_here hl z8 hf e11 (by omega) ?_⟩
  by_cases d : p + 1 + b < l
  · have hs := hv (p + 1 + b) (by omega) d
    rw [if_pos d]
    refine ⟨by omega, fun e w ew => ?_, fun e => ?_⟩
    · rw [if_pos e, if_pos ⟨d, rfl⟩] at hT
      exact H1 w (fun j hj => by rw [ew, su_ne _ _ hj]; exact hz j hj) hT (by rw [ew, su_at]; omega)
    · rw [if_neg e, if_neg (by omega)] at hT
      exact H0 z z' hz (by omega) (by omega)
  · rw [if_neg d]
    rw [if_neg (by omega)] at hT
    exact ⟨by omega, fun e => absurd e (by decide), fun _ => H0 z z' hz (by omega) (by omega)⟩
theorem s4_reads {o le nu f : AR} {l p : Int} (hl : 0 ≤ l ∧ l ≤ 96) (h8 : o 8 = l) (hf : ∀ j : Int, 0 ≤ j → j < l → le j = f j) (hv : ∀ j : Int, 0 ≤ j → j < l → 0 ≤ f j ∧ f j ≤ 255) (h11 : o 11 = p) (hp : 0 ≤ p ∧ p ≤ 96) {Q : Int → AR → AR → Prop} (H0 : ∀ w w' : AR, (∀ j : Int, ¬ j = 11 → w j = o j) → ¬ tBad f l p = -9 → w 11 = tBad f l p → Q 0 w w') (H1 : ∀ w w' : AR, (∀ j : Int, ¬ j = 11 → w j = o j) → tBad f l p = -9 → w 11 = p + tB (tAt f l p) + 2 → (∀ j : Int, 0 ≤ j → j < tB (tAt f l p) → w' j = tNum (tAt f l p) (f (p + 1 + j)) j) → Q 1 w w') : wX4_readsStatement o le nu Q := by
  refine s4_here hl h8 hf h11 (by omega) ?_
  intro z8 e8
  have hS : ∀ c : Int, tS o f c p 0 z8 nu := fun c => ⟨by rw [e8, su_at, h11]; omega, fun j hj => by rw [e8, su_ne _ _ hj], fun j j0 j1 => by omega⟩
  have hT : tBad f l p = if tB (tAt f l p) = 0 then p else tBadF f l (tAt f l p) (tB (tAt f l p)) p (tB (tAt f l p) + 1).toNat 1 := rfl
  have ec : (tAt f l p = if p < l then f p else -1) ∨ (¬ p < l ∧ tAt f l p = 0) := by
    by_cases d : p < l
    · rw [if_pos d]; exact Or.inl (if_pos ⟨hp.1, d⟩)
    · exact Or.inr ⟨d, if_neg (by omega)⟩
  have hr : gR (if p < l then f p else -1) := by
    by_cases d : p < l
    · have := hv p (by omega) d
      rw [if_pos d]; omega
    · rw [if_neg d]; omega
  have big : ∀ c : Int, 0 ≤ c → (if p < l then f p else -1) = c → tAt f l p = c := fun c hc e => by
    rcases ec with h | h
    · rw [h, e]
    · rw [if_neg h.1] at e; omega
  have nul : tB (tAt f l p) = 0 → tBad f l p = p := fun e => by rw [hT, if_pos e]
  obtain ⟨s, es⟩ : ∃ s : Int, s = if p < l then f p else -1 := ⟨_, rfl⟩
  rw [← es] at ec hr big
  rw [← es]
  refine ⟨hr, fun e => ?_, fun e => ?_, fun e => ?_, fun e => ?_, fun e => ?_, fun e => ?_, fun e z9 e9 => ?_⟩
  · have e := big 97 (by omega) e
    have hT : ∀ i : Int, i = 0 + 1 → tBad f l p = tBadF f l 97 2 p (2 + 1) i := fun i ei => by
      rw [show i = 1 by omega, hT, e]
      rfl
    rw [e] at H1
    have H1 : ∀ w w' : AR, (∀ j : Int, ¬ j = 11 → w j = o j) → tBad f l p = -9 → w 11 = p + 2 + 2 → (∀ j : Int, 0 ≤ j → j < 2 → w' j = tNum 97 (f (p + 1 + j)) j) → Q 1 w w' := H1
    have hS := hS 97
    exact s4_dig hl h8 hf hv hp H0 0 1 2 (by omega) (by omega) (by omega) (by omega) hS hT (fun w w' hS hT => s4_dig hl h8 hf hv hp H0 1 2 1 (by omega) (by omega) (by omega) (by omega) hS hT (fun w w' hS hT => s4_semi hl h8 hf hv hp H0 (by omega) hS hT (fun w2 ho hT2 hw => H1 w2 _ ho hT2 hw hS.2.2)))
  · have e := big 100 (by omega) e
    have hT : ∀ i : Int, i = 0 + 1 → tBad f l p = tBadF f l 100 2 p (2 + 1) i := fun i ei => by
      rw [show i = 1 by omega, hT, e]
      rfl
    rw [e] at H1
    have H1 : ∀ w w' : AR, (∀ j : Int, ¬ j = 11 → w j = o j) → tBad f l p = -9 → w 11 = p + 2 + 2 → (∀ j : Int, 0 ≤ j → j < 2 → w' j = tNum 100 (f (p + 1 + j)) j) → Q 1 w w' := H1
    have hS := hS 100
    exact s4_dig hl h8 hf hv hp H0 0 1 2 (by omega) (by omega) (by omega) (by omega) hS hT (fun w w' hS hT => s4_dig hl h8 hf hv hp H0 1 2 1 (by omega) (by omega) (by omega) (by omega) hS hT (fun w w' hS hT => s4_semi hl h8 hf hv hp H0 (by omega) hS hT (fun w2 ho hT2 hw => H1 w2 _ ho hT2 hw hS.2.2)))
  · have e := big 103 (by omega) e
    have hT : ∀ i : Int, i = 0 + 1 → tBad f l p = tBadF f l 103 3 p (3 + 1) i := fun i ei => by
      rw [show i = 1 by omega, hT, e]
      rfl
    rw [e] at H1
    have H1 : ∀ w w' : AR, (∀ j : Int, ¬ j = 11 → w j = o j) → tBad f l p = -9 → w 11 = p + 3 + 2 → (∀ j : Int, 0 ≤ j → j < 3 → w' j = tNum 103 (f (p + 1 + j)) j) → Q 1 w w' := H1
    have hS := hS 103
    exact s4_dig hl h8 hf hv hp H0 0 1 3 (by omega) (by omega) (by omega) (by omega) hS hT (fun w w' hS hT => s4_dig hl h8 hf hv hp H0 1 2 2 (by omega) (by omega) (by omega) (by omega) hS hT (fun w w' hS hT => s4_dig hl h8 hf hv hp H0 2 3 1 (by omega) (by omega) (by omega) (by omega) hS hT (fun w w' hS hT => s4_semi hl h8 hf hv hp H0 (by omega) hS hT (fun w2 ho hT2 hw => H1 w2 _ ho hT2 hw hS.2.2))))
  · have e := big 109 (by omega) e
    have hT : ∀ i : Int, i = 0 + 1 → tBad f l p = tBadF f l 109 2 p (2 + 1) i := fun i ei => by
      rw [show i = 1 by omega, hT, e]
      rfl
    rw [e] at H1
    have H1 : ∀ w w' : AR, (∀ j : Int, ¬ j = 11 → w j = o j) → tBad f l p = -9 → w 11 = p + 2 + 2 → (∀ j : Int, 0 ≤ j → j < 2 → w' j = tNum 109 (f (p + 1 + j)) j) → Q 1 w w' := H1
    have hS := hS 109
    exact s4_dig hl h8 hf hv hp H0 0 1 2 (by omega) (by omega) (by omega) (by omega) hS hT (fun w w' hS hT => s4_dig hl h8 hf hv hp H0 1 2 1 (by omega) (by omega) (by omega) (by omega) hS hT (fun w w' hS hT => s4_semi hl h8 hf hv hp H0 (by omega) hS hT (fun w2 ho hT2 hw => H1 w2 _ ho hT2 hw hS.2.2)))
  · have e := big 113 (by omega) e
    have hT : ∀ i : Int, i = 0 + 1 → tBad f l p = tBadF f l 113 4 p (4 + 1) i := fun i ei => by
      rw [show i = 1 by omega, hT, e]
      rfl
    rw [e] at H1
    have H1 : ∀ w w' : AR, (∀ j : Int, ¬ j = 11 → w j = o j) → tBad f l p = -9 → w 11 = p + 4 + 2 → (∀ j : Int, 0 ≤ j → j < 4 → w' j = tNum 113 (f (p + 1 + j)) j) → Q 1 w w' := H1
    have hS := hS 113
    exact s4_kind hl h8 hf hv hp H0 4 hS hT (fun w w' hS hT => s4_dig hl h8 hf hv hp H0 1 2 3 (by omega) (by omega) (by omega) (by omega) hS hT (fun w w' hS hT => s4_dig hl h8 hf hv hp H0 2 3 2 (by omega) (by omega) (by omega) (by omega) hS hT (fun w w' hS hT => s4_dig hl h8 hf hv hp H0 3 4 1 (by omega) (by omega) (by omega) (by omega) hS hT (fun w w' hS hT => s4_semi hl h8 hf hv hp H0 (by omega) hS hT (fun w2 ho hT2 hw => H1 w2 _ ho hT2 hw hS.2.2)))))
  · have e := big 119 (by omega) e
    have hT : ∀ i : Int, i = 0 + 1 → tBad f l p = tBadF f l 119 3 p (3 + 1) i := fun i ei => by
      rw [show i = 1 by omega, hT, e]
      rfl
    rw [e] at H1
    have H1 : ∀ w w' : AR, (∀ j : Int, ¬ j = 11 → w j = o j) → tBad f l p = -9 → w 11 = p + 3 + 2 → (∀ j : Int, 0 ≤ j → j < 3 → w' j = tNum 119 (f (p + 1 + j)) j) → Q 1 w w' := H1
    have hS := hS 119
    exact s4_dig hl h8 hf hv hp H0 0 1 3 (by omega) (by omega) (by omega) (by omega) hS hT (fun w w' hS hT => s4_dig hl h8 hf hv hp H0 1 2 2 (by omega) (by omega) (by omega) (by omega) hS hT (fun w w' hS hT => s4_dig hl h8 hf hv hp H0 2 3 1 (by omega) (by omega) (by omega) (by omega) hS hT (fun w w' hS hT => s4_semi hl h8 hf hv hp H0 (by omega) hS hT (fun w2 ho hT2 hw => H1 w2 _ ho hT2 hw hS.2.2))))
  · have e0 : tB (tAt f l p) = 0 := by
      rcases ec with h | h
      · rw [h]
        unfold tB
        rw [if_neg e.1, if_neg e.2.1, if_neg e.2.2.1, if_neg e.2.2.2.1, if_neg e.2.2.2.2.1, if_neg e.2.2.2.2.2]
      · rw [h.2]; rfl
    have eT := nul e0
    exact H0 z9 nu (fun j hj => by rw [e9, su_ne _ _ hj, e8, su_ne _ _ hj]) (by omega) (by rw [e9, su_at, e8, su_at]; omega)
theorem s4_end {le o ss wa fa nu : AR} {y1 y2 : Int} {Q : Int → AR → AR → AR → AR → AR → Prop} (hy : gR y2) (h2 : ¬ y2 = -9) (m : Nat) (h : Q y2 (su o 8 0) ss wa fa nu) : wX4_museum_62 le Q (m + 1) y1 y2 o ss wa fa nu := by
  rw [wX4_museum_62_s]
  refine ⟨hy, fun _ z1 e1 => ⟨hy, fun _ => ?_, fun e => absurd e h2⟩, fun e => absurd e h2⟩
  rw [e1]
  exact h
theorem s4_end9 {le o ss wa fa nu : AR} {y1 : Int} {Q : Int → AR → AR → AR → AR → AR → Prop} (h8 : gR (o 8)) (h11 : gR (o 11)) (hle : o 8 ≤ o 11) (m : Nat) (h : Q y1 (su o 8 0) ss wa fa nu) : wX4_museum_62 le Q (m + 1) y1 (-9) o ss wa fa nu := by
  rw [wX4_museum_62_s]
  refine ⟨by omega, fun e => absurd rfl e, fun _ => ⟨h11, h8, fun _ z1 e1 => ⟨by omega, fun e => absurd rfl e, fun _ => ?_⟩, fun e => absurd hle e⟩⟩
  rw [e1]
  exact h
theorem s4_form {le f ss wa fa o0 : AR} {l : Int} (hl : 0 ≤ l ∧ l ≤ 96) (h8 : o0 8 = l) (hf : ∀ j : Int, 0 ≤ j → j < l → le j = f j) (hv : ∀ j : Int, 0 ≤ j → j < l → 0 ≤ f j ∧ f j ≤ 255) {Q : Int → AR → AR → AR → AR → AR → Prop} : ∀ (n : Nat) (p y : Int) (o nu : AR), 0 ≤ p → p ≤ 96 → l - p < n → 1 ≤ n → o 11 = p → (∀ j : Int, ¬ j = 11 → o j = o0 j) →
    (tForm f l n p = -9 → ∀ o' z nu' : AR, (∀ j : Int, ¬ j = 11 → o' j = o0 j) → o' 11 = 0 → (∀ i : Int, 0 ≤ i → i < 147 → z i = ss i) → ∃ k, wX4_museum_62 le Q k (y + tCnt f l n p) (-9) o' ss z fa nu') →
    (¬ tForm f l n p = -9 → ∀ (o' z nu' : AR) (c : Int), (∀ j : Int, ¬ j = 11 → o' j = o0 j) → ∃ k, wX4_museum_62 le Q k c ((-1000) - tForm f l n p) o' ss z fa nu') → wX4_museum_10 le Q n y (-9) o ss wa fa nu := by
  intro n
  induction n with
  | zero => intro p y o nu _ _ _ h; exact absurd h (by decide)
  | succ n ih =>
    intro p y o nu p0 p1 hn _ h11 ho hok hbad
    rw [wX4_museum_10_s]
    have hs := tBad_spec (f := f) (l := l) p0
    have hb := tB_range (tAt f l p)
    have eF : tForm f l (n + 1) p = if tBad f l p = -9 then (if p + (tB (tAt f l p) + 2) < l then tForm f l n (p + (tB (tAt f l p) + 2)) else -9) else tBad f l p := rfl
    have eC : tCnt f l (n + 1) p = if p < l then tCnt f l n (p + (tB (tAt f l p) + 2)) + 1 else 0 := rfl
    have o8 : o 8 = l := by rw [ho 8 (by decide)]; exact h8
    refine s4_reads hl o8 hf hv h11 ⟨p0, p1⟩ (fun w w' hw hT w11 => ?_) (fun w w' hw hT w11 _ => ?_)
    · refine ⟨fun e => absurd rfl e, fun _ v ev v20 e20 => ⟨by omega, fun _ => s4_lays (fun z hz z24 e24 => ?_), fun e => by omega⟩⟩
      subst ev
      rw [if_neg hT] at eF
      rw [w11, ← eF]
      exact hbad (by omega) z24 z w' v20 (fun j hj => by rw [e24, su_ne _ _ hj, hw j hj]; exact ho j hj)
    · have w8 : w 8 = l := by rw [hw 8 (by decide)]; exact o8
      rw [if_pos hT] at eF
      have pl : p < l := by
        rcases hs with h | h
        · have := (h.2.2 1 (by omega) (by omega)).1
          omega
        · omega
      rw [if_pos pl] at eC
      refine ⟨fun _ v20 e20 => ⟨by omega, fun e => absurd rfl e, fun _ => ⟨by omega, by omega, fun d => ?_, fun d => s4_lays (fun z hz z30 e30 => ?_)⟩⟩, fun e => absurd e (by decide)⟩
      · subst e20
        have d2 : p + (tB (tAt f l p) + 2) < l := by omega
        rw [if_pos d2] at eF
        rw [eF] at hok hbad
        rw [eC] at hok
        refine ih (p + (tB (tAt f l p) + 2)) (y + 1) w w' (by omega) (by omega) (by omega) (by omega) (by omega) (fun j hj => by rw [hw j hj]; exact ho j hj) (fun e o' z nu' q1 q2 q3 => ?_) (fun e => hbad e)
        have h := hok e o' z nu' q1 q2 q3
        rw [show y + 1 + tCnt f l n (p + (tB (tAt f l p) + 2)) = y + (tCnt f l n (p + (tB (tAt f l p) + 2)) + 1) by omega]
        exact h
      · subst e20
        rw [if_neg (by omega)] at eF
        rw [tCnt_end (f := f) (l := l) (p := p + (tB (tAt f l p) + 2)) (by omega) n] at eC
        have h := hok eF z30 z w' (fun j hj => by rw [e30, su_ne _ _ hj, hw j hj]; exact ho j hj) (by rw [e30, su_at]) hz
        rw [eC, show y + (0 + 1) = y + 1 by omega] at h
        exact h
