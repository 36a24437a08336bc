/-! bits of a row of doors -/
theorem pw2 {b : Int} (b0 : 0 ≤ b) (b1 : b < 7) : 1 ≤ (1 : Int) * 2 ^ b.toNat ∧ (1 : Int) * 2 ^ b.toNat ≤ 64 := by
  rcases (show b = 0 ∨ b = 1 ∨ b = 2 ∨ b = 3 ∨ b = 4 ∨ b = 5 ∨ b = 6 by omega) with rfl | rfl | rfl | rfl | rfl | rfl | rfl <;> decide
theorem pw2n (b : Nat) : ((1 : Int) * 2 ^ b).toNat = 2 ^ b := by
  rw [Int.one_mul, show ((2 : Int) ^ b) = (((2 ^ b : Nat)) : Int) from (Int.natCast_pow 2 b).symm, Int.toNat_natCast]
theorem natBit (n c : Nat) : ((n : Int) / 2 ^ c) % (1 + 1) = (((n / 2 ^ c) % 2 : Nat) : Int) := by
  rw [show ((2 : Int) ^ c) = (((2 ^ c : Nat)) : Int) from (Int.natCast_pow 2 c).symm]; rfl
theorem gxor_bit {x : Int} (hx : 0 ≤ x) (b c : Nat) : (gxor x (1 * 2 ^ b) / 2 ^ c) % (1 + 1) = if b = c then 1 - (x / 2 ^ c) % (1 + 1) else (x / 2 ^ c) % (1 + 1) := by
  obtain ⟨n, rfl⟩ := Int.eq_ofNat_of_zero_le hx
  unfold gxor
  rw [pw2n, Int.toNat_natCast, natBit, natBit, ← Nat.toNat_testBit, ← Nat.toNat_testBit, Nat.testBit_xor, Nat.testBit_two_pow]
  by_cases e : b = c
  · rw [if_pos e, decide_eq_true e]
    cases n.testBit c <;> rfl
  · rw [if_neg e, decide_eq_false e]
    cases n.testBit c <;> rfl
theorem gxor_small {x : Int} (hx : 0 ≤ x ∧ x ≤ 127) {b : Int} (b0 : 0 ≤ b) (b1 : b < 7) : 0 ≤ gxor x (1 * 2 ^ b.toNat) ∧ gxor x (1 * 2 ^ b.toNat) ≤ 127 := by
  have h := pw2 b0 b1
  have h2 : x.toNat ^^^ ((1 : Int) * 2 ^ b.toNat).toNat < 2 ^ 7 := Nat.xor_lt_two_pow (by omega) (by omega)
  have h3 : gxor x (1 * 2 ^ b.toNat) = ((x.toNat ^^^ ((1 : Int) * 2 ^ b.toNat).toNat : Nat) : Int) := rfl
  omega
theorem wfO_of {M : MS} (hw : wf M) : wfO (M 2) := fun a b a0 a1 b0 b1 => ⟨(hw.r.1 a b a0 a1 b0 b1).1, (hw.r.1 a b a0 a1 b0 b1).2.1, (hw.r.1 a b a0 a1 b0 b1).2.2.1⟩
theorem su2_at (op : AR) {a b : Int} (ha : 0 ≤ a ∧ a < 7) (hb : 0 ≤ b ∧ b < 7) (t : Int) {c d : Int} (hc : 0 ≤ c ∧ c < 7) (hd : 0 ≤ d ∧ d < 7) : su (su op ((a * 7) + b) t) ((b * 7) + a) t (c * 7 + d) = if (c = a ∧ d = b) ∨ (c = b ∧ d = a) then t else op (c * 7 + d) := by
  by_cases e1 : c = b ∧ d = a
  · rw [e1.1, e1.2, su_at, if_pos (Or.inr ⟨rfl, rfl⟩)]
  · rw [su_ne _ _ (by omega)]
    by_cases e2 : c = a ∧ d = b
    · rw [e2.1, e2.2, su_at, if_pos (Or.inl ⟨rfl, rfl⟩)]
    · rw [su_ne _ _ (by omega), if_neg (by omega)]
theorem wfO_set {op : AR} (h : wfO op) {a b : Int} (ha : 0 ≤ a ∧ a < 7) (hb : 0 ≤ b ∧ b < 7) (hab : ¬ a = b) {t : Int} (ht : t = 0 ∨ t = 1) : wfO (su (su op ((a * 7) + b) t) ((b * 7) + a) t) := by
  intro c d c0 c1 d0 d1
  have k := h c d c0 c1 d0 d1
  rw [su2_at op ha hb t ⟨c0, c1⟩ ⟨d0, d1⟩, su2_at op ha hb t ⟨d0, d1⟩ ⟨c0, c1⟩, su2_at op ha hb t ⟨c0, c1⟩ ⟨c0, c1⟩, if_neg (show ¬ ((c = a ∧ c = b) ∨ (c = b ∧ c = a)) by omega)]
  by_cases e : (c = a ∧ d = b) ∨ (c = b ∧ d = a)
  · rw [if_pos e, if_pos (by omega)]; exact ⟨ht, rfl, k.2.2⟩
  · rw [if_neg e, if_neg (by omega)]; exact k
theorem wf_doors {M : MS} (hw : wf M) {op fa : AR} (h : wfR op fa) : wf (uc (uc M 2 op) 3 fa) := ⟨hw.1, hw.2.1, hw.2.2.1, hw.2.2.2.1, hw.2.2.2.2.1, hw.2.2.2.2.2.1, h⟩
theorem Rep.doors {M : MS} {r r' : AR} (hw : wf M) (h : Rep M r) {op : AR} (fa : AR) (hd : ∀ a b : Int, 0 ≤ a → a < 7 → 0 ≤ b → b < 7 → (0 ≤ r' (3 + a) ∧ r' (3 + a) ≤ 127) ∧ (r' (3 + a) / 2 ^ b.toNat) % (1 + 1) = op (a * 7 + b)) (e : ∀ i : Int, 0 ≤ i → i < 107 → ¬ (3 ≤ i ∧ i < 10) → r' i = r i) : Rep (uc (uc M 2 op) 3 fa) r' := by
  have hq := hw.qs
  have hg := hw.gs
  refine ⟨?_, ?_, ?_, hd, fun q q0 q1 => ?_, fun g g0 g1 => ?_, fun g q g0 g1 q0 q1 => ?_⟩
  · rw [e _ (by omega) (by omega) (by omega)]; exact h.1
  · rw [e _ (by omega) (by omega) (by omega)]; exact h.2.1
  · rw [e _ (by omega) (by omega) (by omega)]; exact h.2.2.1
  · have q1 : q < M 0 2 := q1
    rw [e _ (by omega) (by omega) (by omega), e _ (by omega) (by omega) (by omega), e _ (by omega) (by omega) (by omega), e _ (by omega) (by omega) (by omega)]; exact h.q q0 q1
  · have g1 : g < M 0 7 := g1
    rw [e _ (by omega) (by omega) (by omega), e _ (by omega) (by omega) (by omega), e _ (by omega) (by omega) (by omega), e _ (by omega) (by omega) (by omega), e _ (by omega) (by omega) (by omega)]; exact h.g g0 g1
  · have g1 : g < M 0 7 := g1
    have q1 : q < M 0 2 := q1
    rw [e _ (by omega) (by omega) (by omega)]; exact h.s g0 g1 q0 q1
theorem Rep.turned {M : MS} {r : AR} (hw : wf M) (h : Rep M r) {a b : Int} (ha : 0 ≤ a ∧ a < 7) (hb : 0 ≤ b ∧ b < 7) (hab : ¬ a = b) {t : Int} (ht : t = 1 - M 2 (a * 7 + b)) (fa : AR) : Rep (uc (uc M 2 (su (su (M 2) ((a * 7) + b) t) ((b * 7) + a) t)) 3 fa) (su (su r (3 + a) (gxor (r (3 + a)) ((1 : Int) * 2 ^ b.toNat))) (3 + b) (gxor (r (3 + b)) ((1 : Int) * 2 ^ a.toNat))) := by
  refine h.doors hw fa (fun c d c0 c1 d0 d1 => ?_) (fun i i0 i1 i2 => by rw [su_ne _ _ (by omega), su_ne _ _ (by omega)])
  have hs := (wfO_of hw a b ha.1 ha.2 hb.1 hb.2).2.1
  have k := h.d c0 c1 d0 d1
  rw [su2_at _ ha hb t ⟨c0, c1⟩ ⟨d0, d1⟩]
  by_cases e1 : c = b
  · subst e1
    rw [su_at]
    refine ⟨gxor_small k.1 ha.1 ha.2, ?_⟩
    rw [gxor_bit k.1.1]
    by_cases e2 : d = a
    · subst e2
      rw [if_pos rfl, if_pos (Or.inr ⟨rfl, rfl⟩), k.2, hs, ht]
    · rw [if_neg (by omega), if_neg (by omega), k.2]
  · rw [su_ne _ _ (by omega)]
    by_cases e3 : c = a
    · subst e3
      rw [su_at]
      refine ⟨gxor_small k.1 hb.1 hb.2, ?_⟩
      rw [gxor_bit k.1.1]
      by_cases e2 : d = b
      · subst e2
        rw [if_pos rfl, if_pos (Or.inl ⟨rfl, rfl⟩), k.2, ht]
      · rw [if_neg (by omega), if_neg (by omega), k.2]
    · rw [su_ne _ _ (by omega), if_neg (by omega)]
      exact k
theorem s4_turnsDoor {M : MS} {r : AR} (hR : Rep M r) {a b : Int} (ha : 0 ≤ a ∧ a < 7) (hb : 0 ≤ b ∧ b < 7) (hab : ¬ a = b) {Q : AR → Prop} (h : Q (su (su r (3 + a) (gxor (r (3 + a)) ((1 : Int) * 2 ^ b.toNat))) (3 + b) (gxor (r (3 + b)) ((1 : Int) * 2 ^ a.toNat)))) : wX4_turnsDoor r a b Q := by
  have p1 := pw2 ha.1 ha.2
  have p2 := pw2 hb.1 hb.2
  have d1 := hR.d ha.1 ha.2 hb.1 hb.2
  have d2 := hR.d hb.1 hb.2 ha.1 ha.2
  have e : (su r (3 + a) (gxor (r (3 + a)) ((1 : Int) * 2 ^ b.toNat))) (3 + b) = r (3 + b) := su_ne _ _ (by omega)
  refine ⟨by omega, by omega, by omega, by omega, fun z5 e5 => ?_⟩
  subst e5
  rw [e]
  refine ⟨by omega, by omega, by omega, by omega, fun z10 e10 => ?_⟩
  subst e10
  exact h
theorem s2_turn {M : MS} (hw : wf M) {a b : Int} (ha : 0 ≤ a ∧ a < 7) (hb : 0 ≤ b ∧ b < 7) (hab : ¬ a = b) {Q : AR → AR → Prop} (h : ∀ fa : AR, wfR (su (su (M 2) ((a * 7) + b) (1 - M 2 (a * 7 + b))) ((b * 7) + a) (1 - M 2 (a * 7 + b))) fa → Q (su (su (M 2) ((a * 7) + b) (1 - M 2 (a * 7 + b))) ((b * 7) + a) (1 - M 2 (a * 7 + b))) fa) : wX2_turn (M 2) (M 3) a b Q := by
  have h1 := (wfO_of hw a b ha.1 ha.2 hb.1 hb.2).1
  refine ⟨by omega, by omega, fun c => ⟨fun _ => ⟨by omega, fun z2 e2 => ⟨by omega, fun z4 e4 => ?_⟩⟩, fun z => absurd rfl z⟩, fun c => ⟨fun z => absurd z (by decide), fun _ => ⟨by omega, fun z2 e2 => ⟨by omega, fun z4 e4 => ?_⟩⟩⟩⟩
  · subst e2 e4
    rw [show (1 : Int) - M 2 (a * 7 + b) = 1 by omega] at h
    exact s2_measure (wfO_set (wfO_of hw) ha hb hab (Or.inr rfl)) (fun z hz => h z hz)
  · subst e2 e4
    rw [show (1 : Int) - M 2 (a * 7 + b) = 0 by omega] at h
    exact s2_measure (wfO_set (wfO_of hw) ha hb hab (Or.inl rfl)) (fun z hz => h z hz)
theorem op_opens {o : AR} {rw : AR} {rf : AR} {lg : AR} {sg : AR} {N : MS} {T : MS} {K : MS} {I : MS} {o2 : AR} {ss : AR} {mm : AR} {im : AR} {wa : AR} {le : AR} {ro : AR} {re : AR} {fa : AR} {nu : AR} (hI : gInv o rw rf lg sg N T K I o2 ss mm im wa le ro re fa nu) (x1 x2 : Int) (hx1 : gR x1) (hx2 : gR x2): wX3_opens rf N x1 x2 (fun (r : Int) (rf1 : AR) (N1 : MS) => wX4_opens ss re x1 x2 (fun (r2 : Int) (ss1 : AR) (re1 : AR) => r = r2 ∧ gInv o rw rf1 lg sg N1 T K I o2 ss1 mm im wa le ro re1 fa nu)) := by
  obtain ⟨hN, hIm, hRo, hLe, hRe⟩ := hI
  obtain ⟨hw, ht, hR⟩ := hN
  by_cases c1 : 0 ≤ x1 ∧ x1 < 7
  · refine s3_room c1 ⟨fun z => absurd rfl z, fun _ => ?_⟩
    by_cases c2 : 0 ≤ x2 ∧ x2 < 7
    · refine s3_room c2 ⟨fun z => absurd rfl z, fun _ => ⟨hx1, hx2, fun c3 => ?_, fun c3 => s3_refuse (by omega) (s4_room c1 ⟨fun z => absurd z (by decide), fun _ => s4_room c2 ⟨fun z => absurd z (by decide), fun _ => ⟨hx1, hx2, fun z => absurd c3 z, fun _ => s4_no (by omega) ⟨rfl, ⟨hw, ht, hR⟩, hIm, hRo, hLe, hRe.no _⟩⟩⟩⟩)⟩⟩
      have h1 := (wfO_of hw x1 x2 c1.1 c1.2 c2.1 c2.2).1
      refine s2_turn hw c1 c2 c3 (fun f hf z14 e14 => ?_)
      subst e14
      have h2 := hR.turned hw c1 c2 c3 rfl f
      have h3 := h2.d c1.1 c1.2 c2.1 c2.2
      have h5 := su2_at (N 2) c1 c2 (1 - N 2 (x1 * 7 + x2)) c1 c2
      rw [if_pos (Or.inl ⟨rfl, rfl⟩)] at h5
      have h6 : uc (uc N 2 (su (su (N 2) ((x1 * 7) + x2) (1 - N 2 (x1 * 7 + x2))) ((x2 * 7) + x1) (1 - N 2 (x1 * 7 + x2)))) 3 f 2 (x1 * 7 + x2) = 1 - N 2 (x1 * 7 + x2) := h5
      rw [h6] at h3
      have fin : ∀ v : Int, v = 1 - N 2 (x1 * 7 + x2) → wX4_opens ss re x1 x2 (fun (r2 : Int) (ss1 : AR) (re1 : AR) => v = r2 ∧ gInv o rw rf lg sg (uc (uc N 2 (su (su (N 2) ((x1 * 7) + x2) (1 - N 2 (x1 * 7 + x2))) ((x2 * 7) + x1) (1 - N 2 (x1 * 7 + x2)))) 3 f) T K I o2 ss1 mm im wa le ro re1 fa nu) := fun v ev => s4_room c1 ⟨fun z => absurd z (by decide), fun _ => s4_room c2 ⟨fun z => absurd z (by decide), fun _ => ⟨hx1, hx2, fun _ => s4_turnsDoor hR c1 c2 c3 ⟨by omega, by omega, by omega, by rw [ev]; exact h3.2.symm, ⟨wf_doors hw hf, ht, h2⟩, hIm, hRo, hLe, hRe⟩, fun z => absurd z c3⟩⟩⟩
      refine ⟨by omega, by rw [h6]; omega, fun c4 => ⟨fun _ => fin 0 (by rw [h6] at c4; omega), fun z => absurd rfl z⟩, fun c4 => ⟨fun z => absurd z (by decide), fun _ => fin 1 (by rw [h6] at c4; omega)⟩⟩
    · exact s3_roomN hx2 c2 ⟨fun _ => s3_refuse (by omega) (s4_room c1 ⟨fun z => absurd z (by decide), fun _ => s4_roomN hx2 c2 ⟨fun _ => s4_no (by omega) ⟨rfl, ⟨hw, ht, hR⟩, hIm, hRo, hLe, hRe.no _⟩, fun z => absurd rfl z⟩⟩), fun z => absurd z (by decide)⟩
  · exact s3_roomN hx1 c1 ⟨fun _ => s3_refuse (by omega) (s4_roomN hx1 c1 ⟨fun _ => s4_no (by omega) ⟨rfl, ⟨hw, ht, hR⟩, hIm, hRo, hLe, hRe.no _⟩, fun z => absurd rfl z⟩), fun z => absurd z (by decide)⟩
/-! the doors, counted -/
theorem doors49 {op : AR} (h : wfO op) : sumI (fun a => sumI (fun d => op (a * 7 + (a + 1 + d))) (6 - a).toNat) 7 = sumI op 49 / 2 := by
  have d0 : op 0 = 0 := (h 0 0 (by decide) (by decide) (by decide) (by decide)).2.2
  have y01 : op 7 = op 1 := (h 0 1 (by decide) (by decide) (by decide) (by decide)).2.1
  have y02 : op 14 = op 2 := (h 0 2 (by decide) (by decide) (by decide) (by decide)).2.1
  have y03 : op 21 = op 3 := (h 0 3 (by decide) (by decide) (by decide) (by decide)).2.1
  have y04 : op 28 = op 4 := (h 0 4 (by decide) (by decide) (by decide) (by decide)).2.1
  have y05 : op 35 = op 5 := (h 0 5 (by decide) (by decide) (by decide) (by decide)).2.1
  have y06 : op 42 = op 6 := (h 0 6 (by decide) (by decide) (by decide) (by decide)).2.1
  have d1 : op 8 = 0 := (h 1 1 (by decide) (by decide) (by decide) (by decide)).2.2
  have y12 : op 15 = op 9 := (h 1 2 (by decide) (by decide) (by decide) (by decide)).2.1
  have y13 : op 22 = op 10 := (h 1 3 (by decide) (by decide) (by decide) (by decide)).2.1
  have y14 : op 29 = op 11 := (h 1 4 (by decide) (by decide) (by decide) (by decide)).2.1
  have y15 : op 36 = op 12 := (h 1 5 (by decide) (by decide) (by decide) (by decide)).2.1
  have y16 : op 43 = op 13 := (h 1 6 (by decide) (by decide) (by decide) (by decide)).2.1
  have d2 : op 16 = 0 := (h 2 2 (by decide) (by decide) (by decide) (by decide)).2.2
  have y23 : op 23 = op 17 := (h 2 3 (by decide) (by decide) (by decide) (by decide)).2.1
  have y24 : op 30 = op 18 := (h 2 4 (by decide) (by decide) (by decide) (by decide)).2.1
  have y25 : op 37 = op 19 := (h 2 5 (by decide) (by decide) (by decide) (by decide)).2.1
  have y26 : op 44 = op 20 := (h 2 6 (by decide) (by decide) (by decide) (by decide)).2.1
  have d3 : op 24 = 0 := (h 3 3 (by decide) (by decide) (by decide) (by decide)).2.2
  have y34 : op 31 = op 25 := (h 3 4 (by decide) (by decide) (by decide) (by decide)).2.1
  have y35 : op 38 = op 26 := (h 3 5 (by decide) (by decide) (by decide) (by decide)).2.1
  have y36 : op 45 = op 27 := (h 3 6 (by decide) (by decide) (by decide) (by decide)).2.1
  have d4 : op 32 = 0 := (h 4 4 (by decide) (by decide) (by decide) (by decide)).2.2
  have y45 : op 39 = op 33 := (h 4 5 (by decide) (by decide) (by decide) (by decide)).2.1
  have y46 : op 46 = op 34 := (h 4 6 (by decide) (by decide) (by decide) (by decide)).2.1
  have d5 : op 40 = 0 := (h 5 5 (by decide) (by decide) (by decide) (by decide)).2.2
  have y56 : op 47 = op 41 := (h 5 6 (by decide) (by decide) (by decide) (by decide)).2.1
  have d6 : op 48 = 0 := (h 6 6 (by decide) (by decide) (by decide) (by decide)).2.2
  have s1 : sumI op 49 = 0 + op 0 + op 1 + op 2 + op 3 + op 4 + op 5 + op 6 + op 7 + op 8 + op 9 + op 10 + op 11 + op 12 + op 13 + op 14 + op 15 + op 16 + op 17 + op 18 + op 19 + op 20 + op 21 + op 22 + op 23 + op 24 + op 25 + op 26 + op 27 + op 28 + op 29 + op 30 + op 31 + op 32 + op 33 + op 34 + op 35 + op 36 + op 37 + op 38 + op 39 + op 40 + op 41 + op 42 + op 43 + op 44 + op 45 + op 46 + op 47 + op 48 := rfl
  have s2 : sumI (fun a => sumI (fun d => op (a * 7 + (a + 1 + d))) (6 - a).toNat) 7 = 0 + (0 + op 1 + op 2 + op 3 + op 4 + op 5 + op 6) + (0 + op 9 + op 10 + op 11 + op 12 + op 13) + (0 + op 17 + op 18 + op 19 + op 20) + (0 + op 25 + op 26 + op 27) + (0 + op 33 + op 34) + (0 + op 41) + (0) := rfl
  omega
theorem s2_doors {op : AR} (h : wfO op) {Q : Int → Prop} (hQ : Q (sumI op 49 / 2)) : wX2_doors op Q := by
  have hb : ∀ i : Int, 0 ≤ i → i < 49 → op i = 0 ∨ op i = 1 := fun i i0 i1 => by
    have h1 := (h (i / 7) (i % 7) (by omega) (by omega) (by omega) (by omega)).1
    rw [show i / 7 * 7 + i % 7 = i by omega] at h1
    exact h1
  have hs := (sum01 49 (fun i i0 i1 => hb i i0 (by omega))).1
  refine gFor (fun n i a => wX2_doors_4 op Q n a i) 49 (fun i a => a = sumI op i.toNat) (fun n i a i0 i1 hp ih => ?_) (fun n a hp => ?_) 0 ⟨by omega, by omega⟩ 0 rfl
  · rw [wX2_doors_4_s]
    refine ⟨by omega, fun c => by omega, fun c => ⟨by omega, fun v ev w ew => ?_⟩⟩
    subst ev ew
    exact ih _ (by rw [hp, sumI_s op i0])
  · rw [wX2_doors_4_s]
    have hp : a = sumI op 49 := hp
    refine ⟨by omega, fun _ => ⟨by omega, by rw [hp]; exact hQ⟩, fun c => by omega⟩
theorem s4_countDoors {M : MS} {r o re : AR} (hR : Rep M r) {Q : Int → Prop} (h : Q (sumI (fun a => sumI (fun d => M 2 (a * 7 + (a + 1 + d))) (6 - a).toNat) 7)) : ∃ k : Nat, wX4_count_88 o r re Q k 0 0 := by
  refine gFor (fun n i a => wX4_count_88 o r re Q n a i) 7 (fun i a => a = sumI (fun a => sumI (fun d => M 2 (a * 7 + (a + 1 + d))) (6 - a).toNat) i.toNat) (fun n i a i0 i1 hp ih => ?_) (fun n a hp => ?_) 0 ⟨by omega, by omega⟩ 0 rfl
  · rw [wX4_count_88_s]
    refine ⟨by omega, fun c => by omega, fun c v ev => ?_⟩
    subst ev
    refine gFor (fun n j b => wX4_count_99 o r re (wX4_count_88 o r re Q _) Q n b i j) 7 (fun j b => i + 1 ≤ j ∧ b = a + sumI (fun d => M 2 (i * 7 + (i + 1 + d))) (j - (i + 1)).toNat) (fun n j b j0 j1 hq ih2 => ?_) (fun n b hq => ?_) (i + 1) ⟨by omega, by omega⟩ a ⟨by omega, by rw [show i + 1 - (i + 1) = (0 : Int) by omega]; exact (Int.add_zero a).symm⟩
    · rw [wX4_count_99_s]
      have d := hR.d i0 i1 j0 j1
      refine ⟨by omega, fun c => by omega, fun c => ⟨by omega, by omega, by omega, fun v ev w ew => ?_⟩⟩
      subst ev ew
      refine ih2 _ ⟨by omega, ?_⟩
      rw [hq.2, d.2, show j + 1 - (i + 1) = (j - (i + 1)) + 1 by omega, sumI_s _ (by omega), show i + 1 + (j - (i + 1)) = j by omega]
      omega
    · rw [wX4_count_99_s]
      refine ⟨by omega, fun _ v ev => ?_, fun c => by omega⟩
      subst ev
      refine ih _ ?_
      rw [hq.2, sumI_s _ i0, ← hp, show (7 : Int) - (i + 1) = 6 - i by omega]
  · rw [wX4_count_88_s]
    exact ⟨by omega, fun _ => by rw [hp]; exact h, fun c => by omega⟩
theorem op_count {o : AR} {rw : AR} {rf : AR} {lg : AR} {sg : AR} {N : MS} {T : MS} {K : MS} {I : MS} {o2 : AR} {ss : AR} {mm : AR} {im : AR} {wa : AR} {le : AR} {ro : AR} {re : AR} {fa : AR} {nu : AR} (hI : gInv o rw rf lg sg N T K I o2 ss mm im wa le ro re fa nu) (x1 : Int) (hx1 : gR x1): wX3_count o rf lg N x1 (fun (r : Int) => wX4_count o2 ss re x1 (fun (r2 : Int) => r = r2 ∧ gInv o rw rf lg sg N T K I o2 ss mm im wa le ro re fa nu)) := by
  obtain ⟨hN, hIm, hRo, hLe, hRe⟩ := hI
  obtain ⟨hw, ht, hR⟩ := hN
  have hgs := hw.gs
  have g : gInv o rw rf lg sg N T K I o2 ss mm im wa le ro re fa nu := ⟨⟨hw, ht, hR⟩, hIm, hRo, hLe, hRe⟩
  have out : ∀ (Q : Int → Prop), (x1 < 11 ∨ 16 < x1) → ((gR x1) ∧ (x1 = 0 → Q (ss 0)) ∧ (x1 = 1 → Q (ss 1)) ∧ (x1 = 2 → ∃ k : Nat, wX4_count_88 o2 ss re Q k 0 0) ∧ (x1 = 3 → Q (ss 2)) ∧ (x1 = 4 → ∃ k : Nat, wX4_count_145 o2 ss re Q k 0 0) ∧ (x1 = 5 → wX4_rightAll ss (fun u30 : Int => Q u30)) ∧ (x1 = 6 → Q (o2 9)) ∧ (x1 = 7 → Q (o2 8)) ∧ (x1 < 0 ∨ 7 < x1 → Q (-9))) → wX4_count o2 ss re x1 Q := fun Q c h => s4_isInN hx1 (by omega) (by omega) (by omega) ⟨fun _ => h, fun z => absurd rfl z⟩
  refine ⟨hx1, fun c => ?_, fun c => ?_, fun c => ?_, fun c => ?_, fun c => ?_, fun c => ?_, fun c => ?_, fun c => ?_, fun c => ⟨fun c2 => ?_, fun c2 => ⟨fun c3 => ?_, fun c3 => ⟨by omega, ?_⟩⟩⟩⟩
  · exact out _ (by omega) ⟨hx1, fun _ => ⟨hR.1.symm, g⟩, fun _ => by omega, fun _ => by omega, fun _ => by omega, fun _ => by omega, fun _ => by omega, fun _ => by omega, fun _ => by omega, fun _ => by omega⟩
  · exact out _ (by omega) ⟨hx1, fun _ => by omega, fun _ => ⟨hR.2.1.symm, g⟩, fun _ => by omega, fun _ => by omega, fun _ => by omega, fun _ => by omega, fun _ => by omega, fun _ => by omega, fun _ => by omega⟩
  · exact s2_doors (wfO_of hw) (out _ (by omega) ⟨hx1, fun _ => by omega, fun _ => by omega, fun _ => s4_countDoors hR ⟨(doors49 (wfO_of hw)).symm, g⟩, fun _ => by omega, fun _ => by omega, fun _ => by omega, fun _ => by omega, fun _ => by omega, fun _ => by omega⟩)
  · exact out _ (by omega) ⟨hx1, fun _ => by omega, fun _ => by omega, fun _ => by omega, fun _ => ⟨hR.2.2.1.symm, g⟩, fun _ => by omega, fun _ => by omega, fun _ => by omega, fun _ => by omega, fun _ => by omega⟩
  · refine s1_answersOfAll hw (out _ (by omega) ⟨hx1, fun _ => by omega, fun _ => by omega, fun _ => by omega, fun _ => by omega, fun _ => ?_, fun _ => by omega, fun _ => by omega, fun _ => by omega, fun _ => by omega⟩)
    refine gFor (fun n i a => wX4_count_145 o2 ss re _ n a i) (N 0 7) (fun i a => a = sumI (mAns N) i.toNat) (fun n i a i0 i1 hp ih => ?_) (fun n a hp => ?_) 0 ⟨by omega, by omega⟩ 0 rfl
    · rw [wX4_count_145_s]
      have e1 := hR.2.1
      refine ⟨by omega, by omega, fun c => by omega, fun c => s4_answersOf hw hR i0 i1 (fun v ev w ew => ?_)⟩
      subst ev ew
      exact ih _ (by rw [hp, sumI_s _ i0])
    · rw [wX4_count_145_s]
      have e1 := hR.2.1
      exact ⟨by omega, by omega, fun _ => ⟨hp.symm, g⟩, fun c => by omega⟩
  · exact s1_rightOfAll hw (out _ (by omega) ⟨hx1, fun _ => by omega, fun _ => by omega, fun _ => by omega, fun _ => by omega, fun _ => by omega, fun _ => s4_rightAll hw hR ⟨rfl, g⟩, fun _ => by omega, fun _ => by omega, fun _ => by omega⟩)
  · exact out _ (by omega) ⟨hx1, fun _ => by omega, fun _ => by omega, fun _ => by omega, fun _ => by omega, fun _ => by omega, fun _ => by omega, fun _ => ⟨hRo.1, g⟩, fun _ => by omega, fun _ => by omega⟩
  · unfold wX0_length
    exact out _ (by omega) ⟨hx1, fun _ => by omega, fun _ => by omega, fun _ => by omega, fun _ => by omega, fun _ => by omega, fun _ => by omega, fun _ => by omega, fun _ => ⟨hLe.1, g⟩, fun _ => by omega⟩
  · exact out _ (by omega) ⟨hx1, fun _ => by omega, fun _ => by omega, fun _ => by omega, fun _ => by omega, fun _ => by omega, fun _ => by omega, fun _ => by omega, fun _ => by omega, fun _ => ⟨rfl, g⟩⟩
  · exact out _ (by omega) ⟨hx1, fun _ => by omega, fun _ => by omega, fun _ => by omega, fun _ => by omega, fun _ => by omega, fun _ => by omega, fun _ => by omega, fun _ => by omega, fun _ => ⟨rfl, g⟩⟩
  · exact s4_isIn hx1 (by omega) (by omega) (by omega) ⟨fun z => absurd z (by decide), fun _ => ⟨by omega, hRe _ (by omega) (by omega), g⟩⟩
