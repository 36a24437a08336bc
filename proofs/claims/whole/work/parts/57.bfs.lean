/-- what the reference's search holds: T's numbers up to n, else far -/
def far1 : Int := 1000000000
def bfJ (op T : AR) (n a b : Int) (z : AR) : Prop := ∀ k : Int, 0 ≤ k → k < 7 → (T k ≤ n → z k = T k) ∧ (n + 1 < T k → z k = 1000000000) ∧ (T k = n + 1 → z k = n + 1 ∨ (z k = 1000000000 ∧ ∀ a' : Int, 0 ≤ a' → a' < 7 → (a' < a ∨ (a' = a ∧ k < b)) → ¬ (T a' = n ∧ op (a' * 7 + k) = 1)))
theorem s4_doorsTo {op fa0 fa r : AR} (hr : wfR op fa0) (hd : ∀ a b : Int, 0 ≤ a → a < 7 → 0 ≤ b → b < 7 → (0 ≤ r (3 + a) ∧ r (3 + a) ≤ 127) ∧ (r (3 + a) / 2 ^ b.toNat) % (1 + 1) = op (a * 7 + b)) {t : Int} (t0 : 0 ≤ t) (t1 : t < 7) {Q : AR → Prop} (hQ : ∀ z : AR, (∀ k : Int, 0 ≤ k → k < 7 → z k = if fa0 (k * 7 + t) = 1000 then 1000000000 else fa0 (k * 7 + t)) → Q z) : wX4_doorsTo fa r t Q := by
  obtain ⟨T, hT⟩ : ∃ T : AR, T = fun k => fa0 (k * 7 + t) := ⟨_, rfl⟩
  have Te : ∀ k : Int, fa0 (k * 7 + t) = T k := fun k => by rw [hT]
  have T1 : ∀ k : Int, 0 ≤ k → k < 7 → (0 ≤ T k ∧ T k ≤ 1000) ∧ (T k ≤ 6 ∨ T k = 1000) ∧ (k = t → T k = 0) ∧ (¬ k = t → 1 ≤ T k) := fun k k0 k1 => by
    have h1 := hr.1 k t k0 k1 t0 t1
    have h2 := hr.2.2.2 k t k0 k1 t0 t1
    rw [Te] at h1 h2
    refine ⟨h1.2.2.2.1, h2, fun e => ?_, h1.2.2.2.2.2⟩
    have h3 := (hr.1 t t t0 t1 t0 t1).2.2.2.2.1
    rw [Te] at h3
    rw [e]; exact h3
  have T2 : ∀ a b : Int, 0 ≤ a → a < 7 → 0 ≤ b → b < 7 → op (a * 7 + b) = 1 → T b ≤ T a + 1 := fun a b a0 a1 b0 b1 ho => by
    have h1 := hr.2.1 b a t b0 b1 a0 a1 t0 t1 (by rw [(hr.1 a b a0 a1 b0 b1).2.1]; exact ho)
    rw [Te, Te] at h1
    exact h1
  have T3 : ∀ k : Int, 0 ≤ k → k < 7 → 0 < T k → T k < 1000 → ∃ a : Int, 0 ≤ a ∧ a < 7 ∧ op (a * 7 + k) = 1 ∧ T a = T k - 1 := fun k k0 k1 h h' => by
    have hkt : ¬ k = t := fun e => by have := (T1 k k0 k1).2.2.1 e; omega
    rcases hr.2.2.1 k t k0 k1 t0 t1 hkt with c | ⟨b, b0, b1, ho, hb⟩
    · rw [Te] at c; omega
    · rw [Te, Te] at hb
      exact ⟨b, b0, b1, by rw [(hr.1 k b k0 k1 b0 b1).2.1]; exact ho, hb⟩
  -- the innermost loop
  have l1 : ∀ (K33 : Int → AR → Prop) (K42 : Int → Int → AR → Prop) (n a : Int) (z : AR), 0 ≤ n → n < 7 → 0 ≤ a → a < 7 → bfJ op T n a 0 z → (∀ z', bfJ op T n (a + 1) 0 z' → K42 n (a + 1) z') → ∃ m : Nat, wX4_doorsTo_52 r K33 K42 Q m n a 0 z := by
    intro K33 K42 n a z n0 n1 a0 a1 hz hK
    refine gFor (fun m i z' => wX4_doorsTo_52 r K33 K42 Q m n a i z') 7 (fun i z' => bfJ op T n a i z') (fun m i z' i0 i1 hp ih => ?_) (fun m z' hp => ?_) 0 ⟨by omega, by omega⟩ z hz
    · rw [wX4_doorsTo_52_s]
      have ja := hp a a0 a1
      have ji := hp i i0 i1
      have ta := T1 a a0 a1
      have ti := T1 i i0 i1
      have dd := hd a i a0 a1 i0 i1
      have oo := (hr.1 a i a0 a1 i0 i1).1
      have tn := T2 a i a0 a1 i0 i1
      -- a step that changes nothing: the pair (a, i) gives nothing new
      have keep : (¬ (T a = n ∧ op (a * 7 + i) = 1) ∨ ¬ z' i = 1000000000) → bfJ op T n a (i + 1) z' := fun hc k k0 k1 => by
        have jk := hp k k0 k1
        refine ⟨jk.1, jk.2.1, fun e => ?_⟩
        rcases jk.2.2 e with c | ⟨c, c2⟩
        · exact Or.inl c
        · refine Or.inr ⟨c, fun a' b0 b1 hlt => ?_⟩
          by_cases c3 : a' = a ∧ k = i
          · rw [c3.1, c3.2]
            rcases hc with hc | hc
            · exact hc
            · exact absurd (by rw [← c3.2]; exact c) hc
          · exact c2 a' b0 b1 (by omega)
      have za : z' a = T a ∨ z' a = n + 1 ∨ z' a = 1000000000 := by
        by_cases c : T a ≤ n
        · exact Or.inl (ja.1 c)
        · by_cases c2 : T a = n + 1
          · rcases ja.2.2 c2 with c3 | c3
            · exact Or.inr (Or.inl c3)
            · exact Or.inr (Or.inr c3.1)
          · exact Or.inr (Or.inr (ja.2.1 (by omega)))
      have zi : z' i = T i ∨ z' i = n + 1 ∨ z' i = 1000000000 := by
        by_cases c : T i ≤ n
        · exact Or.inl (ji.1 c)
        · by_cases c2 : T i = n + 1
          · rcases ji.2.2 c2 with c3 | c3
            · exact Or.inr (Or.inl c3)
            · exact Or.inr (Or.inr c3.1)
          · exact Or.inr (Or.inr (ji.2.1 (by omega)))
      rw [dd.2]
      refine ⟨by omega, fun c => by omega, fun c => ⟨by omega, by omega, by omega, fun c2 v e => ?_, fun c2 => ⟨by omega, by omega, by omega, by omega, fun c3 v e => ?_, fun c3 => ⟨by omega, by omega, fun c4 v e => ?_, fun c4 => ⟨by omega, fun w ew v e => ?_⟩⟩⟩⟩⟩
      · subst e
        refine ih _ (keep (Or.inl (fun z => ?_)))
        exact c2 (by rw [ja.1 (by omega)]; exact z.1)
      · subst e
        exact ih _ (keep (Or.inl (fun z => c3 z.2)))
      · subst e
        exact ih _ (keep (Or.inr c4))
      · subst ew e
        have tan : T a = n := by omega
        have t2 := tn c3
        have tin : T i = n + 1 := by
          by_cases c5 : T i ≤ n
          · have := ji.1 c5; omega
          · omega
        refine ih _ (fun k k0 k1 => ?_)
        have jk := hp k k0 k1
        by_cases ck : k = i
        · subst ck
          rw [su_at]
          exact ⟨fun q => by omega, fun q => by omega, fun _ => Or.inl rfl⟩
        · rw [su_ne _ _ ck]
          refine ⟨jk.1, jk.2.1, fun e => ?_⟩
          rcases jk.2.2 e with q | ⟨q, q2⟩
          · exact Or.inl q
          · exact Or.inr ⟨q, fun a' b0 b1 hlt => q2 a' b0 b1 (by omega)⟩
    · rw [wX4_doorsTo_52_s]
      refine ⟨by omega, fun _ v e => ?_, fun c => by omega⟩
      subst e
      refine hK z' (fun k k0 k1 => ?_)
      have jk := hp k k0 k1
      refine ⟨jk.1, jk.2.1, fun e => ?_⟩
      rcases jk.2.2 e with q | ⟨q, q2⟩
      · exact Or.inl q
      · exact Or.inr ⟨q, fun a' b0 b1 hlt => q2 a' b0 b1 (by omega)⟩
  have l2 : ∀ (K33 : Int → AR → Prop) (n : Int) (z : AR), 0 ≤ n → n < 7 → bfJ op T n 0 0 z → (∀ z', bfJ op T n 7 0 z' → K33 (n + 1) z') → ∃ m : Nat, wX4_doorsTo_42 r K33 Q m n 0 z := by
    intro K33 n z n0 n1 hz hK
    refine gFor (fun m i z' => wX4_doorsTo_42 r K33 Q m n i z') 7 (fun i z' => bfJ op T n i 0 z') (fun m i z' i0 i1 hp ih => ?_) (fun m z' hp => ?_) 0 ⟨by omega, by omega⟩ z hz
    · rw [wX4_doorsTo_42_s]
      exact ⟨by omega, fun c => by omega, fun c => l1 K33 _ n i z' n0 n1 i0 i1 hp ih⟩
    · rw [wX4_doorsTo_42_s]
      refine ⟨by omega, fun _ v e => ?_, fun c => by omega⟩
      subst e
      exact hK z' hp
  have l3 : ∀ z : AR, (∀ k : Int, 0 ≤ k → k < 7 → z k = if k = t then 0 else 1000000000) → ∃ m : Nat, wX4_doorsTo_33 r Q m 0 z := by
    intro z hz
    refine gFor (fun m i z' => wX4_doorsTo_33 r Q m i z') 7 (fun i z' => ∀ k : Int, 0 ≤ k → k < 7 → (T k ≤ i → z' k = T k) ∧ (i < T k → z' k = 1000000000)) (fun m i z' i0 i1 hp ih => ?_) (fun m z' hp => ?_) 0 ⟨by omega, by omega⟩ z (fun k k0 k1 => ?_)
    · rw [wX4_doorsTo_33_s]
      refine ⟨by omega, fun c => by omega, fun c => l2 _ i z' i0 i1 (fun k k0 k1 => ?_) (fun w hw => ih w (fun k k0 k1 => ?_))⟩
      · have jk := hp k k0 k1
        exact ⟨jk.1, fun e => jk.2 (by omega), fun e => Or.inr ⟨jk.2 (by omega), fun a' b0 b1 hlt => by omega⟩⟩
      · have jk := hw k k0 k1
        refine ⟨fun e => ?_, fun e => jk.2.1 e⟩
        by_cases c2 : T k ≤ i
        · exact jk.1 c2
        · have tk : T k = i + 1 := by omega
          rcases jk.2.2 tk with q | ⟨q, q2⟩
          · omega
          · obtain ⟨a, a0, a1, ho, ha⟩ := T3 k k0 k1 (by omega) (by omega)
            exact absurd ⟨by omega, ho⟩ (q2 a a0 a1 (Or.inl a1))
    · rw [wX4_doorsTo_33_s]
      refine ⟨by omega, fun _ => hQ z' (fun k k0 k1 => ?_), fun c => by omega⟩
      have jk := hp k k0 k1
      have tk := T1 k k0 k1
      rw [Te]
      split
      · exact jk.2 (by omega)
      · exact jk.1 (by omega)
    · have h1 := hz k k0 k1
      have tk := T1 k k0 k1
      by_cases c : k = t
      · rw [if_pos c] at h1
        have := tk.2.2.1 c
        exact ⟨fun _ => by omega, fun _ => by omega⟩
      · rw [if_neg c] at h1
        have := tk.2.2.2 c
        exact ⟨fun _ => by omega, fun _ => h1⟩
  refine gFor (fun m i z' => wX4_doorsTo_2 r Q m t i z') 7 (fun i z' => ∀ k : Int, 0 ≤ k → k < i → z' k = if k = t then 0 else 1000000000) (fun m i z' i0 i1 hp ih => ?_) (fun m z' hp => ?_) 0 ⟨by omega, by omega⟩ fa (fun k k0 k1 => by omega)
  · rw [wX4_doorsTo_2_s]
    refine ⟨by omega, fun c => by omega, fun c => ⟨by omega, fun c2 => ⟨by omega, fun w ew v e => ?_⟩, fun c2 => ⟨by omega, fun w ew v e => ?_⟩⟩⟩
    · subst ew e
      refine ih _ (fun k k0 k1 => ?_)
      by_cases ck : k = i
      · rw [ck, su_at, if_neg c2]
      · rw [su_ne _ _ ck]; exact hp k k0 (by omega)
    · subst ew e
      refine ih _ (fun k k0 k1 => ?_)
      by_cases ck : k = i
      · rw [ck, su_at, if_pos c2]
      · rw [su_ne _ _ ck]; exact hp k k0 (by omega)
  · rw [wX4_doorsTo_2_s]
    exact ⟨by omega, fun _ => l3 z' hp, fun c => by omega⟩
/-- onward is towards -/
theorem s4_onward {op fa0 fa r : AR} (hr : wfR op fa0) (hd : ∀ a b : Int, 0 ≤ a → a < 7 → 0 ≤ b → b < 7 → (0 ≤ r (3 + a) ∧ r (3 + a) ≤ 127) ∧ (r (3 + a) / 2 ^ b.toNat) % (1 + 1) = op (a * 7 + b)) {a t : Int} (a0 : 0 ≤ a) (a1 : a < 7) (t0 : 0 ≤ t) (t1 : t < 7) {Q : Int → AR → Prop} (hQ : ∀ z : AR, Q (mTow op fa0 a t) z) : wX4_onward fa r a t Q := by
  refine s4_doorsTo hr hd t0 t1 (fun z hz => ?_)
  have za := hz a a0 a1
  have ha := (hr.1 a t a0 a1 t0 t1).2.2.2.1
  have none_ : fa0 (a * 7 + t) = 1000 → ∀ (n : Nat) (i : Int), 0 ≤ i → i + n ≤ 7 → mTowF op fa0 a t n i = a := by
    intro hinf n
    induction n with
    | zero => intro i _ _; rfl
    | succ n ih =>
      intro i i0 i1
      unfold mTowF
      rw [if_neg (fun c => ?_)]
      · exact ih (i + 1) (by omega) (by omega)
      · have h1 := hr.2.1 a i t a0 a1 i0 (by omega) t0 t1 c.1
        have h2 := hr.2.2.2 i t i0 (by omega) t0 t1
        omega
  refine ⟨⟨a0, a1⟩, by split at za <;> omega, fun c => ?_, fun c => ?_⟩
  · have hfin : ¬ fa0 (a * 7 + t) = 1000 := fun h => c (by rw [za, if_pos h])
    rw [if_neg hfin] at za
    refine gFor (fun m i (_ : Unit) => wX4_onward_22 r Q m a i z) 7 (fun i _ => Q (mTowF op fa0 a t (7 - i).toNat i) z) (fun m i _ i0 i1 hp ih => ?_) (fun m _ hp => ?_) 0 ⟨by omega, by omega⟩ () (by rw [show ((7 : Int) - 0).toNat = 7 from rfl]; exact hQ z)
    · rw [wX4_onward_22_s]
      have dd := hd a i a0 a1 i0 i1
      have oo := (hr.1 a i a0 a1 i0 i1).1
      have zi := hz i i0 i1
      have hi := (hr.1 i t i0 i1 t0 t1).2.2.2.1
      have h1 := hr.2.1 a i t a0 a1 i0 i1 t0 t1
      have h2 := hr.2.2.2 a t a0 a1 t0 t1
      rw [show (7 - i).toNat = (7 - (i + 1)).toNat + 1 by omega] at hp
      unfold mTowF at hp
      rw [dd.2]
      have zi2 : gR (z i) := by split at zi <;> constructor <;> omega
      refine ⟨by omega, fun c => by omega, fun c => ⟨by omega, by omega, by omega, by omega, fun c2 v e => ?_, fun c2 => ⟨by omega, by omega, zi2, by omega, fun c3 v e => ?_, fun c3 => ?_⟩⟩⟩
      · subst e; rw [if_neg (fun q => c2 q.1)] at hp; exact ih () hp
      · subst e
        rw [if_neg (fun q => ?_)] at hp
        · exact ih () hp
        · have := h1 c2
          rw [if_neg (by omega)] at zi
          omega
      · have hlt : fa0 (i * 7 + t) < fa0 (a * 7 + t) := by
          by_cases c4 : fa0 (i * 7 + t) = 1000
          · rw [if_pos c4] at zi; omega
          · rw [if_neg c4] at zi; omega
        rw [if_pos ⟨c2, hlt⟩] at hp
        exact hp
    · rw [wX4_onward_22_s]
      rw [Int.sub_self] at hp
      exact ⟨by omega, fun _ => hp, fun c => by omega⟩
  · have hinf : fa0 (a * 7 + t) = 1000 := by
      by_cases h : fa0 (a * 7 + t) = 1000
      · exact h
      · rw [if_neg h] at za; omega
    have := hQ z
    unfold mTow at this
    rw [none_ hinf 7 0 (by omega) (by omega)] at this
    exact this
theorem s4_doors {op fa0 fa r : AR} (hr : wfR op fa0) (hd : ∀ a b : Int, 0 ≤ a → a < 7 → 0 ≤ b → b < 7 → (0 ≤ r (3 + a) ∧ r (3 + a) ≤ 127) ∧ (r (3 + a) / 2 ^ b.toNat) % (1 + 1) = op (a * 7 + b)) {a t : Int} (a0 : 0 ≤ a) (a1 : a < 7) (t0 : 0 ≤ t) (t1 : t < 7) {Q : Int → AR → Prop} (hQ : ∀ z : AR, Q (if fa0 (a * 7 + t) = 1000 then -9 else fa0 (a * 7 + t)) z) : wX4_doors fa r a t Q := by
  refine s4_doorsTo hr hd t0 t1 (fun z hz => ?_)
  have za := hz a a0 a1
  have ha := (hr.1 a t a0 a1 t0 t1).2.2.2.1
  have hq := hQ z
  by_cases h : fa0 (a * 7 + t) = 1000
  · rw [if_pos h] at za hq
    exact ⟨⟨a0, a1⟩, by omega, fun c => absurd za c, fun _ => hq⟩
  · rw [if_neg h] at za hq
    exact ⟨⟨a0, a1⟩, by omega, fun c => ⟨⟨a0, a1⟩, by rw [za]; exact hq⟩, fun c => by omega⟩
