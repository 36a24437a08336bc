/-! the fewest doors: what measure makes is a distance, and the reference's search finds it -/
def rch (op : AR) : Nat → Int → Int → Prop
  | 0, a, b => a = b
  | n + 1, a, b => ∃ c : Int, (0 ≤ c ∧ c < 7) ∧ op (a * 7 + c) = 1 ∧ rch op n c b
theorem rch_add {op : AR} : ∀ (n m : Nat) (a b c : Int), rch op n a b → rch op m b c → rch op (n + m) a c := by
  intro n
  induction n with
  | zero => intro m a b c h1 h2; rw [Nat.zero_add]; have h1 : a = b := h1; rw [h1]; exact h2
  | succ n ih =>
    intro m a b c h1 h2
    obtain ⟨d, hd, ho, hr⟩ := h1
    rw [show n + 1 + m = (n + m) + 1 by omega]
    exact ⟨d, hd, ho, ih m d b c hr h2⟩
/-- doors as they must be -/
def wfO (op : AR) : Prop := ∀ a b : Int, 0 ≤ a → a < 7 → 0 ≤ b → b < 7 → (op (a * 7 + b) = 0 ∨ op (a * 7 + b) = 1) ∧ op (b * 7 + a) = op (a * 7 + b) ∧ op (a * 7 + a) = 0
/-- measured by the rooms below k -/
def fwI (op : AR) (k : Int) (f : AR) : Prop := (∀ a b : Int, 0 ≤ a → a < 7 → 0 ≤ b → b < 7 → (0 ≤ f (a * 7 + b) ∧ f (a * 7 + b) ≤ 1000) ∧ f (a * 7 + a) = 0 ∧ (¬ a = b → 1 ≤ f (a * 7 + b)) ∧ (op (a * 7 + b) = 1 → f (a * 7 + b) ≤ 1) ∧ (f (a * 7 + b) = 1000 ∨ rch op (f (a * 7 + b)).toNat a b)) ∧
  (∀ i a t : Int, 0 ≤ i → i < k → i < 7 → 0 ≤ a → a < 7 → 0 ≤ t → t < 7 → f (a * 7 + t) ≤ f (a * 7 + i) + f (i * 7 + t))
theorem fw_step {op f z : AR} {k : Int} (hk : 0 ≤ k ∧ k < 7) (h : fwI op k f) (hz : ∀ a t : Int, 0 ≤ a → a < 7 → 0 ≤ t → t < 7 → z (a * 7 + t) = min (f (a * 7 + t)) (f (a * 7 + k) + f (k * 7 + t))) : fwI op (k + 1) z := by
  refine ⟨fun a b a0 a1 b0 b1 => ?_, fun i a t i0 i1 i2 a0 a1 t0 t1 => ?_⟩
  · have h1 := h.1 a b a0 a1 b0 b1
    have h2 := h.1 a k a0 a1 hk.1 hk.2
    have h3 := h.1 k b hk.1 hk.2 b0 b1
    have e1 := hz a b a0 a1 b0 b1
    have e2 := hz a a a0 a1 a0 a1
    have h4 := h.1 k a hk.1 hk.2 a0 a1
    refine ⟨by omega, by omega, fun c => ?_, fun c => by have := h1.2.2.2.1 c; omega, ?_⟩
    · by_cases ca : a = k
      · have := h3.2.2.1 (by omega); have := h1.2.2.1 c; omega
      · have := h2.2.2.1 ca; have := h1.2.2.1 c; omega
    · by_cases cm : f (a * 7 + b) ≤ f (a * 7 + k) + f (k * 7 + b)
      · rw [show z (a * 7 + b) = f (a * 7 + b) by omega]; exact h1.2.2.2.2
      · rw [show z (a * 7 + b) = f (a * 7 + k) + f (k * 7 + b) by omega]
        rcases h2.2.2.2.2 with c2 | c2
        · omega
        · rcases h3.2.2.2.2 with c3 | c3
          · omega
          · right
            rw [show (f (a * 7 + k) + f (k * 7 + b)).toNat = (f (a * 7 + k)).toNat + (f (k * 7 + b)).toNat by omega]
            exact rch_add _ _ a k b c2 c3
  · have e1 := hz a t a0 a1 t0 t1
    have e2 := hz a i a0 a1 i0 i2
    have e3 := hz i t i0 i2 t0 t1
    have n1 := (h.1 a k a0 a1 hk.1 hk.2).1
    have n2 := (h.1 k t hk.1 hk.2 t0 t1).1
    have n3 := (h.1 k i hk.1 hk.2 i0 i2).1
    have n4 := (h.1 i k i0 i2 hk.1 hk.2).1
    by_cases c : i = k
    · subst c
      have n5 := (h.1 i i i0 i2 i0 i2).2.1
      omega
    · have c1 := h.2 i a t i0 (by omega) i2 a0 a1 t0 t1
      have c2 := h.2 i k t i0 (by omega) i2 hk.1 hk.2 t0 t1
      have c3 := h.2 i a k i0 (by omega) i2 a0 a1 hk.1 hk.2
      omega
theorem rch_le {op f : AR} (hf : fwI op 7 f) {t : Int} (t0 : 0 ≤ t) (t1 : t < 7) : ∀ (n : Nat) (a : Int), 0 ≤ a → a < 7 → rch op n a t → f (a * 7 + t) ≤ n := by
  intro n
  induction n with
  | zero => intro a a0 a1 h; have h : a = t := h; subst h; have := (hf.1 a a a0 a1 a0 a1).2.1; omega
  | succ n ih =>
    intro a a0 a1 h
    obtain ⟨c, hc, ho, hr⟩ := h
    have h1 := ih c hc.1 hc.2 hr
    have h2 := hf.2 c a t hc.1 hc.2 hc.2 a0 a1 t0 t1
    have h3 := (hf.1 a c a0 a1 hc.1 hc.2).2.2.2.1 ho
    omega
theorem pigeon : ∀ (n : Nat) (L : List Int), (∀ i : Nat, i < n → (i : Int) ∈ L) → n ≤ L.length := by
  intro n
  induction n with
  | zero => intro L _; exact Nat.zero_le _
  | succ n ih =>
    intro L h
    have hm := h n (Nat.lt_succ_self n)
    have h1 := ih (L.erase (n : Int)) (fun i hi => (List.mem_erase_of_ne (by omega)).mpr (h i (by omega)))
    rw [List.length_erase_of_mem hm] at h1
    have : 0 < L.length := List.length_pos_of_mem hm
    omega
theorem fw_done {op f : AR} (ho : wfO op) (hf : fwI op 7 f) : wfR op f := by
  have desc : ∀ a t : Int, 0 ≤ a → a < 7 → 0 ≤ t → t < 7 → ¬ a = t → f (a * 7 + t) = 1000 ∨ ∃ b : Int, 0 ≤ b ∧ b < 7 ∧ op (a * 7 + b) = 1 ∧ f (b * 7 + t) = f (a * 7 + t) - 1 := by
    intro a t a0 a1 t0 t1 hat
    have h1 := hf.1 a t a0 a1 t0 t1
    rcases h1.2.2.2.2 with c | c
    · exact Or.inl c
    · have h2 := h1.2.2.1 hat
      rw [show (f (a * 7 + t)).toNat = ((f (a * 7 + t)).toNat - 1) + 1 by omega] at c
      obtain ⟨b, hb, hob, hr⟩ := c
      have h3 := rch_le hf t0 t1 _ b hb.1 hb.2 hr
      have h4 := hf.2 b a t hb.1 hb.2 hb.2 a0 a1 t0 t1
      have h5 := (hf.1 a b a0 a1 hb.1 hb.2).2.2.2.1 hob
      exact Or.inr ⟨b, hb.1, hb.2, hob, by omega⟩
  refine ⟨fun a b a0 a1 b0 b1 => ?_, fun a b t a0 a1 b0 b1 t0 t1 hab => ?_, desc, fun a t a0 a1 t0 t1 => ?_⟩
  · have h1 := ho a b a0 a1 b0 b1
    have h2 := hf.1 a b a0 a1 b0 b1
    exact ⟨h1.1, h1.2.1, h1.2.2, h2.1, h2.2.1, h2.2.2.1⟩
  · have h4 := hf.2 b a t b0 b1 b1 a0 a1 t0 t1
    have h5 := (hf.1 a b a0 a1 b0 b1).2.2.2.1 hab
    omega
  · by_cases c : f (a * 7 + t) = 1000
    · exact Or.inr c
    · left
      have all : ∀ (n : Nat) (a : Int), 0 ≤ a → a < 7 → f (a * 7 + t) = n → n < 1000 → ∀ i : Nat, i < n + 1 → ∃ b : Int, 0 ≤ b ∧ b < 7 ∧ f (b * 7 + t) = i := by
        intro n
        induction n with
        | zero => intro a a0 a1 h _ i hi; exact ⟨a, a0, a1, by omega⟩
        | succ n ih =>
          intro a a0 a1 h hn i hi
          by_cases e : i = n + 1
          · exact ⟨a, a0, a1, by omega⟩
          · have hat : ¬ a = t := fun z => by subst z; have := (hf.1 a a a0 a1 a0 a1).2.1; omega
            rcases desc a t a0 a1 t0 t1 hat with z | ⟨b, b0, b1, _, hb⟩
            · omega
            · exact ih b b0 b1 (by omega) (by omega) i (by omega)
      have h0 := (hf.1 a t a0 a1 t0 t1).1
      have h1 := pigeon ((f (a * 7 + t)).toNat + 1) [f (0 * 7 + t), f (1 * 7 + t), f (2 * 7 + t), f (3 * 7 + t), f (4 * 7 + t), f (5 * 7 + t), f (6 * 7 + t)] (fun i hi => by
        obtain ⟨b, b0, b1, hb⟩ := all (f (a * 7 + t)).toNat a a0 a1 (by omega) (by omega) i hi
        rw [← hb]
        rcases (show b = 0 ∨ b = 1 ∨ b = 2 ∨ b = 3 ∨ b = 4 ∨ b = 5 ∨ b = 6 by omega) with rfl | rfl | rfl | rfl | rfl | rfl | rfl <;> simp)
      have h2 : (f (a * 7 + t)).toNat + 1 ≤ 7 := h1
      omega
theorem s2_shortenBy {op fa : AR} {k : Int} (hk : 0 ≤ k ∧ k < 7) (h : fwI op k fa) {Q : AR → Prop} (hQ : ∀ z : AR, fwI op (k + 1) z → Q z) : wX2_shortenBy fa k Q := by
  -- what is done so far: the rows below a, and of row a what is below b
  have hkk := (h.1 k k hk.1 hk.2 hk.1 hk.2).2.1
  let J : Int → Int → AR → Prop := fun a b z => ∀ a' t : Int, 0 ≤ a' → a' < 7 → 0 ≤ t → t < 7 → (a' < a ∨ (a' = a ∧ t < b) → z (a' * 7 + t) = min (fa (a' * 7 + t)) (fa (a' * 7 + k) + fa (k * 7 + t))) ∧ (¬ (a' < a ∨ (a' = a ∧ t < b)) → z (a' * 7 + t) = fa (a' * 7 + t))
  have inner : ∀ (K2 : Int → Int → AR → Prop) (a : Int) (z : AR), 0 ≤ a → a < 7 → J a 0 z → (∀ z', J (a + 1) 0 z' → K2 k (a + 1) z') → ∃ n : Nat, wX2_shortenBy_10 K2 Q n k a 0 z := by
    intro K2 a z a0 a1 hz hK
    refine gFor (fun n i z' => wX2_shortenBy_10 K2 Q n k a i z') 7 (fun i z' => J a i z') (fun n i z' i0 i1 hp ih => ?_) (fun n z' hp => ?_) 0 ⟨by omega, by omega⟩ z hz
    · rw [wX2_shortenBy_10_s]
      have m1 := h.1 a i a0 a1 i0 i1
      have m2 := h.1 a k a0 a1 hk.1 hk.2
      have m3 := h.1 k i hk.1 hk.2 i0 i1
      have p1 := hp a k a0 a1 hk.1 hk.2
      have p2 := hp k i hk.1 hk.2 i0 i1
      have p3 := (hp a i a0 a1 i0 i1).2 (by omega)
      have e1 : z' (a * 7 + k) = fa (a * 7 + k) := by
        by_cases c : k < i
        · have := p1.1 (Or.inr ⟨rfl, c⟩); omega
        · exact p1.2 (by omega)
      have e2 : z' (k * 7 + i) = fa (k * 7 + i) := by
        by_cases c : k < a
        · have := p2.1 (Or.inl c); omega
        · exact p2.2 (by omega)
      refine ⟨by omega, fun c => by omega, fun c => ⟨by omega, by omega, fun v ev => ⟨by omega, by omega, by omega, by omega, fun w ew v2 ev2 => ?_⟩⟩⟩
      subst ev ew ev2
      refine ih _ (fun a' t b0 b1 t0 t1 => ?_)
      have q := hp a' t b0 b1 t0 t1
      by_cases c3 : a' = a ∧ t = i
      · rw [c3.1, c3.2]
        refine ⟨fun _ => ?_, fun c4 => absurd (Or.inr ⟨rfl, by omega⟩) c4⟩
        rw [su_at, e1, e2, p3]
      · rw [su_ne _ _ (by omega)]
        exact ⟨fun c4 => q.1 (by omega), fun c4 => q.2 (by omega)⟩
    · rw [wX2_shortenBy_10_s]
      refine ⟨by omega, fun _ v ev => ?_, fun c => by omega⟩
      subst ev
      exact hK z' (fun a' t b0 b1 t0 t1 => ⟨fun c => (hp a' t b0 b1 t0 t1).1 (by omega), fun c => (hp a' t b0 b1 t0 t1).2 (by omega)⟩)
  refine gFor (fun n i z' => wX2_shortenBy_2 Q n k i z') 7 (fun i z' => J i 0 z') (fun n i z' i0 i1 hp ih => ?_) (fun n z' hp => ?_) 0 ⟨by omega, by omega⟩ fa (fun a' t b0 b1 t0 t1 => ⟨fun c => by omega, fun _ => rfl⟩)
  · rw [wX2_shortenBy_2_s]
    exact ⟨by omega, fun c => by omega, fun c => inner _ i z' i0 i1 hp ih⟩
  · rw [wX2_shortenBy_2_s]
    refine ⟨by omega, fun _ => hQ z' (fw_step hk h (fun a t a0 a1 t0 t1 => (hp a t a0 a1 t0 t1).1 (Or.inl a1))), fun c => by omega⟩
theorem s2_measure {op fa : AR} (ho : wfO op) {Q : AR → Prop} (hQ : ∀ z : AR, wfR op z → Q z) : wX2_measure op fa Q := by
  have l3 : ∀ z : AR, fwI op 0 z → ∃ n : Nat, wX2_measure_68 op Q n 0 z := by
    intro z hz
    refine gFor (fun n i z' => wX2_measure_68 op Q n i z') 7 (fun i z' => fwI op i z') (fun n i z' i0 i1 hp ih => ?_) (fun n z' hp => ?_) 0 ⟨by omega, by omega⟩ z hz
    · rw [wX2_measure_68_s]
      refine ⟨by omega, fun c => by omega, fun c => s2_shortenBy ⟨i0, i1⟩ hp (fun w hw v e => ?_)⟩
      subst e
      exact ih w hw
    · rw [wX2_measure_68_s]
      exact ⟨by omega, fun _ => hQ z' (fw_done ho hp), fun c => by omega⟩
  have l2 : ∀ z : AR, (∀ j : Int, 0 ≤ j → j < 49 → z j = if op j = 1 then 1 else 1000) → ∃ n : Nat, wX2_measure_42 op Q n 0 z := by
    intro z hz
    refine gFor (fun n i z' => wX2_measure_42 op Q n i z') 7 (fun i z' => ∀ a b : Int, 0 ≤ a → a < 7 → 0 ≤ b → b < 7 → z' (a * 7 + b) = if a = b ∧ a < i then 0 else if op (a * 7 + b) = 1 then 1 else 1000) (fun n i z' i0 i1 hp ih => ?_) (fun n z' hp => ?_) 0 ⟨by omega, by omega⟩ z (fun a b a0 a1 b0 b1 => by rw [hz _ (by omega) (by omega), if_neg (show ¬ (a = b ∧ a < 0) by omega)])
    · rw [wX2_measure_42_s]
      refine ⟨by omega, fun c => by omega, fun c => ⟨by omega, fun w ew v e => ?_⟩⟩
      subst ew e
      refine ih _ (fun a b a0 a1 b0 b1 => ?_)
      by_cases c2 : a = i ∧ b = i
      · rw [c2.1, c2.2, su_at, if_pos ⟨rfl, by omega⟩]
      · rw [su_ne _ _ (by omega), hp a b a0 a1 b0 b1]
        by_cases c3 : a = b ∧ a < i
        · rw [if_pos c3, if_pos ⟨c3.1, by omega⟩]
        · rw [if_neg c3, if_neg (show ¬ (a = b ∧ a < i + 1) by omega)]
    · rw [wX2_measure_42_s]
      refine ⟨by omega, fun _ => l3 z' ⟨fun a b a0 a1 b0 b1 => ?_, fun i a t i0 i1 => by omega⟩, fun c => by omega⟩
      have e1 := hp a b a0 a1 b0 b1
      have e2 := hp a a a0 a1 a0 a1
      have h1 := ho a b a0 a1 b0 b1
      rw [if_pos ⟨rfl, a1⟩] at e2
      by_cases c : a = b
      · rw [if_pos ⟨c, a1⟩] at e1
        exact ⟨by omega, e2, fun z => absurd c z, fun _ => by omega, Or.inr (by rw [e1]; exact c)⟩
      · rw [if_neg (fun z => c z.1)] at e1
        by_cases c1 : op (a * 7 + b) = 1
        · rw [if_pos c1] at e1
          refine ⟨by omega, e2, fun _ => by omega, fun _ => by omega, Or.inr ?_⟩
          rw [e1]
          exact ⟨b, ⟨b0, b1⟩, c1, rfl⟩
        · rw [if_neg c1] at e1
          exact ⟨by omega, e2, fun _ => by omega, fun z => absurd z c1, Or.inl e1⟩
  refine gFor (fun n i z' => wX2_measure_2 op Q n i z') 49 (fun i z' => ∀ j : Int, 0 ≤ j → j < i → z' j = if op j = 1 then 1 else 1000) (fun n i z' i0 i1 hp ih => ?_) (fun n z' hp => ?_) 0 ⟨by omega, by omega⟩ fa (fun j j0 j1 => by omega)
  · rw [wX2_measure_2_s]
    have h1 := (ho (i / 7) (i % 7) (by omega) (by omega) (by omega) (by omega)).1
    rw [show i / 7 * 7 + i % 7 = i by omega] at h1
    refine ⟨by omega, fun c => by omega, fun c => ⟨by omega, by omega, fun c2 => ⟨by omega, fun w ew v e => ?_⟩, fun c2 => ⟨by omega, fun w ew v e => ?_⟩⟩⟩
    · subst ew e
      refine ih _ (fun j j0 j1 => ?_)
      by_cases c3 : j = i
      · rw [c3, su_at, if_neg c2]
      · rw [su_ne _ _ c3]; exact hp j j0 (by omega)
    · subst ew e
      refine ih _ (fun j j0 j1 => ?_)
      by_cases c3 : j = i
      · rw [c3, su_at, if_pos c2]
      · rw [su_ne _ _ c3]; exact hp j j0 (by omega)
  · rw [wX2_measure_2_s]
    exact ⟨by omega, fun _ => l2 z' hp, fun c => by omega⟩
